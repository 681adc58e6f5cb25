section
/-- a private method of a class that the tables say can be made, by its rows of tables_1 -/
def lw_okq (q : MethodName × Nat) : Prop := (q.1.cls ≠ "java/lang/invoke/MethodHandle" ∧ q.1.cls ≠ "java/lang/invoke/VarHandle") ∧ Cond.instantiable q.1.cls q.2 ∈ tables_1 ∧ Cond.privateMethod q.1 ∈ tables_1 ∧ Cond.instanceMethod q.1 ∈ tables_1
theorem lw_p0 : lw_okq (⟨"CanalRings", "found", "(I)I"⟩, 15) := ⟨⟨by decide +kernel, by decide +kernel⟩, List.mem_of_getElem? (i := 12) (by decide +kernel), List.mem_of_getElem? (i := 181) (by decide +kernel), List.mem_of_getElem? (i := 182) (by decide +kernel)⟩
theorem lw_p1 : lw_okq (⟨"CanalRings", "tell", "(I)I"⟩, 15) := ⟨⟨by decide +kernel, by decide +kernel⟩, List.mem_of_getElem? (i := 12) (by decide +kernel), List.mem_of_getElem? (i := 189) (by decide +kernel), List.mem_of_getElem? (i := 190) (by decide +kernel)⟩
theorem lw_p2 : lw_okq (⟨"CanalRings$Canal", "act", "(II)V"⟩, 12) := ⟨⟨by decide +kernel, by decide +kernel⟩, List.mem_of_getElem? (i := 41) (by decide +kernel), List.mem_of_getElem? (i := 265) (by decide +kernel), List.mem_of_getElem? (i := 266) (by decide +kernel)⟩
theorem lw_p3 : lw_okq (⟨"CanalRings$Canal", "passYear", "()V"⟩, 12) := ⟨⟨by decide +kernel, by decide +kernel⟩, List.mem_of_getElem? (i := 41) (by decide +kernel), List.mem_of_getElem? (i := 273) (by decide +kernel), List.mem_of_getElem? (i := 274) (by decide +kernel)⟩
theorem lw_p4 : lw_okq (⟨"CanalRings$Canal", "step", "(IIII)I"⟩, 12) := ⟨⟨by decide +kernel, by decide +kernel⟩, List.mem_of_getElem? (i := 41) (by decide +kernel), List.mem_of_getElem? (i := 289) (by decide +kernel), List.mem_of_getElem? (i := 290) (by decide +kernel)⟩
theorem lw_p5 : lw_okq (⟨"CanalRings$Crowd", "seat", "(LCanalRings$Canal;III)V"⟩, 3) := ⟨⟨by decide +kernel, by decide +kernel⟩, List.mem_of_getElem? (i := 97) (by decide +kernel), List.mem_of_getElem? (i := 443) (by decide +kernel), List.mem_of_getElem? (i := 444) (by decide +kernel)⟩
theorem lw_p6 : lw_okq (⟨"CanalRings", "stepsHome", "(II)I"⟩, 15) := ⟨⟨by decide +kernel, by decide +kernel⟩, List.mem_of_getElem? (i := 12) (by decide +kernel), List.mem_of_getElem? (i := 470) (by decide +kernel), List.mem_of_getElem? (i := 471) (by decide +kernel)⟩
theorem lw_p7 : lw_okq (⟨"CanalRings", "pairsFinding", "(I)I"⟩, 15) := ⟨⟨by decide +kernel, by decide +kernel⟩, List.mem_of_getElem? (i := 12) (by decide +kernel), List.mem_of_getElem? (i := 492) (by decide +kernel), List.mem_of_getElem? (i := 493) (by decide +kernel)⟩
theorem lw_p8 : lw_okq (⟨"CanalRings", "fitsPairs", "(IIII)Z"⟩, 15) := ⟨⟨by decide +kernel, by decide +kernel⟩, List.mem_of_getElem? (i := 12) (by decide +kernel), List.mem_of_getElem? (i := 496) (by decide +kernel), List.mem_of_getElem? (i := 497) (by decide +kernel)⟩
theorem lw_p9 : lw_okq (⟨"CanalRings", "isChance", "(III)Z"⟩, 15) := ⟨⟨by decide +kernel, by decide +kernel⟩, List.mem_of_getElem? (i := 12) (by decide +kernel), List.mem_of_getElem? (i := 521) (by decide +kernel), List.mem_of_getElem? (i := 522) (by decide +kernel)⟩
theorem lw_p10 : lw_okq (⟨"CanalRings", "tellRatio", "(JJ)I"⟩, 15) := ⟨⟨by decide +kernel, by decide +kernel⟩, List.mem_of_getElem? (i := 12) (by decide +kernel), List.mem_of_getElem? (i := 534) (by decide +kernel), List.mem_of_getElem? (i := 535) (by decide +kernel)⟩
theorem lw_p11 : lw_okq (⟨"CanalRingsModel", "found", "(I)I"⟩, 33) := ⟨⟨by decide +kernel, by decide +kernel⟩, List.mem_of_getElem? (i := 599) (by decide +kernel), List.mem_of_getElem? (i := 717) (by decide +kernel), List.mem_of_getElem? (i := 718) (by decide +kernel)⟩
theorem lw_p12 : lw_okq (⟨"CanalRingsModel", "tell", "(I)I"⟩, 33) := ⟨⟨by decide +kernel, by decide +kernel⟩, List.mem_of_getElem? (i := 599) (by decide +kernel), List.mem_of_getElem? (i := 725) (by decide +kernel), List.mem_of_getElem? (i := 726) (by decide +kernel)⟩
theorem lw_p13 : lw_okq (⟨"CanalRingsModel", "faultOf", "(I)I"⟩, 33) := ⟨⟨by decide +kernel, by decide +kernel⟩, List.mem_of_getElem? (i := 599) (by decide +kernel), List.mem_of_getElem? (i := 761) (by decide +kernel), List.mem_of_getElem? (i := 762) (by decide +kernel)⟩
theorem lw_p14 : lw_okq (⟨"CanalRingsModel", "blanks", "(I)V"⟩, 33) := ⟨⟨by decide +kernel, by decide +kernel⟩, List.mem_of_getElem? (i := 599) (by decide +kernel), List.mem_of_getElem? (i := 765) (by decide +kernel), List.mem_of_getElem? (i := 766) (by decide +kernel)⟩
theorem lw_p15 : lw_okq (⟨"CanalRingsModel", "byteAt", "(I)I"⟩, 33) := ⟨⟨by decide +kernel, by decide +kernel⟩, List.mem_of_getElem? (i := 599) (by decide +kernel), List.mem_of_getElem? (i := 769) (by decide +kernel), List.mem_of_getElem? (i := 770) (by decide +kernel)⟩
def lw_privs_1 : List (MethodName × Nat) := [(⟨"CanalRings", "found", "(I)I"⟩, 15), (⟨"CanalRings", "tell", "(I)I"⟩, 15), (⟨"CanalRings$Canal", "act", "(II)V"⟩, 12), (⟨"CanalRings$Canal", "passYear", "()V"⟩, 12), (⟨"CanalRings$Canal", "step", "(IIII)I"⟩, 12), (⟨"CanalRings$Crowd", "seat", "(LCanalRings$Canal;III)V"⟩, 3), (⟨"CanalRings", "stepsHome", "(II)I"⟩, 15), (⟨"CanalRings", "pairsFinding", "(I)I"⟩, 15), (⟨"CanalRings", "fitsPairs", "(IIII)Z"⟩, 15), (⟨"CanalRings", "isChance", "(III)Z"⟩, 15), (⟨"CanalRings", "tellRatio", "(JJ)I"⟩, 15), (⟨"CanalRingsModel", "found", "(I)I"⟩, 33), (⟨"CanalRingsModel", "tell", "(I)I"⟩, 33), (⟨"CanalRingsModel", "faultOf", "(I)I"⟩, 33), (⟨"CanalRingsModel", "blanks", "(I)V"⟩, 33), (⟨"CanalRingsModel", "byteAt", "(I)I"⟩, 33)]
theorem lw_r1 : ∀ q ∈ lw_privs_1, lw_okq q := List.forall_mem_cons.mpr ⟨lw_p0, List.forall_mem_cons.mpr ⟨lw_p1, List.forall_mem_cons.mpr ⟨lw_p2, List.forall_mem_cons.mpr ⟨lw_p3, List.forall_mem_cons.mpr ⟨lw_p4, List.forall_mem_cons.mpr ⟨lw_p5, List.forall_mem_cons.mpr ⟨lw_p6, List.forall_mem_cons.mpr ⟨lw_p7, List.forall_mem_cons.mpr ⟨lw_p8, List.forall_mem_cons.mpr ⟨lw_p9, List.forall_mem_cons.mpr ⟨lw_p10, List.forall_mem_cons.mpr ⟨lw_p11, List.forall_mem_cons.mpr ⟨lw_p12, List.forall_mem_cons.mpr ⟨lw_p13, List.forall_mem_cons.mpr ⟨lw_p14, List.forall_mem_cons.mpr ⟨lw_p15, fun _ h => absurd h List.not_mem_nil⟩⟩⟩⟩⟩⟩⟩⟩⟩⟩⟩⟩⟩⟩⟩⟩
theorem lw_p16 : lw_okq (⟨"CanalRingsModel", "readsFirst", "(I)Z"⟩, 33) := ⟨⟨by decide +kernel, by decide +kernel⟩, List.mem_of_getElem? (i := 599) (by decide +kernel), List.mem_of_getElem? (i := 773) (by decide +kernel), List.mem_of_getElem? (i := 774) (by decide +kernel)⟩
theorem lw_p17 : lw_okq (⟨"CanalRingsModel", "takes", "(II)Z"⟩, 33) := ⟨⟨by decide +kernel, by decide +kernel⟩, List.mem_of_getElem? (i := 599) (by decide +kernel), List.mem_of_getElem? (i := 777) (by decide +kernel), List.mem_of_getElem? (i := 778) (by decide +kernel)⟩
theorem lw_p18 : lw_okq (⟨"CanalRingsModel", "readsThing", "(I)Z"⟩, 33) := ⟨⟨by decide +kernel, by decide +kernel⟩, List.mem_of_getElem? (i := 599) (by decide +kernel), List.mem_of_getElem? (i := 781) (by decide +kernel), List.mem_of_getElem? (i := 782) (by decide +kernel)⟩
theorem lw_p19 : lw_okq (⟨"CanalRingsModel", "isThing", "(I)Z"⟩, 33) := ⟨⟨by decide +kernel, by decide +kernel⟩, List.mem_of_getElem? (i := 599) (by decide +kernel), List.mem_of_getElem? (i := 796) (by decide +kernel), List.mem_of_getElem? (i := 797) (by decide +kernel)⟩
theorem lw_p20 : lw_okq (⟨"CanalRingsModel", "told", "(II)I"⟩, 33) := ⟨⟨by decide +kernel, by decide +kernel⟩, List.mem_of_getElem? (i := 599) (by decide +kernel), List.mem_of_getElem? (i := 801) (by decide +kernel), List.mem_of_getElem? (i := 802) (by decide +kernel)⟩
theorem lw_p21 : lw_okq (⟨"CanalRingsModel", "drifts", "(III)I"⟩, 33) := ⟨⟨by decide +kernel, by decide +kernel⟩, List.mem_of_getElem? (i := 599) (by decide +kernel), List.mem_of_getElem? (i := 805) (by decide +kernel), List.mem_of_getElem? (i := 806) (by decide +kernel)⟩
theorem lw_p22 : lw_okq (⟨"CanalRingsModel", "isTaken", "(I)Z"⟩, 33) := ⟨⟨by decide +kernel, by decide +kernel⟩, List.mem_of_getElem? (i := 599) (by decide +kernel), List.mem_of_getElem? (i := 816) (by decide +kernel), List.mem_of_getElem? (i := 817) (by decide +kernel)⟩
theorem lw_p23 : lw_okq (⟨"CanalRingsModel", "cellOf", "(I)I"⟩, 33) := ⟨⟨by decide +kernel, by decide +kernel⟩, List.mem_of_getElem? (i := 599) (by decide +kernel), List.mem_of_getElem? (i := 820) (by decide +kernel), List.mem_of_getElem? (i := 821) (by decide +kernel)⟩
theorem lw_p24 : lw_okq (⟨"CanalRingsModel", "kindsOf", "(I)I"⟩, 33) := ⟨⟨by decide +kernel, by decide +kernel⟩, List.mem_of_getElem? (i := 599) (by decide +kernel), List.mem_of_getElem? (i := 827) (by decide +kernel), List.mem_of_getElem? (i := 828) (by decide +kernel)⟩
theorem lw_p25 : lw_okq (⟨"CanalRingsModel", "refuses", "()I"⟩, 33) := ⟨⟨by decide +kernel, by decide +kernel⟩, List.mem_of_getElem? (i := 599) (by decide +kernel), List.mem_of_getElem? (i := 843) (by decide +kernel), List.mem_of_getElem? (i := 844) (by decide +kernel)⟩
theorem lw_p26 : lw_okq (⟨"CanalRingsModel", "yearGoes", "()V"⟩, 33) := ⟨⟨by decide +kernel, by decide +kernel⟩, List.mem_of_getElem? (i := 599) (by decide +kernel), List.mem_of_getElem? (i := 847) (by decide +kernel), List.mem_of_getElem? (i := 848) (by decide +kernel)⟩
theorem lw_p27 : lw_okq (⟨"CanalRingsModel", "remember", "()V"⟩, 33) := ⟨⟨by decide +kernel, by decide +kernel⟩, List.mem_of_getElem? (i := 599) (by decide +kernel), List.mem_of_getElem? (i := 851) (by decide +kernel), List.mem_of_getElem? (i := 852) (by decide +kernel)⟩
theorem lw_p28 : lw_okq (⟨"CanalRingsModel", "afterOf", "(III)I"⟩, 33) := ⟨⟨by decide +kernel, by decide +kernel⟩, List.mem_of_getElem? (i := 599) (by decide +kernel), List.mem_of_getElem? (i := 858) (by decide +kernel), List.mem_of_getElem? (i := 859) (by decide +kernel)⟩
theorem lw_p29 : lw_okq (⟨"CanalRingsModel", "after", "(IIII)I"⟩, 33) := ⟨⟨by decide +kernel, by decide +kernel⟩, List.mem_of_getElem? (i := 599) (by decide +kernel), List.mem_of_getElem? (i := 862) (by decide +kernel), List.mem_of_getElem? (i := 863) (by decide +kernel)⟩
theorem lw_p30 : lw_okq (⟨"CanalRingsModel", "next", "(IIII)I"⟩, 33) := ⟨⟨by decide +kernel, by decide +kernel⟩, List.mem_of_getElem? (i := 599) (by decide +kernel), List.mem_of_getElem? (i := 866) (by decide +kernel), List.mem_of_getElem? (i := 867) (by decide +kernel)⟩
theorem lw_p31 : lw_okq (⟨"CanalRingsModel", "turns", "(Z)V"⟩, 33) := ⟨⟨by decide +kernel, by decide +kernel⟩, List.mem_of_getElem? (i := 599) (by decide +kernel), List.mem_of_getElem? (i := 877) (by decide +kernel), List.mem_of_getElem? (i := 878) (by decide +kernel)⟩
def lw_privs_2 : List (MethodName × Nat) := [(⟨"CanalRingsModel", "readsFirst", "(I)Z"⟩, 33), (⟨"CanalRingsModel", "takes", "(II)Z"⟩, 33), (⟨"CanalRingsModel", "readsThing", "(I)Z"⟩, 33), (⟨"CanalRingsModel", "isThing", "(I)Z"⟩, 33), (⟨"CanalRingsModel", "told", "(II)I"⟩, 33), (⟨"CanalRingsModel", "drifts", "(III)I"⟩, 33), (⟨"CanalRingsModel", "isTaken", "(I)Z"⟩, 33), (⟨"CanalRingsModel", "cellOf", "(I)I"⟩, 33), (⟨"CanalRingsModel", "kindsOf", "(I)I"⟩, 33), (⟨"CanalRingsModel", "refuses", "()I"⟩, 33), (⟨"CanalRingsModel", "yearGoes", "()V"⟩, 33), (⟨"CanalRingsModel", "remember", "()V"⟩, 33), (⟨"CanalRingsModel", "afterOf", "(III)I"⟩, 33), (⟨"CanalRingsModel", "after", "(IIII)I"⟩, 33), (⟨"CanalRingsModel", "next", "(IIII)I"⟩, 33), (⟨"CanalRingsModel", "turns", "(Z)V"⟩, 33)]
theorem lw_r2 : ∀ q ∈ lw_privs_2, lw_okq q := List.forall_mem_cons.mpr ⟨lw_p16, List.forall_mem_cons.mpr ⟨lw_p17, List.forall_mem_cons.mpr ⟨lw_p18, List.forall_mem_cons.mpr ⟨lw_p19, List.forall_mem_cons.mpr ⟨lw_p20, List.forall_mem_cons.mpr ⟨lw_p21, List.forall_mem_cons.mpr ⟨lw_p22, List.forall_mem_cons.mpr ⟨lw_p23, List.forall_mem_cons.mpr ⟨lw_p24, List.forall_mem_cons.mpr ⟨lw_p25, List.forall_mem_cons.mpr ⟨lw_p26, List.forall_mem_cons.mpr ⟨lw_p27, List.forall_mem_cons.mpr ⟨lw_p28, List.forall_mem_cons.mpr ⟨lw_p29, List.forall_mem_cons.mpr ⟨lw_p30, List.forall_mem_cons.mpr ⟨lw_p31, fun _ h => absurd h List.not_mem_nil⟩⟩⟩⟩⟩⟩⟩⟩⟩⟩⟩⟩⟩⟩⟩⟩
theorem lw_p32 : lw_okq (⟨"CanalRingsModel", "mayMove", "(II)Z"⟩, 33) := ⟨⟨by decide +kernel, by decide +kernel⟩, List.mem_of_getElem? (i := 599) (by decide +kernel), List.mem_of_getElem? (i := 888) (by decide +kernel), List.mem_of_getElem? (i := 889) (by decide +kernel)⟩
theorem lw_p33 : lw_okq (⟨"CanalRingsModel", "goes", "(II)V"⟩, 33) := ⟨⟨by decide +kernel, by decide +kernel⟩, List.mem_of_getElem? (i := 599) (by decide +kernel), List.mem_of_getElem? (i := 892) (by decide +kernel), List.mem_of_getElem? (i := 893) (by decide +kernel)⟩
theorem lw_p34 : lw_okq (⟨"CanalRingsModel", "mayTake", "(I)Z"⟩, 33) := ⟨⟨by decide +kernel, by decide +kernel⟩, List.mem_of_getElem? (i := 599) (by decide +kernel), List.mem_of_getElem? (i := 900) (by decide +kernel), List.mem_of_getElem? (i := 901) (by decide +kernel)⟩
theorem lw_p35 : lw_okq (⟨"CanalRingsModel", "takesHome", "(I)V"⟩, 33) := ⟨⟨by decide +kernel, by decide +kernel⟩, List.mem_of_getElem? (i := 599) (by decide +kernel), List.mem_of_getElem? (i := 907) (by decide +kernel), List.mem_of_getElem? (i := 908) (by decide +kernel)⟩
theorem lw_p36 : lw_okq (⟨"CanalRingsModel", "answer", "(II)I"⟩, 33) := ⟨⟨by decide +kernel, by decide +kernel⟩, List.mem_of_getElem? (i := 599) (by decide +kernel), List.mem_of_getElem? (i := 933) (by decide +kernel), List.mem_of_getElem? (i := 934) (by decide +kernel)⟩
theorem lw_p37 : lw_okq (⟨"CanalRingsModel", "movesOf", "(III)I"⟩, 33) := ⟨⟨by decide +kernel, by decide +kernel⟩, List.mem_of_getElem? (i := 599) (by decide +kernel), List.mem_of_getElem? (i := 942) (by decide +kernel), List.mem_of_getElem? (i := 943) (by decide +kernel)⟩
theorem lw_p38 : lw_okq (⟨"CanalRingsModel", "firstOrder", "()V"⟩, 33) := ⟨⟨by decide +kernel, by decide +kernel⟩, List.mem_of_getElem? (i := 599) (by decide +kernel), List.mem_of_getElem? (i := 959) (by decide +kernel), List.mem_of_getElem? (i := 960) (by decide +kernel)⟩
theorem lw_p39 : lw_okq (⟨"CanalRingsModel", "nextOrder", "()Z"⟩, 33) := ⟨⟨by decide +kernel, by decide +kernel⟩, List.mem_of_getElem? (i := 599) (by decide +kernel), List.mem_of_getElem? (i := 963) (by decide +kernel), List.mem_of_getElem? (i := 964) (by decide +kernel)⟩
theorem lw_p40 : lw_okq (⟨"CanalRingsModel", "exchanges", "(II)V"⟩, 33) := ⟨⟨by decide +kernel, by decide +kernel⟩, List.mem_of_getElem? (i := 599) (by decide +kernel), List.mem_of_getElem? (i := 967) (by decide +kernel), List.mem_of_getElem? (i := 968) (by decide +kernel)⟩
theorem lw_p41 : lw_okq (⟨"CanalRingsModel", "layFar", "(I)V"⟩, 33) := ⟨⟨by decide +kernel, by decide +kernel⟩, List.mem_of_getElem? (i := 599) (by decide +kernel), List.mem_of_getElem? (i := 976) (by decide +kernel), List.mem_of_getElem? (i := 977) (by decide +kernel)⟩
theorem lw_p42 : lw_okq (⟨"CanalRingsModel", "homeBut", "(II)I"⟩, 33) := ⟨⟨by decide +kernel, by decide +kernel⟩, List.mem_of_getElem? (i := 599) (by decide +kernel), List.mem_of_getElem? (i := 984) (by decide +kernel), List.mem_of_getElem? (i := 985) (by decide +kernel)⟩
theorem lw_p43 : lw_okq (⟨"CanalRingsModel", "placeOf", "(I)I"⟩, 33) := ⟨⟨by decide +kernel, by decide +kernel⟩, List.mem_of_getElem? (i := 599) (by decide +kernel), List.mem_of_getElem? (i := 991) (by decide +kernel), List.mem_of_getElem? (i := 992) (by decide +kernel)⟩
theorem lw_p44 : lw_okq (⟨"CanalRingsModel", "wrongPairs", "(I)I"⟩, 33) := ⟨⟨by decide +kernel, by decide +kernel⟩, List.mem_of_getElem? (i := 599) (by decide +kernel), List.mem_of_getElem? (i := 1003) (by decide +kernel), List.mem_of_getElem? (i := 1004) (by decide +kernel)⟩
theorem lw_p45 : lw_okq (⟨"CanalRingsModel", "isSo", "(IIII)Z"⟩, 33) := ⟨⟨by decide +kernel, by decide +kernel⟩, List.mem_of_getElem? (i := 599) (by decide +kernel), List.mem_of_getElem? (i := 1007) (by decide +kernel), List.mem_of_getElem? (i := 1008) (by decide +kernel)⟩
theorem lw_p46 : lw_okq (⟨"CanalRingsModel", "weighed", "(IIII)I"⟩, 33) := ⟨⟨by decide +kernel, by decide +kernel⟩, List.mem_of_getElem? (i := 599) (by decide +kernel), List.mem_of_getElem? (i := 1029) (by decide +kernel), List.mem_of_getElem? (i := 1030) (by decide +kernel)⟩
theorem lw_p47 : lw_okq (⟨"CanalRingsModel", "fraction", "(JJ)I"⟩, 33) := ⟨⟨by decide +kernel, by decide +kernel⟩, List.mem_of_getElem? (i := 599) (by decide +kernel), List.mem_of_getElem? (i := 1033) (by decide +kernel), List.mem_of_getElem? (i := 1034) (by decide +kernel)⟩
def lw_privs_3 : List (MethodName × Nat) := [(⟨"CanalRingsModel", "mayMove", "(II)Z"⟩, 33), (⟨"CanalRingsModel", "goes", "(II)V"⟩, 33), (⟨"CanalRingsModel", "mayTake", "(I)Z"⟩, 33), (⟨"CanalRingsModel", "takesHome", "(I)V"⟩, 33), (⟨"CanalRingsModel", "answer", "(II)I"⟩, 33), (⟨"CanalRingsModel", "movesOf", "(III)I"⟩, 33), (⟨"CanalRingsModel", "firstOrder", "()V"⟩, 33), (⟨"CanalRingsModel", "nextOrder", "()Z"⟩, 33), (⟨"CanalRingsModel", "exchanges", "(II)V"⟩, 33), (⟨"CanalRingsModel", "layFar", "(I)V"⟩, 33), (⟨"CanalRingsModel", "homeBut", "(II)I"⟩, 33), (⟨"CanalRingsModel", "placeOf", "(I)I"⟩, 33), (⟨"CanalRingsModel", "wrongPairs", "(I)I"⟩, 33), (⟨"CanalRingsModel", "isSo", "(IIII)Z"⟩, 33), (⟨"CanalRingsModel", "weighed", "(IIII)I"⟩, 33), (⟨"CanalRingsModel", "fraction", "(JJ)I"⟩, 33)]
theorem lw_r3 : ∀ q ∈ lw_privs_3, lw_okq q := List.forall_mem_cons.mpr ⟨lw_p32, List.forall_mem_cons.mpr ⟨lw_p33, List.forall_mem_cons.mpr ⟨lw_p34, List.forall_mem_cons.mpr ⟨lw_p35, List.forall_mem_cons.mpr ⟨lw_p36, List.forall_mem_cons.mpr ⟨lw_p37, List.forall_mem_cons.mpr ⟨lw_p38, List.forall_mem_cons.mpr ⟨lw_p39, List.forall_mem_cons.mpr ⟨lw_p40, List.forall_mem_cons.mpr ⟨lw_p41, List.forall_mem_cons.mpr ⟨lw_p42, List.forall_mem_cons.mpr ⟨lw_p43, List.forall_mem_cons.mpr ⟨lw_p44, List.forall_mem_cons.mpr ⟨lw_p45, List.forall_mem_cons.mpr ⟨lw_p46, List.forall_mem_cons.mpr ⟨lw_p47, fun _ h => absurd h List.not_mem_nil⟩⟩⟩⟩⟩⟩⟩⟩⟩⟩⟩⟩⟩⟩⟩⟩
theorem lw_p48 : lw_okq (⟨"CanalRingsModel", "plays", "(II)V"⟩, 33) := ⟨⟨by decide +kernel, by decide +kernel⟩, List.mem_of_getElem? (i := 599) (by decide +kernel), List.mem_of_getElem? (i := 1049) (by decide +kernel), List.mem_of_getElem? (i := 1050) (by decide +kernel)⟩
theorem lw_p49 : lw_okq (⟨"CanalRingsModel", "counted", "(I)I"⟩, 33) := ⟨⟨by decide +kernel, by decide +kernel⟩, List.mem_of_getElem? (i := 599) (by decide +kernel), List.mem_of_getElem? (i := 1070) (by decide +kernel), List.mem_of_getElem? (i := 1071) (by decide +kernel)⟩
def lw_privs_4 : List (MethodName × Nat) := [(⟨"CanalRingsModel", "plays", "(II)V"⟩, 33), (⟨"CanalRingsModel", "counted", "(I)I"⟩, 33)]
theorem lw_r4 : ∀ q ∈ lw_privs_4, lw_okq q := List.forall_mem_cons.mpr ⟨lw_p48, List.forall_mem_cons.mpr ⟨lw_p49, fun _ h => absurd h List.not_mem_nil⟩⟩
def lw_privs : List (MethodName × Nat) := lw_privs_1 ++ (lw_privs_2 ++ (lw_privs_3 ++ (lw_privs_4)))
def lw_tbl : List Cond := k2_sels lw_privs ++ tables_1
theorem lw_privs_ok : ∀ q ∈ lw_privs, lw_okq q := by
  show ∀ q ∈ lw_privs_1 ++ (lw_privs_2 ++ (lw_privs_3 ++ (lw_privs_4))), lw_okq q
  exact List.forall_mem_append.mpr ⟨lw_r1, List.forall_mem_append.mpr ⟨lw_r2, List.forall_mem_append.mpr ⟨lw_r3, lw_r4⟩⟩⟩
end
section
def RX0 : String := "CanalRings$Canal"
def TX0 : u_T := fun k => match k with
  | 0 => ("CanalRings$Canal", "kinds", "[I", true)
  | 1 => ("CanalRings$Canal", "firstCells", "[I", true)
  | 2 => ("CanalRings$Canal", "cells", "[I", true)
  | 3 => ("CanalRings$Canal", "weights", "[I", true)
  | 4 => ("CanalRings$Canal", "gates", "[I", true)
  | 5 => ("CanalRings$Canal", "deedRow", "[I", true)
  | 6 => ("CanalRings$Canal", "things", "I", false)
  | 7 => ("CanalRings$Canal", "flow", "I", false)
  | 8 => ("CanalRings$Canal", "firstLevel", "I", false)
  | 9 => ("CanalRings$Canal", "level", "I", false)
  | 10 => ("CanalRings$Canal", "year", "I", false)
  | _ => ("CanalRings$Canal", "deeds", "I", false)
def tyX0 : Nat → FieldType := fun k => match k with
  | 0 => .array .int
  | 1 => .array .int
  | 2 => .array .int
  | 3 => .array .int
  | 4 => .array .int
  | 5 => .array .int
  | 6 => .int
  | 7 => .int
  | 8 => .int
  | 9 => .int
  | 10 => .int
  | _ => .int
theorem nmX0 : ∀ a, a < 12 → ∀ b, b < 12 → a ≠ b → (TX0 a).2.1 ≠ (TX0 b).2.1 := by decide +kernel
theorem tyX0_ok : ∀ k, k < 12 → parseFieldDescriptor (TX0 k).2.2.1 = some (tyX0 k) := by decide +kernel
abbrev cX0_init : ByteArray := prog_2_method_1_code
def yX0_init : MethodName := ⟨RX0, "<init>", "()V"⟩
abbrev cX0_fillFrom : ByteArray := prog_2_method_2_code
def yX0_fillFrom : MethodName := ⟨RX0, "fillFrom", "(LCanalRings$Reader;)V"⟩
abbrev cX0_replay : ByteArray := prog_2_method_3_code
def yX0_replay : MethodName := ⟨RX0, "replay", "(I)V"⟩
abbrev cX0_perform : ByteArray := prog_2_method_4_code
def yX0_perform : MethodName := ⟨RX0, "perform", "(II)V"⟩
abbrev cX0_performLot : ByteArray := prog_2_method_5_code
def yX0_performLot : MethodName := ⟨RX0, "performLot", "(J)V"⟩
abbrev cX0_act : ByteArray := prog_2_method_6_code
def yX0_act : MethodName := ⟨RX0, "act", "(II)V"⟩
abbrev cX0_passYear : ByteArray := prog_2_method_7_code
def yX0_passYear : MethodName := ⟨RX0, "passYear", "()V"⟩
abbrev cX0_has : ByteArray := prog_2_method_8_code
def yX0_has : MethodName := ⟨RX0, "has", "(I)Z"⟩
abbrev cX0_isTaken : ByteArray := prog_2_method_9_code
def yX0_isTaken : MethodName := ⟨RX0, "isTaken", "(I)Z"⟩
abbrev cX0_canMove : ByteArray := prog_2_method_10_code
def yX0_canMove : MethodName := ⟨RX0, "canMove", "(II)Z"⟩
abbrev cX0_canTake : ByteArray := prog_2_method_11_code
def yX0_canTake : MethodName := ⟨RX0, "canTake", "(I)Z"⟩
abbrev cX0_drift : ByteArray := prog_2_method_12_code
def yX0_drift : MethodName := ⟨RX0, "drift", "(III)I"⟩
abbrev cX0_step : ByteArray := prog_2_method_13_code
def yX0_step : MethodName := ⟨RX0, "step", "(IIII)I"⟩
abbrev cX0_drifted : ByteArray := prog_2_method_14_code
def yX0_drifted : MethodName := ⟨RX0, "drifted", "(IIII)I"⟩
abbrev cX0_cellAfter : ByteArray := prog_2_method_15_code
def yX0_cellAfter : MethodName := ⟨RX0, "cellAfter", "(III)I"⟩
abbrev cX0_crowdedCell : ByteArray := prog_2_method_16_code
def yX0_crowdedCell : MethodName := ⟨RX0, "crowdedCell", "(I)I"⟩
abbrev cX0_fewestMoves : ByteArray := prog_2_method_17_code
def yX0_fewestMoves : MethodName := ⟨RX0, "fewestMoves", "(III)I"⟩
abbrev cX0_weighWays : ByteArray := prog_2_method_18_code
def yX0_weighWays : MethodName := ⟨RX0, "weighWays", "(IIIIII)J"⟩
abbrev cX0_fact : ByteArray := prog_2_method_19_code
def yX0_fact : MethodName := ⟨RX0, "fact", "(II)I"⟩
abbrev cX0_markAs : ByteArray := prog_2_method_20_code
def yX0_markAs : MethodName := ⟨RX0, "markAs", "(II)I"⟩
abbrev cX0_lyingIn : ByteArray := prog_2_method_21_code
def yX0_lyingIn : MethodName := ⟨RX0, "lyingIn", "(I)I"⟩
abbrev cX0_takenBits : ByteArray := prog_2_method_22_code
def yX0_takenBits : MethodName := ⟨RX0, "takenBits", "()I"⟩
abbrev cX0_countOfKind : ByteArray := prog_2_method_23_code
def yX0_countOfKind : MethodName := ⟨RX0, "countOfKind", "(I)I"⟩
def RX1 : String := "CanalRings$Crowd"
def TX1 : u_T := fun k => match k with
  | 0 => ("CanalRings$Crowd", "order", "[I", true)
  | 1 => ("CanalRings$Crowd", "best", "[I", true)
  | _ => ("CanalRings$Crowd", "least", "I", false)
def tyX1 : Nat → FieldType := fun k => match k with
  | 0 => .array .int
  | 1 => .array .int
  | _ => .int
theorem nmX1 : ∀ a, a < 3 → ∀ b, b < 3 → a ≠ b → (TX1 a).2.1 ≠ (TX1 b).2.1 := by decide +kernel
theorem tyX1_ok : ∀ k, k < 3 → parseFieldDescriptor (TX1 k).2.2.1 = some (tyX1 k) := by decide +kernel
abbrev cX1_init : ByteArray := prog_3_method_1_code
def yX1_init : MethodName := ⟨RX1, "<init>", "()V"⟩
abbrev cX1_leastSum : ByteArray := prog_3_method_2_code
def yX1_leastSum : MethodName := ⟨RX1, "leastSum", "(LCanalRings$Canal;)I"⟩
abbrev cX1_seat : ByteArray := prog_3_method_3_code
def yX1_seat : MethodName := ⟨RX1, "seat", "(LCanalRings$Canal;III)V"⟩
def RX2 : String := "CanalRings$Paddles"
def TX2 : u_T := fun k => match k with
  | _ => ("CanalRings$Paddles", "turns", "[I", true)
def tyX2 : Nat → FieldType := fun k => match k with
  | _ => .array .int
theorem nmX2 : ∀ a, a < 1 → ∀ b, b < 1 → a ≠ b → (TX2 a).2.1 ≠ (TX2 b).2.1 := by decide +kernel
theorem tyX2_ok : ∀ k, k < 1 → parseFieldDescriptor (TX2 k).2.2.1 = some (tyX2 k) := by decide +kernel
abbrev cX2_init : ByteArray := prog_4_method_1_code
def yX2_init : MethodName := ⟨RX2, "<init>", "()V"⟩
abbrev cX2_drawn : ByteArray := prog_4_method_2_code
def yX2_drawn : MethodName := ⟨RX2, "drawn", "(I)I"⟩
abbrev cX2_filled : ByteArray := prog_4_method_3_code
def yX2_filled : MethodName := ⟨RX2, "filled", "(I)I"⟩
abbrev cX2_countTurnsTo : ByteArray := prog_4_method_4_code
def yX2_countTurnsTo : MethodName := ⟨RX2, "countTurnsTo", "(I)V"⟩
abbrev cX2_firstRowFrom : ByteArray := prog_4_method_5_code
def yX2_firstRowFrom : MethodName := ⟨RX2, "firstRowFrom", "(I)I"⟩
def RX3 : String := "CanalRings$Reader"
def TX3 : u_T := fun k => match k with
  | 0 => ("CanalRings$Reader", "said", "[I", true)
  | _ => ("CanalRings$Reader", "things", "I", false)
def tyX3 : Nat → FieldType := fun k => match k with
  | 0 => .array .int
  | _ => .int
theorem nmX3 : ∀ a, a < 2 → ∀ b, b < 2 → a ≠ b → (TX3 a).2.1 ≠ (TX3 b).2.1 := by decide +kernel
theorem tyX3_ok : ∀ k, k < 2 → parseFieldDescriptor (TX3 k).2.2.1 = some (tyX3 k) := by decide +kernel
abbrev cX3_init : ByteArray := prog_5_method_1_code
def yX3_init : MethodName := ⟨RX3, "<init>", "()V"⟩
abbrev cX3_firstFault : ByteArray := prog_5_method_2_code
def yX3_firstFault : MethodName := ⟨RX3, "firstFault", "([BI)I"⟩
abbrev cX3_headPart : ByteArray := prog_5_method_3_code
def yX3_headPart : MethodName := ⟨RX3, "headPart", "(II)I"⟩
abbrev cX3_thingPart : ByteArray := prog_5_method_4_code
def yX3_thingPart : MethodName := ⟨RX3, "thingPart", "(II)I"⟩
abbrev cX3_figure : ByteArray := prog_5_method_5_code
def yX3_figure : MethodName := ⟨RX3, "figure", "(II)I"⟩
abbrev cX3_kindOfLetter : ByteArray := prog_5_method_6_code
def yX3_kindOfLetter : MethodName := ⟨RX3, "kindOfLetter", "(I)I"⟩
def RX4 : String := "CanalRings"
def TX4 : u_T := fun k => match k with
  | 0 => ("CanalRings", "rows", "[[I", true)
  | 1 => ("CanalRings", "rowSizes", "[I", true)
  | 2 => ("CanalRings", "texts", "[[B", true)
  | 3 => ("CanalRings", "textSizes", "[I", true)
  | 4 => ("CanalRings", "keptDeeds", "[[I", true)
  | 5 => ("CanalRings", "keptSizes", "[I", true)
  | 6 => ("CanalRings", "reader", "LCanalRings$Reader;", true)
  | 7 => ("CanalRings", "canal", "LCanalRings$Canal;", true)
  | 8 => ("CanalRings", "crowd", "LCanalRings$Crowd;", true)
  | 9 => ("CanalRings", "paddles", "LCanalRings$Paddles;", true)
  | 10 => ("CanalRings", "findingCounts", "[I", true)
  | 11 => ("CanalRings", "lastFinding", "I", false)
  | 12 => ("CanalRings", "lastAsked", "I", false)
  | 13 => ("CanalRings", "lastUpper", "J", false)
  | _ => ("CanalRings", "lastLower", "J", false)
def tyX4 : Nat → FieldType := fun k => match k with
  | 0 => .array (.array .int)
  | 1 => .array .int
  | 2 => .array (.array .byte)
  | 3 => .array .int
  | 4 => .array (.array .int)
  | 5 => .array .int
  | 6 => .object "CanalRings$Reader"
  | 7 => .object "CanalRings$Canal"
  | 8 => .object "CanalRings$Crowd"
  | 9 => .object "CanalRings$Paddles"
  | 10 => .array .int
  | 11 => .int
  | 12 => .int
  | 13 => .long
  | _ => .long
theorem nmX4 : ∀ a, a < 15 → ∀ b, b < 15 → a ≠ b → (TX4 a).2.1 ≠ (TX4 b).2.1 := by decide +kernel
theorem tyX4_ok : ∀ k, k < 15 → parseFieldDescriptor (TX4 k).2.2.1 = some (tyX4 k) := by decide +kernel
abbrev cX4_init : ByteArray := prog_1_method_1_code
def yX4_init : MethodName := ⟨RX4, "<init>", "()V"⟩
abbrev cX4_row : ByteArray := prog_1_method_2_code
def yX4_row : MethodName := ⟨RX4, "row", "(II)I"⟩
abbrev cX4_lay : ByteArray := prog_1_method_3_code
def yX4_lay : MethodName := ⟨RX4, "lay", "(III)I"⟩
abbrev cX4_at : ByteArray := prog_1_method_4_code
def yX4_at : MethodName := ⟨RX4, "at", "(II)I"⟩
abbrev cX4_tear : ByteArray := prog_1_method_5_code
def yX4_tear : MethodName := ⟨RX4, "tear", "(I)I"⟩
abbrev cX4_copy : ByteArray := prog_1_method_6_code
def yX4_copy : MethodName := ⟨RX4, "copy", "(IIIII)I"⟩
abbrev cX4_mean : ByteArray := prog_1_method_7_code
def yX4_mean : MethodName := ⟨RX4, "mean", "(I)I"⟩
abbrev cX4_text : ByteArray := prog_1_method_8_code
def yX4_text : MethodName := ⟨RX4, "text", "(II)I"⟩
abbrev cX4_put : ByteArray := prog_1_method_9_code
def yX4_put : MethodName := ⟨RX4, "put", "(III)I"⟩
abbrev cX4_fault : ByteArray := prog_1_method_10_code
def yX4_fault : MethodName := ⟨RX4, "fault", "(I)I"⟩
abbrev cX4_canal : ByteArray := prog_1_method_11_code
def yX4_canal : MethodName := ⟨RX4, "canal", "(I)I"⟩
abbrev cX4_thing : ByteArray := prog_1_method_12_code
def yX4_thing : MethodName := ⟨RX4, "thing", "(II)I"⟩
abbrev cX4_mark : ByteArray := prog_1_method_13_code
def yX4_mark : MethodName := ⟨RX4, "mark", "(II)I"⟩
abbrev cX4_cell : ByteArray := prog_1_method_14_code
def yX4_cell : MethodName := ⟨RX4, "cell", "(I)I"⟩
abbrev cX4_year : ByteArray := prog_1_method_15_code
def yX4_year : MethodName := ⟨RX4, "year", "()I"⟩
abbrev cX4_paddle : ByteArray := prog_1_method_16_code
def yX4_paddle : MethodName := ⟨RX4, "paddle", "(I)I"⟩
abbrev cX4_move : ByteArray := prog_1_method_17_code
def yX4_move : MethodName := ⟨RX4, "move", "(II)I"⟩
abbrev cX4_take : ByteArray := prog_1_method_18_code
def yX4_take : MethodName := ⟨RX4, "take", "(I)I"⟩
abbrev cX4_undo : ByteArray := prog_1_method_19_code
def yX4_undo : MethodName := ⟨RX4, "undo", "(I)I"⟩
abbrev cX4_keep : ByteArray := prog_1_method_20_code
def yX4_keep : MethodName := ⟨RX4, "keep", "(I)I"⟩
abbrev cX4_on : ByteArray := prog_1_method_21_code
def yX4_on : MethodName := ⟨RX4, "on", "(I)I"⟩
abbrev cX4_lies : ByteArray := prog_1_method_22_code
def yX4_lies : MethodName := ⟨RX4, "lies", "(II)I"⟩
abbrev cX4_three : ByteArray := prog_1_method_23_code
def yX4_three : MethodName := ⟨RX4, "three", "()I"⟩
abbrev cX4_moves : ByteArray := prog_1_method_24_code
def yX4_moves : MethodName := ⟨RX4, "moves", "(III)I"⟩
abbrev cX4_owned : ByteArray := prog_1_method_25_code
def yX4_owned : MethodName := ⟨RX4, "owned", "(I)I"⟩
abbrev cX4_thrown : ByteArray := prog_1_method_26_code
def yX4_thrown : MethodName := ⟨RX4, "thrown", "(III)I"⟩
abbrev cX4_stand : ByteArray := prog_1_method_27_code
def yX4_stand : MethodName := ⟨RX4, "stand", "(I)I"⟩
abbrev cX4_level : ByteArray := prog_1_method_28_code
def yX4_level : MethodName := ⟨RX4, "level", "(I)I"⟩
abbrev cX4_home : ByteArray := prog_1_method_29_code
def yX4_home : MethodName := ⟨RX4, "home", "(I)I"⟩
abbrev cX4_stops : ByteArray := prog_1_method_30_code
def yX4_stops : MethodName := ⟨RX4, "stops", "(I)I"⟩
abbrev cX4_starts : ByteArray := prog_1_method_31_code
def yX4_starts : MethodName := ⟨RX4, "starts", "(II)I"⟩
abbrev cX4_weights : ByteArray := prog_1_method_32_code
def yX4_weights : MethodName := ⟨RX4, "weights", "(II)I"⟩
abbrev cX4_kinds : ByteArray := prog_1_method_33_code
def yX4_kinds : MethodName := ⟨RX4, "kinds", "(II)I"⟩
abbrev cX4_night : ByteArray := prog_1_method_34_code
def yX4_night : MethodName := ⟨RX4, "night", "(IIII)I"⟩
abbrev cX4_odds : ByteArray := prog_1_method_35_code
def yX4_odds : MethodName := ⟨RX4, "odds", "(IIII)I"⟩
abbrev cX4_mid : ByteArray := prog_1_method_36_code
def yX4_mid : MethodName := ⟨RX4, "mid", "(III)I"⟩
abbrev cX4_lots : ByteArray := prog_1_method_37_code
def yX4_lots : MethodName := ⟨RX4, "lots", "(II)I"⟩
abbrev cX4_asked : ByteArray := prog_1_method_38_code
def yX4_asked : MethodName := ⟨RX4, "asked", "()I"⟩
abbrev cX4_upper : ByteArray := prog_1_method_39_code
def yX4_upper : MethodName := ⟨RX4, "upper", "()J"⟩
abbrev cX4_lower : ByteArray := prog_1_method_40_code
def yX4_lower : MethodName := ⟨RX4, "lower", "()J"⟩
abbrev cX4_count : ByteArray := prog_1_method_41_code
def yX4_count : MethodName := ⟨RX4, "count", "(I)I"⟩
abbrev cX4_finding : ByteArray := prog_1_method_42_code
def yX4_finding : MethodName := ⟨RX4, "finding", "()I"⟩
abbrev cX4_findings : ByteArray := prog_1_method_43_code
def yX4_findings : MethodName := ⟨RX4, "findings", "(I)I"⟩
abbrev cX4_digest : ByteArray := prog_1_method_44_code
def yX4_digest : MethodName := ⟨RX4, "digest", "()J"⟩
abbrev cX4_found : ByteArray := prog_1_method_45_code
def yX4_found : MethodName := ⟨RX4, "found", "(I)I"⟩
abbrev cX4_tell : ByteArray := prog_1_method_46_code
def yX4_tell : MethodName := ⟨RX4, "tell", "(I)I"⟩
abbrev cX4_tellRatio : ByteArray := prog_1_method_47_code
def yX4_tellRatio : MethodName := ⟨RX4, "tellRatio", "(JJ)I"⟩
abbrev cX4_greatestDivisor : ByteArray := prog_1_method_48_code
def yX4_greatestDivisor : MethodName := ⟨RX4, "greatestDivisor", "(JJ)J"⟩
abbrev cX4_twelveTimes : ByteArray := prog_1_method_49_code
def yX4_twelveTimes : MethodName := ⟨RX4, "twelveTimes", "(I)J"⟩
abbrev cX4_isRow : ByteArray := prog_1_method_50_code
def yX4_isRow : MethodName := ⟨RX4, "isRow", "(I)Z"⟩
abbrev cX4_isText : ByteArray := prog_1_method_51_code
def yX4_isText : MethodName := ⟨RX4, "isText", "(I)Z"⟩
abbrev cX4_isKeptPlace : ByteArray := prog_1_method_52_code
def yX4_isKeptPlace : MethodName := ⟨RX4, "isKeptPlace", "(I)Z"⟩
abbrev cX4_isCell : ByteArray := prog_1_method_53_code
def yX4_isCell : MethodName := ⟨RX4, "isCell", "(I)Z"⟩
abbrev cX4_isChance : ByteArray := prog_1_method_54_code
def yX4_isChance : MethodName := ⟨RX4, "isChance", "(III)Z"⟩
abbrev cX4_hasSpan : ByteArray := prog_1_method_55_code
def yX4_hasSpan : MethodName := ⟨RX4, "hasSpan", "(III)Z"⟩
abbrev cX4_presentIn : ByteArray := prog_1_method_56_code
def yX4_presentIn : MethodName := ⟨RX4, "presentIn", "([I)I"⟩
abbrev cX4_isOfKind : ByteArray := prog_1_method_57_code
def yX4_isOfKind : MethodName := ⟨RX4, "isOfKind", "(II)Z"⟩
abbrev cX4_pairsFinding : ByteArray := prog_1_method_58_code
def yX4_pairsFinding : MethodName := ⟨RX4, "pairsFinding", "(I)I"⟩
abbrev cX4_fitsPairs : ByteArray := prog_1_method_59_code
def yX4_fitsPairs : MethodName := ⟨RX4, "fitsPairs", "(IIII)Z"⟩
abbrev cX4_stepsHome : ByteArray := prog_1_method_60_code
def yX4_stepsHome : MethodName := ⟨RX4, "stepsHome", "(II)I"⟩
abbrev cX4_streetPlace : ByteArray := prog_1_method_61_code
def yX4_streetPlace : MethodName := ⟨RX4, "streetPlace", "(II)I"⟩
abbrev cX4_stepsAround : ByteArray := prog_1_method_62_code
def yX4_stepsAround : MethodName := ⟨RX4, "stepsAround", "(IIII)I"⟩
abbrev cX4_outcome : ByteArray := prog_1_method_63_code
def yX4_outcome : MethodName := ⟨RX4, "outcome", "(IIII)I"⟩
def RX5 : String := "CanalRingsModel"
def TX5 : u_T := fun k => match k with
  | 0 => ("CanalRingsModel", "rowSizes", "[I", true)
  | 1 => ("CanalRingsModel", "rows", "[I", true)
  | 2 => ("CanalRingsModel", "textSizes", "[I", true)
  | 3 => ("CanalRingsModel", "texts", "[I", true)
  | 4 => ("CanalRingsModel", "things", "I", false)
  | 5 => ("CanalRingsModel", "flow", "I", false)
  | 6 => ("CanalRingsModel", "kinds", "[I", true)
  | 7 => ("CanalRingsModel", "weights", "[I", true)
  | 8 => ("CanalRingsModel", "gates", "[I", true)
  | 9 => ("CanalRingsModel", "now", "[I", true)
  | 10 => ("CanalRingsModel", "deeds", "I", false)
  | 11 => ("CanalRingsModel", "before", "[I", true)
  | 12 => ("CanalRingsModel", "keeps", "[I", true)
  | 13 => ("CanalRingsModel", "kept", "[Z", true)
  | 14 => ("CanalRingsModel", "asked", "I", false)
  | 15 => ("CanalRingsModel", "upper", "J", false)
  | 16 => ("CanalRingsModel", "lower", "J", false)
  | 17 => ("CanalRingsModel", "finding", "I", false)
  | 18 => ("CanalRingsModel", "findings", "[I", true)
  | 19 => ("CanalRingsModel", "here", "I", false)
  | 20 => ("CanalRingsModel", "readFlow", "I", false)
  | 21 => ("CanalRingsModel", "readLevel", "I", false)
  | 22 => ("CanalRingsModel", "readThings", "I", false)
  | 23 => ("CanalRingsModel", "readThing", "[I", true)
  | 24 => ("CanalRingsModel", "figure", "I", false)
  | 25 => ("CanalRingsModel", "lying", "[I", true)
  | 26 => ("CanalRingsModel", "order", "[I", true)
  | 27 => ("CanalRingsModel", "best", "[I", true)
  | 28 => ("CanalRingsModel", "many", "I", false)
  | 29 => ("CanalRingsModel", "far", "[I", true)
  | 30 => ("CanalRingsModel", "steps", "[I", true)
  | 31 => ("CanalRingsModel", "worth", "[I", true)
  | _ => ("CanalRingsModel", "worthThen", "[I", true)
def tyX5 : Nat → FieldType := fun k => match k with
  | 0 => .array .int
  | 1 => .array .int
  | 2 => .array .int
  | 3 => .array .int
  | 4 => .int
  | 5 => .int
  | 6 => .array .int
  | 7 => .array .int
  | 8 => .array .int
  | 9 => .array .int
  | 10 => .int
  | 11 => .array .int
  | 12 => .array .int
  | 13 => .array .boolean
  | 14 => .int
  | 15 => .long
  | 16 => .long
  | 17 => .int
  | 18 => .array .int
  | 19 => .int
  | 20 => .int
  | 21 => .int
  | 22 => .int
  | 23 => .array .int
  | 24 => .int
  | 25 => .array .int
  | 26 => .array .int
  | 27 => .array .int
  | 28 => .int
  | 29 => .array .int
  | 30 => .array .int
  | 31 => .array .int
  | _ => .array .int
theorem nmX5 : ∀ a, a < 33 → ∀ b, b < 33 → a ≠ b → (TX5 a).2.1 ≠ (TX5 b).2.1 := by decide +kernel
theorem tyX5_ok : ∀ k, k < 33 → parseFieldDescriptor (TX5 k).2.2.1 = some (tyX5 k) := by decide +kernel
abbrev cX5_init : ByteArray := prog_7_method_1_code
def yX5_init : MethodName := ⟨RX5, "<init>", "()V"⟩
abbrev cX5_in : ByteArray := prog_7_method_3_code
def yX5_in : MethodName := ⟨RX5, "in", "(JJJ)Z"⟩
abbrev cX5_has : ByteArray := prog_7_method_4_code
def yX5_has : MethodName := ⟨RX5, "has", "(II)Z"⟩
abbrev cX5_bits : ByteArray := prog_7_method_5_code
def yX5_bits : MethodName := ⟨RX5, "bits", "(I)I"⟩
abbrev cX5_found : ByteArray := prog_7_method_6_code
def yX5_found : MethodName := ⟨RX5, "found", "(I)I"⟩
abbrev cX5_tell : ByteArray := prog_7_method_7_code
def yX5_tell : MethodName := ⟨RX5, "tell", "(I)I"⟩
abbrev cX5_answer : ByteArray := prog_7_method_8_code
def yX5_answer : MethodName := ⟨RX5, "answer", "(II)I"⟩
abbrev cX5_isRow : ByteArray := prog_7_method_9_code
def yX5_isRow : MethodName := ⟨RX5, "isRow", "(I)Z"⟩
abbrev cX5_isText : ByteArray := prog_7_method_10_code
def yX5_isText : MethodName := ⟨RX5, "isText", "(I)Z"⟩
abbrev cX5_row : ByteArray := prog_7_method_11_code
def yX5_row : MethodName := ⟨RX5, "row", "(II)I"⟩
abbrev cX5_lay : ByteArray := prog_7_method_12_code
def yX5_lay : MethodName := ⟨RX5, "lay", "(III)I"⟩
abbrev cX5_at : ByteArray := prog_7_method_13_code
def yX5_at : MethodName := ⟨RX5, "at", "(II)I"⟩
abbrev cX5_tear : ByteArray := prog_7_method_14_code
def yX5_tear : MethodName := ⟨RX5, "tear", "(I)I"⟩
abbrev cX5_copy : ByteArray := prog_7_method_15_code
def yX5_copy : MethodName := ⟨RX5, "copy", "(IIIII)I"⟩
abbrev cX5_mean : ByteArray := prog_7_method_16_code
def yX5_mean : MethodName := ⟨RX5, "mean", "(I)I"⟩
abbrev cX5_text : ByteArray := prog_7_method_17_code
def yX5_text : MethodName := ⟨RX5, "text", "(II)I"⟩
abbrev cX5_put : ByteArray := prog_7_method_18_code
def yX5_put : MethodName := ⟨RX5, "put", "(III)I"⟩
abbrev cX5_byteAt : ByteArray := prog_7_method_19_code
def yX5_byteAt : MethodName := ⟨RX5, "byteAt", "(I)I"⟩
abbrev cX5_blanks : ByteArray := prog_7_method_20_code
def yX5_blanks : MethodName := ⟨RX5, "blanks", "(I)V"⟩
abbrev cX5_kindOf : ByteArray := prog_7_method_21_code
def yX5_kindOf : MethodName := ⟨RX5, "kindOf", "(I)I"⟩
abbrev cX5_takes : ByteArray := prog_7_method_22_code
def yX5_takes : MethodName := ⟨RX5, "takes", "(II)Z"⟩
abbrev cX5_readsFirst : ByteArray := prog_7_method_23_code
def yX5_readsFirst : MethodName := ⟨RX5, "readsFirst", "(I)Z"⟩
abbrev cX5_readsThing : ByteArray := prog_7_method_24_code
def yX5_readsThing : MethodName := ⟨RX5, "readsThing", "(I)Z"⟩
abbrev cX5_faultOf : ByteArray := prog_7_method_25_code
def yX5_faultOf : MethodName := ⟨RX5, "faultOf", "(I)I"⟩
abbrev cX5_fault : ByteArray := prog_7_method_26_code
def yX5_fault : MethodName := ⟨RX5, "fault", "(I)I"⟩
abbrev cX5_canal : ByteArray := prog_7_method_27_code
def yX5_canal : MethodName := ⟨RX5, "canal", "(I)I"⟩
abbrev cX5_isThing : ByteArray := prog_7_method_28_code
def yX5_isThing : MethodName := ⟨RX5, "isThing", "(I)Z"⟩
abbrev cX5_isCell : ByteArray := prog_7_method_29_code
def yX5_isCell : MethodName := ⟨RX5, "isCell", "(I)Z"⟩
abbrev cX5_isTaken : ByteArray := prog_7_method_30_code
def yX5_isTaken : MethodName := ⟨RX5, "isTaken", "(I)Z"⟩
abbrev cX5_drifts : ByteArray := prog_7_method_31_code
def yX5_drifts : MethodName := ⟨RX5, "drifts", "(III)I"⟩
abbrev cX5_bound : ByteArray := prog_7_method_32_code
def yX5_bound : MethodName := ⟨RX5, "bound", "(I)I"⟩
abbrev cX5_next : ByteArray := prog_7_method_33_code
def yX5_next : MethodName := ⟨RX5, "next", "(IIII)I"⟩
abbrev cX5_after : ByteArray := prog_7_method_34_code
def yX5_after : MethodName := ⟨RX5, "after", "(IIII)I"⟩
abbrev cX5_afterOf : ByteArray := prog_7_method_35_code
def yX5_afterOf : MethodName := ⟨RX5, "afterOf", "(III)I"⟩
abbrev cX5_abs : ByteArray := prog_7_method_36_code
def yX5_abs : MethodName := ⟨RX5, "abs", "(I)I"⟩
abbrev cX5_told : ByteArray := prog_7_method_37_code
def yX5_told : MethodName := ⟨RX5, "told", "(II)I"⟩
abbrev cX5_thing : ByteArray := prog_7_method_38_code
def yX5_thing : MethodName := ⟨RX5, "thing", "(II)I"⟩
abbrev cX5_isOf : ByteArray := prog_7_method_39_code
def yX5_isOf : MethodName := ⟨RX5, "isOf", "(II)Z"⟩
abbrev cX5_kindsOf : ByteArray := prog_7_method_40_code
def yX5_kindsOf : MethodName := ⟨RX5, "kindsOf", "(I)I"⟩
abbrev cX5_cellOf : ByteArray := prog_7_method_41_code
def yX5_cellOf : MethodName := ⟨RX5, "cellOf", "(I)I"⟩
abbrev cX5_mark : ByteArray := prog_7_method_42_code
def yX5_mark : MethodName := ⟨RX5, "mark", "(II)I"⟩
abbrev cX5_cell : ByteArray := prog_7_method_43_code
def yX5_cell : MethodName := ⟨RX5, "cell", "(I)I"⟩
abbrev cX5_copies : ByteArray := prog_7_method_44_code
def yX5_copies : MethodName := ⟨RX5, "copies", "([II[III)V"⟩
abbrev cX5_remember : ByteArray := prog_7_method_45_code
def yX5_remember : MethodName := ⟨RX5, "remember", "()V"⟩
abbrev cX5_yearGoes : ByteArray := prog_7_method_46_code
def yX5_yearGoes : MethodName := ⟨RX5, "yearGoes", "()V"⟩
abbrev cX5_turned : ByteArray := prog_7_method_47_code
def yX5_turned : MethodName := ⟨RX5, "turned", "(IZ)I"⟩
abbrev cX5_turns : ByteArray := prog_7_method_48_code
def yX5_turns : MethodName := ⟨RX5, "turns", "(Z)V"⟩
abbrev cX5_refuses : ByteArray := prog_7_method_49_code
def yX5_refuses : MethodName := ⟨RX5, "refuses", "()I"⟩
abbrev cX5_year : ByteArray := prog_7_method_50_code
def yX5_year : MethodName := ⟨RX5, "year", "()I"⟩
abbrev cX5_paddle : ByteArray := prog_7_method_51_code
def yX5_paddle : MethodName := ⟨RX5, "paddle", "(I)I"⟩
abbrev cX5_mayMove : ByteArray := prog_7_method_52_code
def yX5_mayMove : MethodName := ⟨RX5, "mayMove", "(II)Z"⟩
abbrev cX5_goes : ByteArray := prog_7_method_53_code
def yX5_goes : MethodName := ⟨RX5, "goes", "(II)V"⟩
abbrev cX5_move : ByteArray := prog_7_method_54_code
def yX5_move : MethodName := ⟨RX5, "move", "(II)I"⟩
abbrev cX5_mayTake : ByteArray := prog_7_method_55_code
def yX5_mayTake : MethodName := ⟨RX5, "mayTake", "(I)Z"⟩
abbrev cX5_takesHome : ByteArray := prog_7_method_56_code
def yX5_takesHome : MethodName := ⟨RX5, "takesHome", "(I)V"⟩
abbrev cX5_take : ByteArray := prog_7_method_57_code
def yX5_take : MethodName := ⟨RX5, "take", "(I)I"⟩
abbrev cX5_undo : ByteArray := prog_7_method_58_code
def yX5_undo : MethodName := ⟨RX5, "undo", "(I)I"⟩
abbrev cX5_keep : ByteArray := prog_7_method_59_code
def yX5_keep : MethodName := ⟨RX5, "keep", "(I)I"⟩
abbrev cX5_on : ByteArray := prog_7_method_60_code
def yX5_on : MethodName := ⟨RX5, "on", "(I)I"⟩
abbrev cX5_lies : ByteArray := prog_7_method_61_code
def yX5_lies : MethodName := ⟨RX5, "lies", "(II)I"⟩
abbrev cX5_three : ByteArray := prog_7_method_62_code
def yX5_three : MethodName := ⟨RX5, "three", "()I"⟩
abbrev cX5_movesOf : ByteArray := prog_7_method_63_code
def yX5_movesOf : MethodName := ⟨RX5, "movesOf", "(III)I"⟩
abbrev cX5_moves : ByteArray := prog_7_method_64_code
def yX5_moves : MethodName := ⟨RX5, "moves", "(III)I"⟩
abbrev cX5_owned : ByteArray := prog_7_method_65_code
def yX5_owned : MethodName := ⟨RX5, "owned", "(I)I"⟩
abbrev cX5_thrown : ByteArray := prog_7_method_66_code
def yX5_thrown : MethodName := ⟨RX5, "thrown", "(III)I"⟩
abbrev cX5_firstOrder : ByteArray := prog_7_method_67_code
def yX5_firstOrder : MethodName := ⟨RX5, "firstOrder", "()V"⟩
abbrev cX5_exchanges : ByteArray := prog_7_method_68_code
def yX5_exchanges : MethodName := ⟨RX5, "exchanges", "(II)V"⟩
abbrev cX5_nextOrder : ByteArray := prog_7_method_69_code
def yX5_nextOrder : MethodName := ⟨RX5, "nextOrder", "()Z"⟩
abbrev cX5_stand : ByteArray := prog_7_method_70_code
def yX5_stand : MethodName := ⟨RX5, "stand", "(I)I"⟩
abbrev cX5_layFar : ByteArray := prog_7_method_71_code
def yX5_layFar : MethodName := ⟨RX5, "layFar", "(I)V"⟩
abbrev cX5_level : ByteArray := prog_7_method_72_code
def yX5_level : MethodName := ⟨RX5, "level", "(I)I"⟩
abbrev cX5_placeOf : ByteArray := prog_7_method_73_code
def yX5_placeOf : MethodName := ⟨RX5, "placeOf", "(I)I"⟩
abbrev cX5_homeBut : ByteArray := prog_7_method_74_code
def yX5_homeBut : MethodName := ⟨RX5, "homeBut", "(II)I"⟩
abbrev cX5_home : ByteArray := prog_7_method_75_code
def yX5_home : MethodName := ⟨RX5, "home", "(I)I"⟩
abbrev cX5_stops : ByteArray := prog_7_method_76_code
def yX5_stops : MethodName := ⟨RX5, "stops", "(I)I"⟩
abbrev cX5_wrongPairs : ByteArray := prog_7_method_77_code
def yX5_wrongPairs : MethodName := ⟨RX5, "wrongPairs", "(I)I"⟩
abbrev cX5_isSo : ByteArray := prog_7_method_78_code
def yX5_isSo : MethodName := ⟨RX5, "isSo", "(IIII)Z"⟩
abbrev cX5_starts : ByteArray := prog_7_method_79_code
def yX5_starts : MethodName := ⟨RX5, "starts", "(II)I"⟩
abbrev cX5_weights : ByteArray := prog_7_method_80_code
def yX5_weights : MethodName := ⟨RX5, "weights", "(II)I"⟩
abbrev cX5_kinds : ByteArray := prog_7_method_81_code
def yX5_kinds : MethodName := ⟨RX5, "kinds", "(II)I"⟩
abbrev cX5_night : ByteArray := prog_7_method_82_code
def yX5_night : MethodName := ⟨RX5, "night", "(IIII)I"⟩
abbrev cX5_fraction : ByteArray := prog_7_method_83_code
def yX5_fraction : MethodName := ⟨RX5, "fraction", "(JJ)I"⟩
abbrev cX5_weighed : ByteArray := prog_7_method_84_code
def yX5_weighed : MethodName := ⟨RX5, "weighed", "(IIII)I"⟩
abbrev cX5_odds : ByteArray := prog_7_method_85_code
def yX5_odds : MethodName := ⟨RX5, "odds", "(IIII)I"⟩
abbrev cX5_mid : ByteArray := prog_7_method_86_code
def yX5_mid : MethodName := ⟨RX5, "mid", "(III)I"⟩
abbrev cX5_plays : ByteArray := prog_7_method_87_code
def yX5_plays : MethodName := ⟨RX5, "plays", "(II)V"⟩
abbrev cX5_lots : ByteArray := prog_7_method_88_code
def yX5_lots : MethodName := ⟨RX5, "lots", "(II)I"⟩
abbrev cX5_asked : ByteArray := prog_7_method_89_code
def yX5_asked : MethodName := ⟨RX5, "asked", "()I"⟩
abbrev cX5_upper : ByteArray := prog_7_method_90_code
def yX5_upper : MethodName := ⟨RX5, "upper", "()J"⟩
abbrev cX5_lower : ByteArray := prog_7_method_91_code
def yX5_lower : MethodName := ⟨RX5, "lower", "()J"⟩
abbrev cX5_counted : ByteArray := prog_7_method_92_code
def yX5_counted : MethodName := ⟨RX5, "counted", "(I)I"⟩
abbrev cX5_count : ByteArray := prog_7_method_93_code
def yX5_count : MethodName := ⟨RX5, "count", "(I)I"⟩
abbrev cX5_finding : ByteArray := prog_7_method_94_code
def yX5_finding : MethodName := ⟨RX5, "finding", "()I"⟩
abbrev cX5_findings : ByteArray := prog_7_method_95_code
def yX5_findings : MethodName := ⟨RX5, "findings", "(I)I"⟩
abbrev cX5_digest : ByteArray := prog_7_method_96_code
def yX5_digest : MethodName := ⟨RX5, "digest", "()J"⟩
def RJ6 : String := "java/lang/Integer"
abbrev cJ6_numberOfTrailingZeros_0f7a4 : ByteArray := prog_8_method_48_code
def yJ6_numberOfTrailingZeros_0f7a4 : MethodName := ⟨RJ6, "numberOfTrailingZeros", "(I)I"⟩
abbrev cJ6_bitCount_0f7a4 : ByteArray := prog_8_method_49_code
def yJ6_bitCount_0f7a4 : MethodName := ⟨RJ6, "bitCount", "(I)I"⟩
def RJ9 : String := "java/lang/Math"
abbrev cJ9_floorMod_7cf53 : ByteArray := prog_9_method_50_code
def yJ9_floorMod_7cf53 : MethodName := ⟨RJ9, "floorMod", "(II)I"⟩
abbrev cJ9_abs_0f7a4 : ByteArray := prog_9_method_59_code
def yJ9_abs_0f7a4 : MethodName := ⟨RJ9, "abs", "(I)I"⟩
abbrev cJ9_max_7cf53 : ByteArray := prog_9_method_65_code
def yJ9_max_7cf53 : MethodName := ⟨RJ9, "max", "(II)I"⟩
abbrev cJ9_min_7cf53 : ByteArray := prog_9_method_69_code
def yJ9_min_7cf53 : MethodName := ⟨RJ9, "min", "(II)I"⟩
def RJ10 : String := "java/lang/System"
def RJ7 : String := "java/util/Arrays"
abbrev cJ7_fill_53178 : ByteArray := prog_11_method_103_code
def yJ7_fill_53178 : MethodName := ⟨RJ7, "fill", "([II)V"⟩
abbrev cJ7_fill_031fb : ByteArray := prog_11_method_109_code
def yJ7_fill_031fb : MethodName := ⟨RJ7, "fill", "([BB)V"⟩
def RL : String := "CanalRingsLaw"
abbrev cL_law : ByteArray := code
def yL_law : MethodName := ⟨RL, "law", "([I)Z"⟩
abbrev vwCl : List vw_C := [(RX0, TX0, 12), (RX1, TX1, 3), (RX2, TX2, 1), (RX3, TX3, 2), (RX4, TX4, 15), (RX5, TX5, 33)]
end
section
theorem dX0_init_0 : decode cX0_init 0 = .ok (.aload_n 0, 1) := by decide +kernel
theorem dX0_init_1 : decode cX0_init 1 = .ok (.invokespecial 3, 3) := by decide +kernel
theorem dX0_init_4 : decode cX0_init 4 = .ok (.aload_n 0, 1) := by decide +kernel
theorem dX0_init_5 : decode cX0_init 5 = .ok (.bipush 6, 2) := by decide +kernel
theorem dX0_init_7 : decode cX0_init 7 = .ok (.newarray .int, 2) := by decide +kernel
theorem dX0_init_9 : decode cX0_init 9 = .ok (.putfield 9, 3) := by decide +kernel
theorem dX0_init_12 : decode cX0_init 12 = .ok (.aload_n 0, 1) := by decide +kernel
theorem dX0_init_13 : decode cX0_init 13 = .ok (.bipush 6, 2) := by decide +kernel
theorem dX0_init_15 : decode cX0_init 15 = .ok (.newarray .int, 2) := by decide +kernel
theorem dX0_init_17 : decode cX0_init 17 = .ok (.putfield 15, 3) := by decide +kernel
theorem dX0_init_20 : decode cX0_init 20 = .ok (.aload_n 0, 1) := by decide +kernel
theorem dX0_init_21 : decode cX0_init 21 = .ok (.bipush 6, 2) := by decide +kernel
theorem dX0_init_23 : decode cX0_init 23 = .ok (.newarray .int, 2) := by decide +kernel
theorem dX0_init_25 : decode cX0_init 25 = .ok (.putfield 18, 3) := by decide +kernel
theorem dX0_init_28 : decode cX0_init 28 = .ok (.aload_n 0, 1) := by decide +kernel
theorem dX0_init_29 : decode cX0_init 29 = .ok (.bipush 6, 2) := by decide +kernel
theorem dX0_init_31 : decode cX0_init 31 = .ok (.newarray .int, 2) := by decide +kernel
theorem dX0_init_33 : decode cX0_init 33 = .ok (.putfield 21, 3) := by decide +kernel
theorem dX0_init_36 : decode cX0_init 36 = .ok (.aload_n 0, 1) := by decide +kernel
theorem dX0_init_37 : decode cX0_init 37 = .ok (.bipush 6, 2) := by decide +kernel
theorem dX0_init_39 : decode cX0_init 39 = .ok (.newarray .int, 2) := by decide +kernel
theorem dX0_init_41 : decode cX0_init 41 = .ok (.putfield 24, 3) := by decide +kernel
theorem dX0_init_44 : decode cX0_init 44 = .ok (.aload_n 0, 1) := by decide +kernel
theorem dX0_init_45 : decode cX0_init 45 = .ok (.bipush 40, 2) := by decide +kernel
theorem dX0_init_47 : decode cX0_init 47 = .ok (.newarray .int, 2) := by decide +kernel
theorem dX0_init_49 : decode cX0_init 49 = .ok (.putfield 27, 3) := by decide +kernel
theorem dX0_init_52 : decode cX0_init 52 = .ok (.aload_n 0, 1) := by decide +kernel
theorem dX0_init_53 : decode cX0_init 53 = .ok (.iconst 0, 1) := by decide +kernel
theorem dX0_init_54 : decode cX0_init 54 = .ok (.putfield 30, 3) := by decide +kernel
theorem dX0_init_57 : decode cX0_init 57 = .ok (.aload_n 0, 1) := by decide +kernel
theorem dX0_init_58 : decode cX0_init 58 = .ok (.iconst 0, 1) := by decide +kernel
theorem dX0_init_59 : decode cX0_init 59 = .ok (.putfield 34, 3) := by decide +kernel
theorem dX0_init_62 : decode cX0_init 62 = .ok (.aload_n 0, 1) := by decide +kernel
theorem dX0_init_63 : decode cX0_init 63 = .ok (.iconst 0, 1) := by decide +kernel
theorem dX0_init_64 : decode cX0_init 64 = .ok (.putfield 37, 3) := by decide +kernel
theorem dX0_init_67 : decode cX0_init 67 = .ok (.aload_n 0, 1) := by decide +kernel
theorem dX0_init_68 : decode cX0_init 68 = .ok (.iconst 0, 1) := by decide +kernel
theorem dX0_init_69 : decode cX0_init 69 = .ok (.putfield 40, 3) := by decide +kernel
theorem dX0_init_72 : decode cX0_init 72 = .ok (.aload_n 0, 1) := by decide +kernel
theorem dX0_init_73 : decode cX0_init 73 = .ok (.iconst 0, 1) := by decide +kernel
theorem dX0_init_74 : decode cX0_init 74 = .ok (.putfield 43, 3) := by decide +kernel
theorem dX0_init_77 : decode cX0_init 77 = .ok (.aload_n 0, 1) := by decide +kernel
theorem dX0_init_78 : decode cX0_init 78 = .ok (.iconst 0, 1) := by decide +kernel
theorem dX0_init_79 : decode cX0_init 79 = .ok (.putfield 46, 3) := by decide +kernel
theorem dX0_init_82 : decode cX0_init 82 = .ok (.return_, 1) := by decide +kernel
theorem dX0_fillFrom_0 : decode cX0_fillFrom 0 = .ok (.aload_n 0, 1) := by decide +kernel
theorem dX0_fillFrom_1 : decode cX0_fillFrom 1 = .ok (.aload_n 1, 1) := by decide +kernel
theorem dX0_fillFrom_2 : decode cX0_fillFrom 2 = .ok (.getfield 49, 3) := by decide +kernel
theorem dX0_fillFrom_5 : decode cX0_fillFrom 5 = .ok (.bipush 6, 2) := by decide +kernel
theorem dX0_fillFrom_7 : decode cX0_fillFrom 7 = .ok (.invokestatic 52, 3) := by decide +kernel
theorem dX0_fillFrom_10 : decode cX0_fillFrom 10 = .ok (.putfield 30, 3) := by decide +kernel
theorem dX0_fillFrom_13 : decode cX0_fillFrom 13 = .ok (.aload_n 0, 1) := by decide +kernel
theorem dX0_fillFrom_14 : decode cX0_fillFrom 14 = .ok (.aload_n 1, 1) := by decide +kernel
theorem dX0_fillFrom_15 : decode cX0_fillFrom 15 = .ok (.getfield 58, 3) := by decide +kernel
theorem dX0_fillFrom_18 : decode cX0_fillFrom 18 = .ok (.iconst 1, 1) := by decide +kernel
theorem dX0_fillFrom_19 : decode cX0_fillFrom 19 = .ok (.iaload, 1) := by decide +kernel
theorem dX0_fillFrom_20 : decode cX0_fillFrom 20 = .ok (.putfield 34, 3) := by decide +kernel
theorem dX0_fillFrom_23 : decode cX0_fillFrom 23 = .ok (.aload_n 0, 1) := by decide +kernel
theorem dX0_fillFrom_24 : decode cX0_fillFrom 24 = .ok (.aload_n 1, 1) := by decide +kernel
theorem dX0_fillFrom_25 : decode cX0_fillFrom 25 = .ok (.getfield 58, 3) := by decide +kernel
theorem dX0_fillFrom_28 : decode cX0_fillFrom 28 = .ok (.iconst 2, 1) := by decide +kernel
theorem dX0_fillFrom_29 : decode cX0_fillFrom 29 = .ok (.iaload, 1) := by decide +kernel
theorem dX0_fillFrom_30 : decode cX0_fillFrom 30 = .ok (.putfield 37, 3) := by decide +kernel
theorem dX0_fillFrom_33 : decode cX0_fillFrom 33 = .ok (.iconst 0, 1) := by decide +kernel
theorem dX0_fillFrom_34 : decode cX0_fillFrom 34 = .ok (.istore_n 2, 1) := by decide +kernel
theorem dX0_fillFrom_35 : decode cX0_fillFrom 35 = .ok (.iload_n 2, 1) := by decide +kernel
theorem dX0_fillFrom_36 : decode cX0_fillFrom 36 = .ok (.aload_n 0, 1) := by decide +kernel
theorem dX0_fillFrom_37 : decode cX0_fillFrom 37 = .ok (.getfield 30, 3) := by decide +kernel
theorem dX0_fillFrom_40 : decode cX0_fillFrom 40 = .ok (.if_icmp .ge 69, 3) := by decide +kernel
theorem dX0_fillFrom_43 : decode cX0_fillFrom 43 = .ok (.iconst 4, 1) := by decide +kernel
theorem dX0_fillFrom_44 : decode cX0_fillFrom 44 = .ok (.iload_n 2, 1) := by decide +kernel
theorem dX0_fillFrom_45 : decode cX0_fillFrom 45 = .ok (.iconst 1, 1) := by decide +kernel
theorem dX0_fillFrom_46 : decode cX0_fillFrom 46 = .ok (.iadd, 1) := by decide +kernel
theorem dX0_fillFrom_47 : decode cX0_fillFrom 47 = .ok (.imul, 1) := by decide +kernel
theorem dX0_fillFrom_48 : decode cX0_fillFrom 48 = .ok (.istore_n 3, 1) := by decide +kernel
theorem dX0_fillFrom_49 : decode cX0_fillFrom 49 = .ok (.aload_n 0, 1) := by decide +kernel
theorem dX0_fillFrom_50 : decode cX0_fillFrom 50 = .ok (.getfield 9, 3) := by decide +kernel
theorem dX0_fillFrom_53 : decode cX0_fillFrom 53 = .ok (.iload_n 2, 1) := by decide +kernel
theorem dX0_fillFrom_54 : decode cX0_fillFrom 54 = .ok (.aload_n 1, 1) := by decide +kernel
theorem dX0_fillFrom_55 : decode cX0_fillFrom 55 = .ok (.getfield 58, 3) := by decide +kernel
theorem dX0_fillFrom_58 : decode cX0_fillFrom 58 = .ok (.iload_n 3, 1) := by decide +kernel
theorem dX0_fillFrom_59 : decode cX0_fillFrom 59 = .ok (.iaload, 1) := by decide +kernel
theorem dX0_fillFrom_60 : decode cX0_fillFrom 60 = .ok (.iastore, 1) := by decide +kernel
theorem dX0_fillFrom_61 : decode cX0_fillFrom 61 = .ok (.aload_n 0, 1) := by decide +kernel
theorem dX0_fillFrom_62 : decode cX0_fillFrom 62 = .ok (.getfield 15, 3) := by decide +kernel
theorem dX0_fillFrom_65 : decode cX0_fillFrom 65 = .ok (.iload_n 2, 1) := by decide +kernel
theorem dX0_fillFrom_66 : decode cX0_fillFrom 66 = .ok (.aload_n 1, 1) := by decide +kernel
theorem dX0_fillFrom_67 : decode cX0_fillFrom 67 = .ok (.getfield 58, 3) := by decide +kernel
theorem dX0_fillFrom_70 : decode cX0_fillFrom 70 = .ok (.iload_n 3, 1) := by decide +kernel
theorem dX0_fillFrom_71 : decode cX0_fillFrom 71 = .ok (.iconst 1, 1) := by decide +kernel
theorem dX0_fillFrom_72 : decode cX0_fillFrom 72 = .ok (.iadd, 1) := by decide +kernel
theorem dX0_fillFrom_73 : decode cX0_fillFrom 73 = .ok (.iaload, 1) := by decide +kernel
theorem dX0_fillFrom_74 : decode cX0_fillFrom 74 = .ok (.iastore, 1) := by decide +kernel
theorem dX0_fillFrom_75 : decode cX0_fillFrom 75 = .ok (.aload_n 0, 1) := by decide +kernel
theorem dX0_fillFrom_76 : decode cX0_fillFrom 76 = .ok (.getfield 21, 3) := by decide +kernel
theorem dX0_fillFrom_79 : decode cX0_fillFrom 79 = .ok (.iload_n 2, 1) := by decide +kernel
theorem dX0_fillFrom_80 : decode cX0_fillFrom 80 = .ok (.aload_n 1, 1) := by decide +kernel
theorem dX0_fillFrom_81 : decode cX0_fillFrom 81 = .ok (.getfield 58, 3) := by decide +kernel
theorem dX0_fillFrom_84 : decode cX0_fillFrom 84 = .ok (.iload_n 3, 1) := by decide +kernel
theorem dX0_fillFrom_85 : decode cX0_fillFrom 85 = .ok (.iconst 2, 1) := by decide +kernel
theorem dX0_fillFrom_86 : decode cX0_fillFrom 86 = .ok (.iadd, 1) := by decide +kernel
theorem dX0_fillFrom_87 : decode cX0_fillFrom 87 = .ok (.iaload, 1) := by decide +kernel
theorem dX0_fillFrom_88 : decode cX0_fillFrom 88 = .ok (.iastore, 1) := by decide +kernel
theorem dX0_fillFrom_89 : decode cX0_fillFrom 89 = .ok (.aload_n 0, 1) := by decide +kernel
theorem dX0_fillFrom_90 : decode cX0_fillFrom 90 = .ok (.getfield 24, 3) := by decide +kernel
theorem dX0_fillFrom_93 : decode cX0_fillFrom 93 = .ok (.iload_n 2, 1) := by decide +kernel
theorem dX0_fillFrom_94 : decode cX0_fillFrom 94 = .ok (.aload_n 1, 1) := by decide +kernel
theorem dX0_fillFrom_95 : decode cX0_fillFrom 95 = .ok (.getfield 58, 3) := by decide +kernel
theorem dX0_fillFrom_98 : decode cX0_fillFrom 98 = .ok (.iload_n 3, 1) := by decide +kernel
theorem dX0_fillFrom_99 : decode cX0_fillFrom 99 = .ok (.iconst 3, 1) := by decide +kernel
theorem dX0_fillFrom_100 : decode cX0_fillFrom 100 = .ok (.iadd, 1) := by decide +kernel
theorem dX0_fillFrom_101 : decode cX0_fillFrom 101 = .ok (.iaload, 1) := by decide +kernel
theorem dX0_fillFrom_102 : decode cX0_fillFrom 102 = .ok (.iastore, 1) := by decide +kernel
theorem dX0_fillFrom_103 : decode cX0_fillFrom 103 = .ok (.iinc 2 1, 3) := by decide +kernel
theorem dX0_fillFrom_106 : decode cX0_fillFrom 106 = .ok (.goto (-71), 3) := by decide +kernel
theorem dX0_fillFrom_109 : decode cX0_fillFrom 109 = .ok (.aload_n 0, 1) := by decide +kernel
theorem dX0_fillFrom_110 : decode cX0_fillFrom 110 = .ok (.iconst 0, 1) := by decide +kernel
theorem dX0_fillFrom_111 : decode cX0_fillFrom 111 = .ok (.invokevirtual 61, 3) := by decide +kernel
theorem dX0_fillFrom_114 : decode cX0_fillFrom 114 = .ok (.return_, 1) := by decide +kernel
theorem dX0_replay_0 : decode cX0_replay 0 = .ok (.aload_n 0, 1) := by decide +kernel
theorem dX0_replay_1 : decode cX0_replay 1 = .ok (.getfield 15, 3) := by decide +kernel
theorem dX0_replay_4 : decode cX0_replay 4 = .ok (.iconst 0, 1) := by decide +kernel
theorem dX0_replay_5 : decode cX0_replay 5 = .ok (.aload_n 0, 1) := by decide +kernel
theorem dX0_replay_6 : decode cX0_replay 6 = .ok (.getfield 18, 3) := by decide +kernel
theorem dX0_replay_9 : decode cX0_replay 9 = .ok (.iconst 0, 1) := by decide +kernel
theorem dX0_replay_10 : decode cX0_replay 10 = .ok (.bipush 6, 2) := by decide +kernel
theorem dX0_replay_12 : decode cX0_replay 12 = .ok (.invokestatic 65, 3) := by decide +kernel
theorem dX0_replay_15 : decode cX0_replay 15 = .ok (.aload_n 0, 1) := by decide +kernel
theorem dX0_replay_16 : decode cX0_replay 16 = .ok (.aload_n 0, 1) := by decide +kernel
theorem dX0_replay_17 : decode cX0_replay 17 = .ok (.getfield 37, 3) := by decide +kernel
theorem dX0_replay_20 : decode cX0_replay 20 = .ok (.putfield 40, 3) := by decide +kernel
theorem dX0_replay_23 : decode cX0_replay 23 = .ok (.aload_n 0, 1) := by decide +kernel
theorem dX0_replay_24 : decode cX0_replay 24 = .ok (.iconst 0, 1) := by decide +kernel
theorem dX0_replay_25 : decode cX0_replay 25 = .ok (.putfield 43, 3) := by decide +kernel
theorem dX0_replay_28 : decode cX0_replay 28 = .ok (.aload_n 0, 1) := by decide +kernel
theorem dX0_replay_29 : decode cX0_replay 29 = .ok (.iload_n 1, 1) := by decide +kernel
theorem dX0_replay_30 : decode cX0_replay 30 = .ok (.bipush 40, 2) := by decide +kernel
theorem dX0_replay_32 : decode cX0_replay 32 = .ok (.invokestatic 52, 3) := by decide +kernel
theorem dX0_replay_35 : decode cX0_replay 35 = .ok (.putfield 46, 3) := by decide +kernel
theorem dX0_replay_38 : decode cX0_replay 38 = .ok (.iconst 0, 1) := by decide +kernel
theorem dX0_replay_39 : decode cX0_replay 39 = .ok (.istore_n 2, 1) := by decide +kernel
theorem dX0_replay_40 : decode cX0_replay 40 = .ok (.iload_n 2, 1) := by decide +kernel
theorem dX0_replay_41 : decode cX0_replay 41 = .ok (.aload_n 0, 1) := by decide +kernel
theorem dX0_replay_42 : decode cX0_replay 42 = .ok (.getfield 46, 3) := by decide +kernel
theorem dX0_replay_45 : decode cX0_replay 45 = .ok (.if_icmp .ge 31, 3) := by decide +kernel
theorem dX0_replay_48 : decode cX0_replay 48 = .ok (.aload_n 0, 1) := by decide +kernel
theorem dX0_replay_49 : decode cX0_replay 49 = .ok (.aload_n 0, 1) := by decide +kernel
theorem dX0_replay_50 : decode cX0_replay 50 = .ok (.getfield 27, 3) := by decide +kernel
theorem dX0_replay_53 : decode cX0_replay 53 = .ok (.iload_n 2, 1) := by decide +kernel
theorem dX0_replay_54 : decode cX0_replay 54 = .ok (.iaload, 1) := by decide +kernel
theorem dX0_replay_55 : decode cX0_replay 55 = .ok (.bipush 8, 2) := by decide +kernel
theorem dX0_replay_57 : decode cX0_replay 57 = .ok (.idiv, 1) := by decide +kernel
theorem dX0_replay_58 : decode cX0_replay 58 = .ok (.aload_n 0, 1) := by decide +kernel
theorem dX0_replay_59 : decode cX0_replay 59 = .ok (.getfield 27, 3) := by decide +kernel
theorem dX0_replay_62 : decode cX0_replay 62 = .ok (.iload_n 2, 1) := by decide +kernel
theorem dX0_replay_63 : decode cX0_replay 63 = .ok (.iaload, 1) := by decide +kernel
theorem dX0_replay_64 : decode cX0_replay 64 = .ok (.bipush 8, 2) := by decide +kernel
theorem dX0_replay_66 : decode cX0_replay 66 = .ok (.irem, 1) := by decide +kernel
theorem dX0_replay_67 : decode cX0_replay 67 = .ok (.invokevirtual 71, 3) := by decide +kernel
theorem dX0_replay_70 : decode cX0_replay 70 = .ok (.iinc 2 1, 3) := by decide +kernel
theorem dX0_replay_73 : decode cX0_replay 73 = .ok (.goto (-33), 3) := by decide +kernel
theorem dX0_replay_76 : decode cX0_replay 76 = .ok (.return_, 1) := by decide +kernel
theorem dX0_perform_0 : decode cX0_perform 0 = .ok (.aload_n 0, 1) := by decide +kernel
theorem dX0_perform_1 : decode cX0_perform 1 = .ok (.getfield 46, 3) := by decide +kernel
theorem dX0_perform_4 : decode cX0_perform 4 = .ok (.bipush 40, 2) := by decide +kernel
theorem dX0_perform_6 : decode cX0_perform 6 = .ok (.if_icmp .lt 4, 3) := by decide +kernel
theorem dX0_perform_9 : decode cX0_perform 9 = .ok (.return_, 1) := by decide +kernel
theorem dX0_perform_10 : decode cX0_perform 10 = .ok (.aload_n 0, 1) := by decide +kernel
theorem dX0_perform_11 : decode cX0_perform 11 = .ok (.getfield 27, 3) := by decide +kernel
theorem dX0_perform_14 : decode cX0_perform 14 = .ok (.aload_n 0, 1) := by decide +kernel
theorem dX0_perform_15 : decode cX0_perform 15 = .ok (.getfield 46, 3) := by decide +kernel
theorem dX0_perform_18 : decode cX0_perform 18 = .ok (.bipush 8, 2) := by decide +kernel
theorem dX0_perform_20 : decode cX0_perform 20 = .ok (.iload_n 1, 1) := by decide +kernel
theorem dX0_perform_21 : decode cX0_perform 21 = .ok (.imul, 1) := by decide +kernel
theorem dX0_perform_22 : decode cX0_perform 22 = .ok (.iload_n 2, 1) := by decide +kernel
theorem dX0_perform_23 : decode cX0_perform 23 = .ok (.iadd, 1) := by decide +kernel
theorem dX0_perform_24 : decode cX0_perform 24 = .ok (.iastore, 1) := by decide +kernel
theorem dX0_perform_25 : decode cX0_perform 25 = .ok (.aload_n 0, 1) := by decide +kernel
theorem dX0_perform_26 : decode cX0_perform 26 = .ok (.dup, 1) := by decide +kernel
theorem dX0_perform_27 : decode cX0_perform 27 = .ok (.getfield 46, 3) := by decide +kernel
theorem dX0_perform_30 : decode cX0_perform 30 = .ok (.iconst 1, 1) := by decide +kernel
theorem dX0_perform_31 : decode cX0_perform 31 = .ok (.iadd, 1) := by decide +kernel
theorem dX0_perform_32 : decode cX0_perform 32 = .ok (.putfield 46, 3) := by decide +kernel
theorem dX0_perform_35 : decode cX0_perform 35 = .ok (.aload_n 0, 1) := by decide +kernel
theorem dX0_perform_36 : decode cX0_perform 36 = .ok (.iload_n 1, 1) := by decide +kernel
theorem dX0_perform_37 : decode cX0_perform 37 = .ok (.iload_n 2, 1) := by decide +kernel
theorem dX0_perform_38 : decode cX0_perform 38 = .ok (.invokevirtual 71, 3) := by decide +kernel
theorem dX0_perform_41 : decode cX0_perform 41 = .ok (.return_, 1) := by decide +kernel
theorem dX0_performLot_0 : decode cX0_performLot 0 = .ok (.aload_n 0, 1) := by decide +kernel
theorem dX0_performLot_1 : decode cX0_performLot 1 = .ok (.getfield 30, 3) := by decide +kernel
theorem dX0_performLot_4 : decode cX0_performLot 4 = .ok (.ifCond .ne 4, 3) := by decide +kernel
theorem dX0_performLot_7 : decode cX0_performLot 7 = .ok (.return_, 1) := by decide +kernel
theorem dX0_performLot_8 : decode cX0_performLot 8 = .ok (.lload_n 1, 1) := by decide +kernel
theorem dX0_performLot_9 : decode cX0_performLot 9 = .ok (.aload_n 0, 1) := by decide +kernel
theorem dX0_performLot_10 : decode cX0_performLot 10 = .ok (.getfield 30, 3) := by decide +kernel
theorem dX0_performLot_13 : decode cX0_performLot 13 = .ok (.i2l, 1) := by decide +kernel
theorem dX0_performLot_14 : decode cX0_performLot 14 = .ok (.lrem, 1) := by decide +kernel
theorem dX0_performLot_15 : decode cX0_performLot 15 = .ok (.l2i, 1) := by decide +kernel
theorem dX0_performLot_16 : decode cX0_performLot 16 = .ok (.istore_n 3, 1) := by decide +kernel
theorem dX0_performLot_17 : decode cX0_performLot 17 = .ok (.lload_n 1, 1) := by decide +kernel
theorem dX0_performLot_18 : decode cX0_performLot 18 = .ok (.ldc2_w 75, 3) := by decide +kernel
theorem dX0_performLot_21 : decode cX0_performLot 21 = .ok (.ldiv, 1) := by decide +kernel
theorem dX0_performLot_22 : decode cX0_performLot 22 = .ok (.ldc2_w 77, 3) := by decide +kernel
theorem dX0_performLot_25 : decode cX0_performLot 25 = .ok (.lrem, 1) := by decide +kernel
theorem dX0_performLot_26 : decode cX0_performLot 26 = .ok (.l2i, 1) := by decide +kernel
theorem dX0_performLot_27 : decode cX0_performLot 27 = .ok (.tableswitch 77 0 2 #[25, 34, 56], 25) := by decide +kernel
theorem dX0_performLot_52 : decode cX0_performLot 52 = .ok (.aload_n 0, 1) := by decide +kernel
theorem dX0_performLot_53 : decode cX0_performLot 53 = .ok (.iconst 1, 1) := by decide +kernel
theorem dX0_performLot_54 : decode cX0_performLot 54 = .ok (.iconst 0, 1) := by decide +kernel
theorem dX0_performLot_55 : decode cX0_performLot 55 = .ok (.invokevirtual 79, 3) := by decide +kernel
theorem dX0_performLot_58 : decode cX0_performLot 58 = .ok (.goto 52, 3) := by decide +kernel
theorem dX0_performLot_61 : decode cX0_performLot 61 = .ok (.aload_n 0, 1) := by decide +kernel
theorem dX0_performLot_62 : decode cX0_performLot 62 = .ok (.aload_n 0, 1) := by decide +kernel
theorem dX0_performLot_63 : decode cX0_performLot 63 = .ok (.iload_n 3, 1) := by decide +kernel
theorem dX0_performLot_64 : decode cX0_performLot 64 = .ok (.iconst 1, 1) := by decide +kernel
theorem dX0_performLot_65 : decode cX0_performLot 65 = .ok (.invokevirtual 82, 3) := by decide +kernel
theorem dX0_performLot_68 : decode cX0_performLot 68 = .ok (.ifCond .eq 7, 3) := by decide +kernel
theorem dX0_performLot_71 : decode cX0_performLot 71 = .ok (.iconst 3, 1) := by decide +kernel
theorem dX0_performLot_72 : decode cX0_performLot 72 = .ok (.goto 4, 3) := by decide +kernel
theorem dX0_performLot_75 : decode cX0_performLot 75 = .ok (.iconst 2, 1) := by decide +kernel
theorem dX0_performLot_76 : decode cX0_performLot 76 = .ok (.iload_n 3, 1) := by decide +kernel
theorem dX0_performLot_77 : decode cX0_performLot 77 = .ok (.invokevirtual 79, 3) := by decide +kernel
theorem dX0_performLot_80 : decode cX0_performLot 80 = .ok (.goto 30, 3) := by decide +kernel
theorem dX0_performLot_83 : decode cX0_performLot 83 = .ok (.aload_n 0, 1) := by decide +kernel
theorem dX0_performLot_84 : decode cX0_performLot 84 = .ok (.aload_n 0, 1) := by decide +kernel
theorem dX0_performLot_85 : decode cX0_performLot 85 = .ok (.iload_n 3, 1) := by decide +kernel
theorem dX0_performLot_86 : decode cX0_performLot 86 = .ok (.invokevirtual 86, 3) := by decide +kernel
theorem dX0_performLot_89 : decode cX0_performLot 89 = .ok (.ifCond .eq 7, 3) := by decide +kernel
theorem dX0_performLot_92 : decode cX0_performLot 92 = .ok (.iconst 5, 1) := by decide +kernel
theorem dX0_performLot_93 : decode cX0_performLot 93 = .ok (.goto 4, 3) := by decide +kernel
theorem dX0_performLot_96 : decode cX0_performLot 96 = .ok (.iconst 2, 1) := by decide +kernel
theorem dX0_performLot_97 : decode cX0_performLot 97 = .ok (.iload_n 3, 1) := by decide +kernel
theorem dX0_performLot_98 : decode cX0_performLot 98 = .ok (.invokevirtual 79, 3) := by decide +kernel
theorem dX0_performLot_101 : decode cX0_performLot 101 = .ok (.goto 9, 3) := by decide +kernel
theorem dX0_performLot_104 : decode cX0_performLot 104 = .ok (.aload_n 0, 1) := by decide +kernel
theorem dX0_performLot_105 : decode cX0_performLot 105 = .ok (.iconst 0, 1) := by decide +kernel
theorem dX0_performLot_106 : decode cX0_performLot 106 = .ok (.iconst 0, 1) := by decide +kernel
theorem dX0_performLot_107 : decode cX0_performLot 107 = .ok (.invokevirtual 79, 3) := by decide +kernel
theorem dX0_performLot_110 : decode cX0_performLot 110 = .ok (.return_, 1) := by decide +kernel
theorem dX0_act_0 : decode cX0_act 0 = .ok (.aload_n 0, 1) := by decide +kernel
theorem dX0_act_1 : decode cX0_act 1 = .ok (.iload_n 2, 1) := by decide +kernel
theorem dX0_act_2 : decode cX0_act 2 = .ok (.invokevirtual 90, 3) := by decide +kernel
theorem dX0_act_5 : decode cX0_act 5 = .ok (.ifCond .ne 4, 3) := by decide +kernel
theorem dX0_act_8 : decode cX0_act 8 = .ok (.return_, 1) := by decide +kernel
theorem dX0_act_9 : decode cX0_act 9 = .ok (.iload_n 1, 1) := by decide +kernel
theorem dX0_act_10 : decode cX0_act 10 = .ok (.tableswitch 110 0 5 #[38, 45, 59, 73, 86, 99], 38) := by decide +kernel
theorem dX0_act_48 : decode cX0_act 48 = .ok (.aload_n 0, 1) := by decide +kernel
theorem dX0_act_49 : decode cX0_act 49 = .ok (.invokevirtual 93, 3) := by decide +kernel
theorem dX0_act_52 : decode cX0_act 52 = .ok (.goto 68, 3) := by decide +kernel
theorem dX0_act_55 : decode cX0_act 55 = .ok (.aload_n 0, 1) := by decide +kernel
theorem dX0_act_56 : decode cX0_act 56 = .ok (.aload_n 0, 1) := by decide +kernel
theorem dX0_act_57 : decode cX0_act 57 = .ok (.getfield 40, 3) := by decide +kernel
theorem dX0_act_60 : decode cX0_act 60 = .ok (.invokestatic 96, 3) := by decide +kernel
theorem dX0_act_63 : decode cX0_act 63 = .ok (.putfield 40, 3) := by decide +kernel
theorem dX0_act_66 : decode cX0_act 66 = .ok (.goto 54, 3) := by decide +kernel
theorem dX0_act_69 : decode cX0_act 69 = .ok (.aload_n 0, 1) := by decide +kernel
theorem dX0_act_70 : decode cX0_act 70 = .ok (.aload_n 0, 1) := by decide +kernel
theorem dX0_act_71 : decode cX0_act 71 = .ok (.getfield 40, 3) := by decide +kernel
theorem dX0_act_74 : decode cX0_act 74 = .ok (.invokestatic 102, 3) := by decide +kernel
theorem dX0_act_77 : decode cX0_act 77 = .ok (.putfield 40, 3) := by decide +kernel
theorem dX0_act_80 : decode cX0_act 80 = .ok (.goto 40, 3) := by decide +kernel
theorem dX0_act_83 : decode cX0_act 83 = .ok (.aload_n 0, 1) := by decide +kernel
theorem dX0_act_84 : decode cX0_act 84 = .ok (.getfield 18, 3) := by decide +kernel
theorem dX0_act_87 : decode cX0_act 87 = .ok (.iload_n 2, 1) := by decide +kernel
theorem dX0_act_88 : decode cX0_act 88 = .ok (.dup2, 1) := by decide +kernel
theorem dX0_act_89 : decode cX0_act 89 = .ok (.iaload, 1) := by decide +kernel
theorem dX0_act_90 : decode cX0_act 90 = .ok (.iconst 1, 1) := by decide +kernel
theorem dX0_act_91 : decode cX0_act 91 = .ok (.iadd, 1) := by decide +kernel
theorem dX0_act_92 : decode cX0_act 92 = .ok (.iastore, 1) := by decide +kernel
theorem dX0_act_93 : decode cX0_act 93 = .ok (.goto 27, 3) := by decide +kernel
theorem dX0_act_96 : decode cX0_act 96 = .ok (.aload_n 0, 1) := by decide +kernel
theorem dX0_act_97 : decode cX0_act 97 = .ok (.getfield 18, 3) := by decide +kernel
theorem dX0_act_100 : decode cX0_act 100 = .ok (.iload_n 2, 1) := by decide +kernel
theorem dX0_act_101 : decode cX0_act 101 = .ok (.dup2, 1) := by decide +kernel
theorem dX0_act_102 : decode cX0_act 102 = .ok (.iaload, 1) := by decide +kernel
theorem dX0_act_103 : decode cX0_act 103 = .ok (.iconst 1, 1) := by decide +kernel
theorem dX0_act_104 : decode cX0_act 104 = .ok (.isub, 1) := by decide +kernel
theorem dX0_act_105 : decode cX0_act 105 = .ok (.iastore, 1) := by decide +kernel
theorem dX0_act_106 : decode cX0_act 106 = .ok (.goto 14, 3) := by decide +kernel
theorem dX0_act_109 : decode cX0_act 109 = .ok (.aload_n 0, 1) := by decide +kernel
theorem dX0_act_110 : decode cX0_act 110 = .ok (.getfield 18, 3) := by decide +kernel
theorem dX0_act_113 : decode cX0_act 113 = .ok (.iload_n 2, 1) := by decide +kernel
theorem dX0_act_114 : decode cX0_act 114 = .ok (.bipush (-9), 2) := by decide +kernel
theorem dX0_act_116 : decode cX0_act 116 = .ok (.iastore, 1) := by decide +kernel
theorem dX0_act_117 : decode cX0_act 117 = .ok (.goto 3, 3) := by decide +kernel
theorem dX0_act_120 : decode cX0_act 120 = .ok (.return_, 1) := by decide +kernel
theorem dX0_passYear_0 : decode cX0_passYear 0 = .ok (.iconst 0, 1) := by decide +kernel
theorem dX0_passYear_1 : decode cX0_passYear 1 = .ok (.istore_n 1, 1) := by decide +kernel
theorem dX0_passYear_2 : decode cX0_passYear 2 = .ok (.iload_n 1, 1) := by decide +kernel
theorem dX0_passYear_3 : decode cX0_passYear 3 = .ok (.aload_n 0, 1) := by decide +kernel
theorem dX0_passYear_4 : decode cX0_passYear 4 = .ok (.getfield 30, 3) := by decide +kernel
theorem dX0_passYear_7 : decode cX0_passYear 7 = .ok (.if_icmp .ge 35, 3) := by decide +kernel
theorem dX0_passYear_10 : decode cX0_passYear 10 = .ok (.aload_n 0, 1) := by decide +kernel
theorem dX0_passYear_11 : decode cX0_passYear 11 = .ok (.iload_n 1, 1) := by decide +kernel
theorem dX0_passYear_12 : decode cX0_passYear 12 = .ok (.invokevirtual 105, 3) := by decide +kernel
theorem dX0_passYear_15 : decode cX0_passYear 15 = .ok (.ifCond .ne 21, 3) := by decide +kernel
theorem dX0_passYear_18 : decode cX0_passYear 18 = .ok (.aload_n 0, 1) := by decide +kernel
theorem dX0_passYear_19 : decode cX0_passYear 19 = .ok (.getfield 18, 3) := by decide +kernel
theorem dX0_passYear_22 : decode cX0_passYear 22 = .ok (.iload_n 1, 1) := by decide +kernel
theorem dX0_passYear_23 : decode cX0_passYear 23 = .ok (.aload_n 0, 1) := by decide +kernel
theorem dX0_passYear_24 : decode cX0_passYear 24 = .ok (.iload_n 1, 1) := by decide +kernel
theorem dX0_passYear_25 : decode cX0_passYear 25 = .ok (.aload_n 0, 1) := by decide +kernel
theorem dX0_passYear_26 : decode cX0_passYear 26 = .ok (.getfield 18, 3) := by decide +kernel
theorem dX0_passYear_29 : decode cX0_passYear 29 = .ok (.iload_n 1, 1) := by decide +kernel
theorem dX0_passYear_30 : decode cX0_passYear 30 = .ok (.iaload, 1) := by decide +kernel
theorem dX0_passYear_31 : decode cX0_passYear 31 = .ok (.iconst 1, 1) := by decide +kernel
theorem dX0_passYear_32 : decode cX0_passYear 32 = .ok (.invokevirtual 108, 3) := by decide +kernel
theorem dX0_passYear_35 : decode cX0_passYear 35 = .ok (.iastore, 1) := by decide +kernel
theorem dX0_passYear_36 : decode cX0_passYear 36 = .ok (.iinc 1 1, 3) := by decide +kernel
theorem dX0_passYear_39 : decode cX0_passYear 39 = .ok (.goto (-37), 3) := by decide +kernel
theorem dX0_passYear_42 : decode cX0_passYear 42 = .ok (.aload_n 0, 1) := by decide +kernel
theorem dX0_passYear_43 : decode cX0_passYear 43 = .ok (.dup, 1) := by decide +kernel
theorem dX0_passYear_44 : decode cX0_passYear 44 = .ok (.getfield 43, 3) := by decide +kernel
theorem dX0_passYear_47 : decode cX0_passYear 47 = .ok (.iconst 1, 1) := by decide +kernel
theorem dX0_passYear_48 : decode cX0_passYear 48 = .ok (.iadd, 1) := by decide +kernel
theorem dX0_passYear_49 : decode cX0_passYear 49 = .ok (.putfield 43, 3) := by decide +kernel
theorem dX0_passYear_52 : decode cX0_passYear 52 = .ok (.return_, 1) := by decide +kernel
theorem dX0_has_0 : decode cX0_has 0 = .ok (.iload_n 1, 1) := by decide +kernel
theorem dX0_has_1 : decode cX0_has 1 = .ok (.ifCond .lt 15, 3) := by decide +kernel
theorem dX0_has_4 : decode cX0_has 4 = .ok (.iload_n 1, 1) := by decide +kernel
theorem dX0_has_5 : decode cX0_has 5 = .ok (.aload_n 0, 1) := by decide +kernel
theorem dX0_has_6 : decode cX0_has 6 = .ok (.getfield 30, 3) := by decide +kernel
theorem dX0_has_9 : decode cX0_has 9 = .ok (.if_icmp .ge 7, 3) := by decide +kernel
theorem dX0_has_12 : decode cX0_has 12 = .ok (.iconst 1, 1) := by decide +kernel
theorem dX0_has_13 : decode cX0_has 13 = .ok (.goto 4, 3) := by decide +kernel
theorem dX0_has_16 : decode cX0_has 16 = .ok (.iconst 0, 1) := by decide +kernel
theorem dX0_has_17 : decode cX0_has 17 = .ok (.ireturn, 1) := by decide +kernel
theorem dX0_isTaken_0 : decode cX0_isTaken 0 = .ok (.aload_n 0, 1) := by decide +kernel
theorem dX0_isTaken_1 : decode cX0_isTaken 1 = .ok (.getfield 18, 3) := by decide +kernel
theorem dX0_isTaken_4 : decode cX0_isTaken 4 = .ok (.iload_n 1, 1) := by decide +kernel
theorem dX0_isTaken_5 : decode cX0_isTaken 5 = .ok (.iaload, 1) := by decide +kernel
theorem dX0_isTaken_6 : decode cX0_isTaken 6 = .ok (.bipush (-9), 2) := by decide +kernel
theorem dX0_isTaken_8 : decode cX0_isTaken 8 = .ok (.if_icmp .ne 7, 3) := by decide +kernel
theorem dX0_isTaken_11 : decode cX0_isTaken 11 = .ok (.iconst 1, 1) := by decide +kernel
theorem dX0_isTaken_12 : decode cX0_isTaken 12 = .ok (.goto 4, 3) := by decide +kernel
theorem dX0_isTaken_15 : decode cX0_isTaken 15 = .ok (.iconst 0, 1) := by decide +kernel
theorem dX0_isTaken_16 : decode cX0_isTaken 16 = .ok (.ireturn, 1) := by decide +kernel
theorem dX0_canMove_0 : decode cX0_canMove 0 = .ok (.aload_n 0, 1) := by decide +kernel
theorem dX0_canMove_1 : decode cX0_canMove 1 = .ok (.iload_n 1, 1) := by decide +kernel
theorem dX0_canMove_2 : decode cX0_canMove 2 = .ok (.invokevirtual 105, 3) := by decide +kernel
theorem dX0_canMove_5 : decode cX0_canMove 5 = .ok (.ifCond .ne 21, 3) := by decide +kernel
theorem dX0_canMove_8 : decode cX0_canMove 8 = .ok (.aload_n 0, 1) := by decide +kernel
theorem dX0_canMove_9 : decode cX0_canMove 9 = .ok (.getfield 18, 3) := by decide +kernel
theorem dX0_canMove_12 : decode cX0_canMove 12 = .ok (.iload_n 1, 1) := by decide +kernel
theorem dX0_canMove_13 : decode cX0_canMove 13 = .ok (.iaload, 1) := by decide +kernel
theorem dX0_canMove_14 : decode cX0_canMove 14 = .ok (.iload_n 2, 1) := by decide +kernel
theorem dX0_canMove_15 : decode cX0_canMove 15 = .ok (.iadd, 1) := by decide +kernel
theorem dX0_canMove_16 : decode cX0_canMove 16 = .ok (.invokestatic 112, 3) := by decide +kernel
theorem dX0_canMove_19 : decode cX0_canMove 19 = .ok (.ifCond .eq 7, 3) := by decide +kernel
theorem dX0_canMove_22 : decode cX0_canMove 22 = .ok (.iconst 1, 1) := by decide +kernel
theorem dX0_canMove_23 : decode cX0_canMove 23 = .ok (.goto 4, 3) := by decide +kernel
theorem dX0_canMove_26 : decode cX0_canMove 26 = .ok (.iconst 0, 1) := by decide +kernel
theorem dX0_canMove_27 : decode cX0_canMove 27 = .ok (.ireturn, 1) := by decide +kernel
theorem dX0_canTake_0 : decode cX0_canTake 0 = .ok (.aload_n 0, 1) := by decide +kernel
theorem dX0_canTake_1 : decode cX0_canTake 1 = .ok (.iload_n 1, 1) := by decide +kernel
theorem dX0_canTake_2 : decode cX0_canTake 2 = .ok (.invokevirtual 105, 3) := by decide +kernel
theorem dX0_canTake_5 : decode cX0_canTake 5 = .ok (.ifCond .ne 14, 3) := by decide +kernel
theorem dX0_canTake_8 : decode cX0_canTake 8 = .ok (.aload_n 0, 1) := by decide +kernel
theorem dX0_canTake_9 : decode cX0_canTake 9 = .ok (.getfield 40, 3) := by decide +kernel
theorem dX0_canTake_12 : decode cX0_canTake 12 = .ok (.ifCond .ne 7, 3) := by decide +kernel
theorem dX0_canTake_15 : decode cX0_canTake 15 = .ok (.iconst 1, 1) := by decide +kernel
theorem dX0_canTake_16 : decode cX0_canTake 16 = .ok (.goto 4, 3) := by decide +kernel
theorem dX0_canTake_19 : decode cX0_canTake 19 = .ok (.iconst 0, 1) := by decide +kernel
theorem dX0_canTake_20 : decode cX0_canTake 20 = .ok (.ireturn, 1) := by decide +kernel
theorem dX0_drift_0 : decode cX0_drift 0 = .ok (.aload_n 0, 1) := by decide +kernel
theorem dX0_drift_1 : decode cX0_drift 1 = .ok (.getfield 40, 3) := by decide +kernel
theorem dX0_drift_4 : decode cX0_drift 4 = .ok (.ifCond .ne 5, 3) := by decide +kernel
theorem dX0_drift_7 : decode cX0_drift 7 = .ok (.iconst 0, 1) := by decide +kernel
theorem dX0_drift_8 : decode cX0_drift 8 = .ok (.ireturn, 1) := by decide +kernel
theorem dX0_drift_9 : decode cX0_drift 9 = .ok (.aload_n 0, 1) := by decide +kernel
theorem dX0_drift_10 : decode cX0_drift 10 = .ok (.getfield 34, 3) := by decide +kernel
theorem dX0_drift_13 : decode cX0_drift 13 = .ok (.iload_n 2, 1) := by decide +kernel
theorem dX0_drift_14 : decode cX0_drift 14 = .ok (.if_icmp .le 7, 3) := by decide +kernel
theorem dX0_drift_17 : decode cX0_drift 17 = .ok (.iconst 1, 1) := by decide +kernel
theorem dX0_drift_18 : decode cX0_drift 18 = .ok (.goto 4, 3) := by decide +kernel
theorem dX0_drift_21 : decode cX0_drift 21 = .ok (.iconst 0, 1) := by decide +kernel
theorem dX0_drift_22 : decode cX0_drift 22 = .ok (.istore 4, 2) := by decide +kernel
theorem dX0_drift_24 : decode cX0_drift 24 = .ok (.iload_n 3, 1) := by decide +kernel
theorem dX0_drift_25 : decode cX0_drift 25 = .ok (.iconst 2, 1) := by decide +kernel
theorem dX0_drift_26 : decode cX0_drift 26 = .ok (.irem, 1) := by decide +kernel
theorem dX0_drift_27 : decode cX0_drift 27 = .ok (.ifCond .ne 7, 3) := by decide +kernel
theorem dX0_drift_30 : decode cX0_drift 30 = .ok (.iconst 1, 1) := by decide +kernel
theorem dX0_drift_31 : decode cX0_drift 31 = .ok (.goto 4, 3) := by decide +kernel
theorem dX0_drift_34 : decode cX0_drift 34 = .ok (.iconst 0, 1) := by decide +kernel
theorem dX0_drift_35 : decode cX0_drift 35 = .ok (.istore 5, 2) := by decide +kernel
theorem dX0_drift_37 : decode cX0_drift 37 = .ok (.iload_n 1, 1) := by decide +kernel
theorem dX0_drift_38 : decode cX0_drift 38 = .ok (.tableswitch 70 1 5 #[34, 39, 41, 53, 59], 34) := by decide +kernel
theorem dX0_drift_72 : decode cX0_drift 72 = .ok (.iload 4, 2) := by decide +kernel
theorem dX0_drift_74 : decode cX0_drift 74 = .ok (.iconst 1, 1) := by decide +kernel
theorem dX0_drift_75 : decode cX0_drift 75 = .ok (.iadd, 1) := by decide +kernel
theorem dX0_drift_76 : decode cX0_drift 76 = .ok (.ireturn, 1) := by decide +kernel
theorem dX0_drift_77 : decode cX0_drift 77 = .ok (.iconst 0, 1) := by decide +kernel
theorem dX0_drift_78 : decode cX0_drift 78 = .ok (.ireturn, 1) := by decide +kernel
theorem dX0_drift_79 : decode cX0_drift 79 = .ok (.iload 5, 2) := by decide +kernel
theorem dX0_drift_81 : decode cX0_drift 81 = .ok (.ifCond .eq 8, 3) := by decide +kernel
theorem dX0_drift_84 : decode cX0_drift 84 = .ok (.iload 4, 2) := by decide +kernel
theorem dX0_drift_86 : decode cX0_drift 86 = .ok (.goto 4, 3) := by decide +kernel
theorem dX0_drift_89 : decode cX0_drift 89 = .ok (.iconst 0, 1) := by decide +kernel
theorem dX0_drift_90 : decode cX0_drift 90 = .ok (.ireturn, 1) := by decide +kernel
theorem dX0_drift_91 : decode cX0_drift 91 = .ok (.iload 4, 2) := by decide +kernel
theorem dX0_drift_93 : decode cX0_drift 93 = .ok (.iconst 1, 1) := by decide +kernel
theorem dX0_drift_94 : decode cX0_drift 94 = .ok (.iadd, 1) := by decide +kernel
theorem dX0_drift_95 : decode cX0_drift 95 = .ok (.ineg, 1) := by decide +kernel
theorem dX0_drift_96 : decode cX0_drift 96 = .ok (.ireturn, 1) := by decide +kernel
theorem dX0_drift_97 : decode cX0_drift 97 = .ok (.iload 5, 2) := by decide +kernel
theorem dX0_drift_99 : decode cX0_drift 99 = .ok (.ifCond .eq 7, 3) := by decide +kernel
theorem dX0_drift_102 : decode cX0_drift 102 = .ok (.iconst 0, 1) := by decide +kernel
theorem dX0_drift_103 : decode cX0_drift 103 = .ok (.goto 4, 3) := by decide +kernel
theorem dX0_drift_106 : decode cX0_drift 106 = .ok (.iconst 1, 1) := by decide +kernel
theorem dX0_drift_107 : decode cX0_drift 107 = .ok (.ireturn, 1) := by decide +kernel
theorem dX0_drift_108 : decode cX0_drift 108 = .ok (.iload 4, 2) := by decide +kernel
theorem dX0_drift_110 : decode cX0_drift 110 = .ok (.ireturn, 1) := by decide +kernel
theorem dX0_step_0 : decode cX0_step 0 = .ok (.iconst 0, 1) := by decide +kernel
theorem dX0_step_1 : decode cX0_step 1 = .ok (.bipush 7, 2) := by decide +kernel
theorem dX0_step_3 : decode cX0_step 3 = .ok (.iload_n 3, 1) := by decide +kernel
theorem dX0_step_4 : decode cX0_step 4 = .ok (.aload_n 0, 1) := by decide +kernel
theorem dX0_step_5 : decode cX0_step 5 = .ok (.iload_n 1, 1) := by decide +kernel
theorem dX0_step_6 : decode cX0_step 6 = .ok (.iload_n 2, 1) := by decide +kernel
theorem dX0_step_7 : decode cX0_step 7 = .ok (.iload 4, 2) := by decide +kernel
theorem dX0_step_9 : decode cX0_step 9 = .ok (.invokevirtual 115, 3) := by decide +kernel
theorem dX0_step_12 : decode cX0_step 12 = .ok (.iadd, 1) := by decide +kernel
theorem dX0_step_13 : decode cX0_step 13 = .ok (.invokestatic 52, 3) := by decide +kernel
theorem dX0_step_16 : decode cX0_step 16 = .ok (.invokestatic 118, 3) := by decide +kernel
theorem dX0_step_19 : decode cX0_step 19 = .ok (.ireturn, 1) := by decide +kernel
theorem dX0_drifted_0 : decode cX0_drifted 0 = .ok (.iload_n 3, 1) := by decide +kernel
theorem dX0_drifted_1 : decode cX0_drifted 1 = .ok (.istore 5, 2) := by decide +kernel
theorem dX0_drifted_3 : decode cX0_drifted 3 = .ok (.iconst 0, 1) := by decide +kernel
theorem dX0_drifted_4 : decode cX0_drifted 4 = .ok (.istore 6, 2) := by decide +kernel
theorem dX0_drifted_6 : decode cX0_drifted 6 = .ok (.iload 6, 2) := by decide +kernel
theorem dX0_drifted_8 : decode cX0_drifted 8 = .ok (.iload 4, 2) := by decide +kernel
theorem dX0_drifted_10 : decode cX0_drifted 10 = .ok (.if_icmp .ge 26, 3) := by decide +kernel
theorem dX0_drifted_13 : decode cX0_drifted 13 = .ok (.aload_n 0, 1) := by decide +kernel
theorem dX0_drifted_14 : decode cX0_drifted 14 = .ok (.iload_n 1, 1) := by decide +kernel
theorem dX0_drifted_15 : decode cX0_drifted 15 = .ok (.iload_n 2, 1) := by decide +kernel
theorem dX0_drifted_16 : decode cX0_drifted 16 = .ok (.iload 5, 2) := by decide +kernel
theorem dX0_drifted_18 : decode cX0_drifted 18 = .ok (.aload_n 0, 1) := by decide +kernel
theorem dX0_drifted_19 : decode cX0_drifted 19 = .ok (.getfield 43, 3) := by decide +kernel
theorem dX0_drifted_22 : decode cX0_drifted 22 = .ok (.iload 6, 2) := by decide +kernel
theorem dX0_drifted_24 : decode cX0_drifted 24 = .ok (.iadd, 1) := by decide +kernel
theorem dX0_drifted_25 : decode cX0_drifted 25 = .ok (.invokevirtual 121, 3) := by decide +kernel
theorem dX0_drifted_28 : decode cX0_drifted 28 = .ok (.istore 5, 2) := by decide +kernel
theorem dX0_drifted_30 : decode cX0_drifted 30 = .ok (.iinc 6 1, 3) := by decide +kernel
theorem dX0_drifted_33 : decode cX0_drifted 33 = .ok (.goto (-27), 3) := by decide +kernel
theorem dX0_drifted_36 : decode cX0_drifted 36 = .ok (.iload 5, 2) := by decide +kernel
theorem dX0_drifted_38 : decode cX0_drifted 38 = .ok (.ireturn, 1) := by decide +kernel
theorem dX0_cellAfter_0 : decode cX0_cellAfter 0 = .ok (.aload_n 0, 1) := by decide +kernel
theorem dX0_cellAfter_1 : decode cX0_cellAfter 1 = .ok (.aload_n 0, 1) := by decide +kernel
theorem dX0_cellAfter_2 : decode cX0_cellAfter 2 = .ok (.getfield 9, 3) := by decide +kernel
theorem dX0_cellAfter_5 : decode cX0_cellAfter 5 = .ok (.iload_n 1, 1) := by decide +kernel
theorem dX0_cellAfter_6 : decode cX0_cellAfter 6 = .ok (.iaload, 1) := by decide +kernel
theorem dX0_cellAfter_7 : decode cX0_cellAfter 7 = .ok (.aload_n 0, 1) := by decide +kernel
theorem dX0_cellAfter_8 : decode cX0_cellAfter 8 = .ok (.getfield 21, 3) := by decide +kernel
theorem dX0_cellAfter_11 : decode cX0_cellAfter 11 = .ok (.iload_n 1, 1) := by decide +kernel
theorem dX0_cellAfter_12 : decode cX0_cellAfter 12 = .ok (.iaload, 1) := by decide +kernel
theorem dX0_cellAfter_13 : decode cX0_cellAfter 13 = .ok (.iload_n 2, 1) := by decide +kernel
theorem dX0_cellAfter_14 : decode cX0_cellAfter 14 = .ok (.iload_n 3, 1) := by decide +kernel
theorem dX0_cellAfter_15 : decode cX0_cellAfter 15 = .ok (.invokevirtual 125, 3) := by decide +kernel
theorem dX0_cellAfter_18 : decode cX0_cellAfter 18 = .ok (.ireturn, 1) := by decide +kernel
theorem dX0_crowdedCell_0 : decode cX0_crowdedCell 0 = .ok (.iconst 0, 1) := by decide +kernel
theorem dX0_crowdedCell_1 : decode cX0_crowdedCell 1 = .ok (.istore_n 2, 1) := by decide +kernel
theorem dX0_crowdedCell_2 : decode cX0_crowdedCell 2 = .ok (.iconst 0, 1) := by decide +kernel
theorem dX0_crowdedCell_3 : decode cX0_crowdedCell 3 = .ok (.istore_n 3, 1) := by decide +kernel
theorem dX0_crowdedCell_4 : decode cX0_crowdedCell 4 = .ok (.iconst 0, 1) := by decide +kernel
theorem dX0_crowdedCell_5 : decode cX0_crowdedCell 5 = .ok (.istore 4, 2) := by decide +kernel
theorem dX0_crowdedCell_7 : decode cX0_crowdedCell 7 = .ok (.iconst 0, 1) := by decide +kernel
theorem dX0_crowdedCell_8 : decode cX0_crowdedCell 8 = .ok (.istore 5, 2) := by decide +kernel
theorem dX0_crowdedCell_10 : decode cX0_crowdedCell 10 = .ok (.iload 5, 2) := by decide +kernel
theorem dX0_crowdedCell_12 : decode cX0_crowdedCell 12 = .ok (.aload_n 0, 1) := by decide +kernel
theorem dX0_crowdedCell_13 : decode cX0_crowdedCell 13 = .ok (.getfield 30, 3) := by decide +kernel
theorem dX0_crowdedCell_16 : decode cX0_crowdedCell 16 = .ok (.if_icmp .ge 60, 3) := by decide +kernel
theorem dX0_crowdedCell_19 : decode cX0_crowdedCell 19 = .ok (.aload_n 0, 1) := by decide +kernel
theorem dX0_crowdedCell_20 : decode cX0_crowdedCell 20 = .ok (.iload 5, 2) := by decide +kernel
theorem dX0_crowdedCell_22 : decode cX0_crowdedCell 22 = .ok (.invokevirtual 105, 3) := by decide +kernel
theorem dX0_crowdedCell_25 : decode cX0_crowdedCell 25 = .ok (.ifCond .eq 6, 3) := by decide +kernel
theorem dX0_crowdedCell_28 : decode cX0_crowdedCell 28 = .ok (.goto 42, 3) := by decide +kernel
theorem dX0_crowdedCell_31 : decode cX0_crowdedCell 31 = .ok (.iconst 1, 1) := by decide +kernel
theorem dX0_crowdedCell_32 : decode cX0_crowdedCell 32 = .ok (.aload_n 0, 1) := by decide +kernel
theorem dX0_crowdedCell_33 : decode cX0_crowdedCell 33 = .ok (.iload 5, 2) := by decide +kernel
theorem dX0_crowdedCell_35 : decode cX0_crowdedCell 35 = .ok (.aload_n 0, 1) := by decide +kernel
theorem dX0_crowdedCell_36 : decode cX0_crowdedCell 36 = .ok (.getfield 18, 3) := by decide +kernel
theorem dX0_crowdedCell_39 : decode cX0_crowdedCell 39 = .ok (.iload 5, 2) := by decide +kernel
theorem dX0_crowdedCell_41 : decode cX0_crowdedCell 41 = .ok (.iaload, 1) := by decide +kernel
theorem dX0_crowdedCell_42 : decode cX0_crowdedCell 42 = .ok (.iload_n 1, 1) := by decide +kernel
theorem dX0_crowdedCell_43 : decode cX0_crowdedCell 43 = .ok (.invokevirtual 108, 3) := by decide +kernel
theorem dX0_crowdedCell_46 : decode cX0_crowdedCell 46 = .ok (.ishl, 1) := by decide +kernel
theorem dX0_crowdedCell_47 : decode cX0_crowdedCell 47 = .ok (.istore 6, 2) := by decide +kernel
theorem dX0_crowdedCell_49 : decode cX0_crowdedCell 49 = .ok (.iload 4, 2) := by decide +kernel
theorem dX0_crowdedCell_51 : decode cX0_crowdedCell 51 = .ok (.iload_n 3, 1) := by decide +kernel
theorem dX0_crowdedCell_52 : decode cX0_crowdedCell 52 = .ok (.iload 6, 2) := by decide +kernel
theorem dX0_crowdedCell_54 : decode cX0_crowdedCell 54 = .ok (.iand, 1) := by decide +kernel
theorem dX0_crowdedCell_55 : decode cX0_crowdedCell 55 = .ok (.ior, 1) := by decide +kernel
theorem dX0_crowdedCell_56 : decode cX0_crowdedCell 56 = .ok (.istore 4, 2) := by decide +kernel
theorem dX0_crowdedCell_58 : decode cX0_crowdedCell 58 = .ok (.iload_n 3, 1) := by decide +kernel
theorem dX0_crowdedCell_59 : decode cX0_crowdedCell 59 = .ok (.iload_n 2, 1) := by decide +kernel
theorem dX0_crowdedCell_60 : decode cX0_crowdedCell 60 = .ok (.iload 6, 2) := by decide +kernel
theorem dX0_crowdedCell_62 : decode cX0_crowdedCell 62 = .ok (.iand, 1) := by decide +kernel
theorem dX0_crowdedCell_63 : decode cX0_crowdedCell 63 = .ok (.ior, 1) := by decide +kernel
theorem dX0_crowdedCell_64 : decode cX0_crowdedCell 64 = .ok (.istore_n 3, 1) := by decide +kernel
theorem dX0_crowdedCell_65 : decode cX0_crowdedCell 65 = .ok (.iload_n 2, 1) := by decide +kernel
theorem dX0_crowdedCell_66 : decode cX0_crowdedCell 66 = .ok (.iload 6, 2) := by decide +kernel
theorem dX0_crowdedCell_68 : decode cX0_crowdedCell 68 = .ok (.ior, 1) := by decide +kernel
theorem dX0_crowdedCell_69 : decode cX0_crowdedCell 69 = .ok (.istore_n 2, 1) := by decide +kernel
theorem dX0_crowdedCell_70 : decode cX0_crowdedCell 70 = .ok (.iinc 5 1, 3) := by decide +kernel
theorem dX0_crowdedCell_73 : decode cX0_crowdedCell 73 = .ok (.goto (-63), 3) := by decide +kernel
theorem dX0_crowdedCell_76 : decode cX0_crowdedCell 76 = .ok (.iload 4, 2) := by decide +kernel
theorem dX0_crowdedCell_78 : decode cX0_crowdedCell 78 = .ok (.ifCond .ne 8, 3) := by decide +kernel
theorem dX0_crowdedCell_81 : decode cX0_crowdedCell 81 = .ok (.bipush (-9), 2) := by decide +kernel
theorem dX0_crowdedCell_83 : decode cX0_crowdedCell 83 = .ok (.goto 8, 3) := by decide +kernel
theorem dX0_crowdedCell_86 : decode cX0_crowdedCell 86 = .ok (.iload 4, 2) := by decide +kernel
theorem dX0_crowdedCell_88 : decode cX0_crowdedCell 88 = .ok (.invokestatic 128, 3) := by decide +kernel
theorem dX0_crowdedCell_91 : decode cX0_crowdedCell 91 = .ok (.ireturn, 1) := by decide +kernel
theorem dX0_fewestMoves_0 : decode cX0_fewestMoves 0 = .ok (.bipush (-9), 2) := by decide +kernel
theorem dX0_fewestMoves_2 : decode cX0_fewestMoves 2 = .ok (.istore 4, 2) := by decide +kernel
theorem dX0_fewestMoves_4 : decode cX0_fewestMoves 4 = .ok (.iconst 0, 1) := by decide +kernel
theorem dX0_fewestMoves_5 : decode cX0_fewestMoves 5 = .ok (.istore 5, 2) := by decide +kernel
theorem dX0_fewestMoves_7 : decode cX0_fewestMoves 7 = .ok (.iload 5, 2) := by decide +kernel
theorem dX0_fewestMoves_9 : decode cX0_fewestMoves 9 = .ok (.bipush 8, 2) := by decide +kernel
theorem dX0_fewestMoves_11 : decode cX0_fewestMoves 11 = .ok (.if_icmp .ge 56, 3) := by decide +kernel
theorem dX0_fewestMoves_14 : decode cX0_fewestMoves 14 = .ok (.aload_n 0, 1) := by decide +kernel
theorem dX0_fewestMoves_15 : decode cX0_fewestMoves 15 = .ok (.iload_n 1, 1) := by decide +kernel
theorem dX0_fewestMoves_16 : decode cX0_fewestMoves 16 = .ok (.iload 5, 2) := by decide +kernel
theorem dX0_fewestMoves_18 : decode cX0_fewestMoves 18 = .ok (.iload_n 3, 1) := by decide +kernel
theorem dX0_fewestMoves_19 : decode cX0_fewestMoves 19 = .ok (.invokevirtual 108, 3) := by decide +kernel
theorem dX0_fewestMoves_22 : decode cX0_fewestMoves 22 = .ok (.iload_n 2, 1) := by decide +kernel
theorem dX0_fewestMoves_23 : decode cX0_fewestMoves 23 = .ok (.if_icmp .eq 6, 3) := by decide +kernel
theorem dX0_fewestMoves_26 : decode cX0_fewestMoves 26 = .ok (.goto 35, 3) := by decide +kernel
theorem dX0_fewestMoves_29 : decode cX0_fewestMoves 29 = .ok (.iload 5, 2) := by decide +kernel
theorem dX0_fewestMoves_31 : decode cX0_fewestMoves 31 = .ok (.aload_n 0, 1) := by decide +kernel
theorem dX0_fewestMoves_32 : decode cX0_fewestMoves 32 = .ok (.getfield 18, 3) := by decide +kernel
theorem dX0_fewestMoves_35 : decode cX0_fewestMoves 35 = .ok (.iload_n 1, 1) := by decide +kernel
theorem dX0_fewestMoves_36 : decode cX0_fewestMoves 36 = .ok (.iaload, 1) := by decide +kernel
theorem dX0_fewestMoves_37 : decode cX0_fewestMoves 37 = .ok (.isub, 1) := by decide +kernel
theorem dX0_fewestMoves_38 : decode cX0_fewestMoves 38 = .ok (.invokestatic 133, 3) := by decide +kernel
theorem dX0_fewestMoves_41 : decode cX0_fewestMoves 41 = .ok (.istore 6, 2) := by decide +kernel
theorem dX0_fewestMoves_43 : decode cX0_fewestMoves 43 = .ok (.iload 4, 2) := by decide +kernel
theorem dX0_fewestMoves_45 : decode cX0_fewestMoves 45 = .ok (.bipush (-9), 2) := by decide +kernel
theorem dX0_fewestMoves_47 : decode cX0_fewestMoves 47 = .ok (.if_icmp .eq 10, 3) := by decide +kernel
theorem dX0_fewestMoves_50 : decode cX0_fewestMoves 50 = .ok (.iload 6, 2) := by decide +kernel
theorem dX0_fewestMoves_52 : decode cX0_fewestMoves 52 = .ok (.iload 4, 2) := by decide +kernel
theorem dX0_fewestMoves_54 : decode cX0_fewestMoves 54 = .ok (.if_icmp .ge 7, 3) := by decide +kernel
theorem dX0_fewestMoves_57 : decode cX0_fewestMoves 57 = .ok (.iload 6, 2) := by decide +kernel
theorem dX0_fewestMoves_59 : decode cX0_fewestMoves 59 = .ok (.istore 4, 2) := by decide +kernel
theorem dX0_fewestMoves_61 : decode cX0_fewestMoves 61 = .ok (.iinc 5 1, 3) := by decide +kernel
theorem dX0_fewestMoves_64 : decode cX0_fewestMoves 64 = .ok (.goto (-57), 3) := by decide +kernel
theorem dX0_fewestMoves_67 : decode cX0_fewestMoves 67 = .ok (.iload 4, 2) := by decide +kernel
theorem dX0_fewestMoves_69 : decode cX0_fewestMoves 69 = .ok (.ireturn, 1) := by decide +kernel
theorem dX0_weighWays_0 : decode cX0_weighWays 0 = .ok (.iload_n 3, 1) := by decide +kernel
theorem dX0_weighWays_1 : decode cX0_weighWays 1 = .ok (.ifCond .gt 25, 3) := by decide +kernel
theorem dX0_weighWays_4 : decode cX0_weighWays 4 = .ok (.iload 5, 2) := by decide +kernel
theorem dX0_weighWays_6 : decode cX0_weighWays 6 = .ok (.bipush (-9), 2) := by decide +kernel
theorem dX0_weighWays_8 : decode cX0_weighWays 8 = .ok (.if_icmp .ne 6, 3) := by decide +kernel
theorem dX0_weighWays_11 : decode cX0_weighWays 11 = .ok (.iload_n 2, 1) := by decide +kernel
theorem dX0_weighWays_12 : decode cX0_weighWays 12 = .ok (.i2l, 1) := by decide +kernel
theorem dX0_weighWays_13 : decode cX0_weighWays 13 = .ok (.lreturn, 1) := by decide +kernel
theorem dX0_weighWays_14 : decode cX0_weighWays 14 = .ok (.iload_n 2, 1) := by decide +kernel
theorem dX0_weighWays_15 : decode cX0_weighWays 15 = .ok (.iload 5, 2) := by decide +kernel
theorem dX0_weighWays_17 : decode cX0_weighWays 17 = .ok (.if_icmp .ne 7, 3) := by decide +kernel
theorem dX0_weighWays_20 : decode cX0_weighWays 20 = .ok (.lconst 1, 1) := by decide +kernel
theorem dX0_weighWays_21 : decode cX0_weighWays 21 = .ok (.goto 4, 3) := by decide +kernel
theorem dX0_weighWays_24 : decode cX0_weighWays 24 = .ok (.lconst 0, 1) := by decide +kernel
theorem dX0_weighWays_25 : decode cX0_weighWays 25 = .ok (.lreturn, 1) := by decide +kernel
theorem dX0_weighWays_26 : decode cX0_weighWays 26 = .ok (.aload_n 0, 1) := by decide +kernel
theorem dX0_weighWays_27 : decode cX0_weighWays 27 = .ok (.aload_n 0, 1) := by decide +kernel
theorem dX0_weighWays_28 : decode cX0_weighWays 28 = .ok (.getfield 9, 3) := by decide +kernel
theorem dX0_weighWays_31 : decode cX0_weighWays 31 = .ok (.iload_n 1, 1) := by decide +kernel
theorem dX0_weighWays_32 : decode cX0_weighWays 32 = .ok (.iaload, 1) := by decide +kernel
theorem dX0_weighWays_33 : decode cX0_weighWays 33 = .ok (.aload_n 0, 1) := by decide +kernel
theorem dX0_weighWays_34 : decode cX0_weighWays 34 = .ok (.getfield 21, 3) := by decide +kernel
theorem dX0_weighWays_37 : decode cX0_weighWays 37 = .ok (.iload_n 1, 1) := by decide +kernel
theorem dX0_weighWays_38 : decode cX0_weighWays 38 = .ok (.iaload, 1) := by decide +kernel
theorem dX0_weighWays_39 : decode cX0_weighWays 39 = .ok (.iload_n 2, 1) := by decide +kernel
theorem dX0_weighWays_40 : decode cX0_weighWays 40 = .ok (.iload 6, 2) := by decide +kernel
theorem dX0_weighWays_42 : decode cX0_weighWays 42 = .ok (.invokevirtual 121, 3) := by decide +kernel
theorem dX0_weighWays_45 : decode cX0_weighWays 45 = .ok (.istore 7, 2) := by decide +kernel
theorem dX0_weighWays_47 : decode cX0_weighWays 47 = .ok (.iload 4, 2) := by decide +kernel
theorem dX0_weighWays_49 : decode cX0_weighWays 49 = .ok (.i2l, 1) := by decide +kernel
theorem dX0_weighWays_50 : decode cX0_weighWays 50 = .ok (.aload_n 0, 1) := by decide +kernel
theorem dX0_weighWays_51 : decode cX0_weighWays 51 = .ok (.iload_n 1, 1) := by decide +kernel
theorem dX0_weighWays_52 : decode cX0_weighWays 52 = .ok (.iload_n 2, 1) := by decide +kernel
theorem dX0_weighWays_53 : decode cX0_weighWays 53 = .ok (.iload_n 3, 1) := by decide +kernel
theorem dX0_weighWays_54 : decode cX0_weighWays 54 = .ok (.iconst 1, 1) := by decide +kernel
theorem dX0_weighWays_55 : decode cX0_weighWays 55 = .ok (.isub, 1) := by decide +kernel
theorem dX0_weighWays_56 : decode cX0_weighWays 56 = .ok (.iload 4, 2) := by decide +kernel
theorem dX0_weighWays_58 : decode cX0_weighWays 58 = .ok (.iload 5, 2) := by decide +kernel
theorem dX0_weighWays_60 : decode cX0_weighWays 60 = .ok (.iload 6, 2) := by decide +kernel
theorem dX0_weighWays_62 : decode cX0_weighWays 62 = .ok (.iconst 1, 1) := by decide +kernel
theorem dX0_weighWays_63 : decode cX0_weighWays 63 = .ok (.iadd, 1) := by decide +kernel
theorem dX0_weighWays_64 : decode cX0_weighWays 64 = .ok (.invokevirtual 136, 3) := by decide +kernel
theorem dX0_weighWays_67 : decode cX0_weighWays 67 = .ok (.lmul, 1) := by decide +kernel
theorem dX0_weighWays_68 : decode cX0_weighWays 68 = .ok (.bipush 12, 2) := by decide +kernel
theorem dX0_weighWays_70 : decode cX0_weighWays 70 = .ok (.iload 4, 2) := by decide +kernel
theorem dX0_weighWays_72 : decode cX0_weighWays 72 = .ok (.isub, 1) := by decide +kernel
theorem dX0_weighWays_73 : decode cX0_weighWays 73 = .ok (.i2l, 1) := by decide +kernel
theorem dX0_weighWays_74 : decode cX0_weighWays 74 = .ok (.aload_n 0, 1) := by decide +kernel
theorem dX0_weighWays_75 : decode cX0_weighWays 75 = .ok (.iload_n 1, 1) := by decide +kernel
theorem dX0_weighWays_76 : decode cX0_weighWays 76 = .ok (.iload 7, 2) := by decide +kernel
theorem dX0_weighWays_78 : decode cX0_weighWays 78 = .ok (.iload_n 3, 1) := by decide +kernel
theorem dX0_weighWays_79 : decode cX0_weighWays 79 = .ok (.iconst 1, 1) := by decide +kernel
theorem dX0_weighWays_80 : decode cX0_weighWays 80 = .ok (.isub, 1) := by decide +kernel
theorem dX0_weighWays_81 : decode cX0_weighWays 81 = .ok (.iload 4, 2) := by decide +kernel
theorem dX0_weighWays_83 : decode cX0_weighWays 83 = .ok (.iload 5, 2) := by decide +kernel
theorem dX0_weighWays_85 : decode cX0_weighWays 85 = .ok (.iload 6, 2) := by decide +kernel
theorem dX0_weighWays_87 : decode cX0_weighWays 87 = .ok (.iconst 1, 1) := by decide +kernel
theorem dX0_weighWays_88 : decode cX0_weighWays 88 = .ok (.iadd, 1) := by decide +kernel
theorem dX0_weighWays_89 : decode cX0_weighWays 89 = .ok (.invokevirtual 136, 3) := by decide +kernel
theorem dX0_weighWays_92 : decode cX0_weighWays 92 = .ok (.lmul, 1) := by decide +kernel
theorem dX0_weighWays_93 : decode cX0_weighWays 93 = .ok (.ladd, 1) := by decide +kernel
theorem dX0_weighWays_94 : decode cX0_weighWays 94 = .ok (.lreturn, 1) := by decide +kernel
theorem dX0_fact_0 : decode cX0_fact 0 = .ok (.iload_n 2, 1) := by decide +kernel
theorem dX0_fact_1 : decode cX0_fact 1 = .ok (.tableswitch 59 0 3 #[31, 38, 45, 52], 31) := by decide +kernel
theorem dX0_fact_32 : decode cX0_fact 32 = .ok (.aload_n 0, 1) := by decide +kernel
theorem dX0_fact_33 : decode cX0_fact 33 = .ok (.getfield 9, 3) := by decide +kernel
theorem dX0_fact_36 : decode cX0_fact 36 = .ok (.iload_n 1, 1) := by decide +kernel
theorem dX0_fact_37 : decode cX0_fact 37 = .ok (.iaload, 1) := by decide +kernel
theorem dX0_fact_38 : decode cX0_fact 38 = .ok (.ireturn, 1) := by decide +kernel
theorem dX0_fact_39 : decode cX0_fact 39 = .ok (.aload_n 0, 1) := by decide +kernel
theorem dX0_fact_40 : decode cX0_fact 40 = .ok (.getfield 18, 3) := by decide +kernel
theorem dX0_fact_43 : decode cX0_fact 43 = .ok (.iload_n 1, 1) := by decide +kernel
theorem dX0_fact_44 : decode cX0_fact 44 = .ok (.iaload, 1) := by decide +kernel
theorem dX0_fact_45 : decode cX0_fact 45 = .ok (.ireturn, 1) := by decide +kernel
theorem dX0_fact_46 : decode cX0_fact 46 = .ok (.aload_n 0, 1) := by decide +kernel
theorem dX0_fact_47 : decode cX0_fact 47 = .ok (.getfield 21, 3) := by decide +kernel
theorem dX0_fact_50 : decode cX0_fact 50 = .ok (.iload_n 1, 1) := by decide +kernel
theorem dX0_fact_51 : decode cX0_fact 51 = .ok (.iaload, 1) := by decide +kernel
theorem dX0_fact_52 : decode cX0_fact 52 = .ok (.ireturn, 1) := by decide +kernel
theorem dX0_fact_53 : decode cX0_fact 53 = .ok (.aload_n 0, 1) := by decide +kernel
theorem dX0_fact_54 : decode cX0_fact 54 = .ok (.getfield 24, 3) := by decide +kernel
theorem dX0_fact_57 : decode cX0_fact 57 = .ok (.iload_n 1, 1) := by decide +kernel
theorem dX0_fact_58 : decode cX0_fact 58 = .ok (.iaload, 1) := by decide +kernel
theorem dX0_fact_59 : decode cX0_fact 59 = .ok (.ireturn, 1) := by decide +kernel
theorem dX0_fact_60 : decode cX0_fact 60 = .ok (.aload_n 0, 1) := by decide +kernel
theorem dX0_fact_61 : decode cX0_fact 61 = .ok (.aload_n 0, 1) := by decide +kernel
theorem dX0_fact_62 : decode cX0_fact 62 = .ok (.getfield 9, 3) := by decide +kernel
theorem dX0_fact_65 : decode cX0_fact 65 = .ok (.iload_n 1, 1) := by decide +kernel
theorem dX0_fact_66 : decode cX0_fact 66 = .ok (.iaload, 1) := by decide +kernel
theorem dX0_fact_67 : decode cX0_fact 67 = .ok (.aload_n 0, 1) := by decide +kernel
theorem dX0_fact_68 : decode cX0_fact 68 = .ok (.getfield 21, 3) := by decide +kernel
theorem dX0_fact_71 : decode cX0_fact 71 = .ok (.iload_n 1, 1) := by decide +kernel
theorem dX0_fact_72 : decode cX0_fact 72 = .ok (.iaload, 1) := by decide +kernel
theorem dX0_fact_73 : decode cX0_fact 73 = .ok (.aload_n 0, 1) := by decide +kernel
theorem dX0_fact_74 : decode cX0_fact 74 = .ok (.getfield 43, 3) := by decide +kernel
theorem dX0_fact_77 : decode cX0_fact 77 = .ok (.invokevirtual 115, 3) := by decide +kernel
theorem dX0_fact_80 : decode cX0_fact 80 = .ok (.ireturn, 1) := by decide +kernel
theorem dX0_markAs_0 : decode cX0_markAs 0 = .ok (.iload_n 2, 1) := by decide +kernel
theorem dX0_markAs_1 : decode cX0_markAs 1 = .ok (.tableswitch 90 1 4 #[31, 49, 77, 84], 31) := by decide +kernel
theorem dX0_markAs_32 : decode cX0_markAs 32 = .ok (.iconst 0, 1) := by decide +kernel
theorem dX0_markAs_33 : decode cX0_markAs 33 = .ok (.aload_n 0, 1) := by decide +kernel
theorem dX0_markAs_34 : decode cX0_markAs 34 = .ok (.getfield 21, 3) := by decide +kernel
theorem dX0_markAs_37 : decode cX0_markAs 37 = .ok (.iload_n 1, 1) := by decide +kernel
theorem dX0_markAs_38 : decode cX0_markAs 38 = .ok (.iaload, 1) := by decide +kernel
theorem dX0_markAs_39 : decode cX0_markAs 39 = .ok (.iconst 1, 1) := by decide +kernel
theorem dX0_markAs_40 : decode cX0_markAs 40 = .ok (.iadd, 1) := by decide +kernel
theorem dX0_markAs_41 : decode cX0_markAs 41 = .ok (.aload_n 0, 1) := by decide +kernel
theorem dX0_markAs_42 : decode cX0_markAs 42 = .ok (.getfield 34, 3) := by decide +kernel
theorem dX0_markAs_45 : decode cX0_markAs 45 = .ok (.isub, 1) := by decide +kernel
theorem dX0_markAs_46 : decode cX0_markAs 46 = .ok (.invokestatic 118, 3) := by decide +kernel
theorem dX0_markAs_49 : decode cX0_markAs 49 = .ok (.ireturn, 1) := by decide +kernel
theorem dX0_markAs_50 : decode cX0_markAs 50 = .ok (.aload_n 0, 1) := by decide +kernel
theorem dX0_markAs_51 : decode cX0_markAs 51 = .ok (.iload_n 1, 1) := by decide +kernel
theorem dX0_markAs_52 : decode cX0_markAs 52 = .ok (.invokevirtual 105, 3) := by decide +kernel
theorem dX0_markAs_55 : decode cX0_markAs 55 = .ok (.ifCond .eq 7, 3) := by decide +kernel
theorem dX0_markAs_58 : decode cX0_markAs 58 = .ok (.iconst 0, 1) := by decide +kernel
theorem dX0_markAs_59 : decode cX0_markAs 59 = .ok (.goto 18, 3) := by decide +kernel
theorem dX0_markAs_62 : decode cX0_markAs 62 = .ok (.aload_n 0, 1) := by decide +kernel
theorem dX0_markAs_63 : decode cX0_markAs 63 = .ok (.aload_n 0, 1) := by decide +kernel
theorem dX0_markAs_64 : decode cX0_markAs 64 = .ok (.getfield 18, 3) := by decide +kernel
theorem dX0_markAs_67 : decode cX0_markAs 67 = .ok (.iload_n 1, 1) := by decide +kernel
theorem dX0_markAs_68 : decode cX0_markAs 68 = .ok (.iaload, 1) := by decide +kernel
theorem dX0_markAs_69 : decode cX0_markAs 69 = .ok (.invokevirtual 140, 3) := by decide +kernel
theorem dX0_markAs_72 : decode cX0_markAs 72 = .ok (.invokestatic 143, 3) := by decide +kernel
theorem dX0_markAs_75 : decode cX0_markAs 75 = .ok (.iconst 1, 1) := by decide +kernel
theorem dX0_markAs_76 : decode cX0_markAs 76 = .ok (.isub, 1) := by decide +kernel
theorem dX0_markAs_77 : decode cX0_markAs 77 = .ok (.ireturn, 1) := by decide +kernel
theorem dX0_markAs_78 : decode cX0_markAs 78 = .ok (.aload_n 0, 1) := by decide +kernel
theorem dX0_markAs_79 : decode cX0_markAs 79 = .ok (.getfield 43, 3) := by decide +kernel
theorem dX0_markAs_82 : decode cX0_markAs 82 = .ok (.iconst 2, 1) := by decide +kernel
theorem dX0_markAs_83 : decode cX0_markAs 83 = .ok (.irem, 1) := by decide +kernel
theorem dX0_markAs_84 : decode cX0_markAs 84 = .ok (.ireturn, 1) := by decide +kernel
theorem dX0_markAs_85 : decode cX0_markAs 85 = .ok (.aload_n 0, 1) := by decide +kernel
theorem dX0_markAs_86 : decode cX0_markAs 86 = .ok (.iconst 1, 1) := by decide +kernel
theorem dX0_markAs_87 : decode cX0_markAs 87 = .ok (.invokevirtual 146, 3) := by decide +kernel
theorem dX0_markAs_90 : decode cX0_markAs 90 = .ok (.ireturn, 1) := by decide +kernel
theorem dX0_markAs_91 : decode cX0_markAs 91 = .ok (.aload_n 0, 1) := by decide +kernel
theorem dX0_markAs_92 : decode cX0_markAs 92 = .ok (.iload_n 1, 1) := by decide +kernel
theorem dX0_markAs_93 : decode cX0_markAs 93 = .ok (.invokevirtual 105, 3) := by decide +kernel
theorem dX0_markAs_96 : decode cX0_markAs 96 = .ok (.ifCond .eq 7, 3) := by decide +kernel
theorem dX0_markAs_99 : decode cX0_markAs 99 = .ok (.iconst 0, 1) := by decide +kernel
theorem dX0_markAs_100 : decode cX0_markAs 100 = .ok (.goto 12, 3) := by decide +kernel
theorem dX0_markAs_103 : decode cX0_markAs 103 = .ok (.bipush 7, 2) := by decide +kernel
theorem dX0_markAs_105 : decode cX0_markAs 105 = .ok (.aload_n 0, 1) := by decide +kernel
theorem dX0_markAs_106 : decode cX0_markAs 106 = .ok (.getfield 18, 3) := by decide +kernel
theorem dX0_markAs_109 : decode cX0_markAs 109 = .ok (.iload_n 1, 1) := by decide +kernel
theorem dX0_markAs_110 : decode cX0_markAs 110 = .ok (.iaload, 1) := by decide +kernel
theorem dX0_markAs_111 : decode cX0_markAs 111 = .ok (.isub, 1) := by decide +kernel
theorem dX0_markAs_112 : decode cX0_markAs 112 = .ok (.ireturn, 1) := by decide +kernel
theorem dX0_lyingIn_0 : decode cX0_lyingIn 0 = .ok (.iconst 0, 1) := by decide +kernel
theorem dX0_lyingIn_1 : decode cX0_lyingIn 1 = .ok (.istore_n 2, 1) := by decide +kernel
theorem dX0_lyingIn_2 : decode cX0_lyingIn 2 = .ok (.iconst 0, 1) := by decide +kernel
theorem dX0_lyingIn_3 : decode cX0_lyingIn 3 = .ok (.istore_n 3, 1) := by decide +kernel
theorem dX0_lyingIn_4 : decode cX0_lyingIn 4 = .ok (.iload_n 3, 1) := by decide +kernel
theorem dX0_lyingIn_5 : decode cX0_lyingIn 5 = .ok (.aload_n 0, 1) := by decide +kernel
theorem dX0_lyingIn_6 : decode cX0_lyingIn 6 = .ok (.getfield 30, 3) := by decide +kernel
theorem dX0_lyingIn_9 : decode cX0_lyingIn 9 = .ok (.if_icmp .ge 25, 3) := by decide +kernel
theorem dX0_lyingIn_12 : decode cX0_lyingIn 12 = .ok (.aload_n 0, 1) := by decide +kernel
theorem dX0_lyingIn_13 : decode cX0_lyingIn 13 = .ok (.getfield 18, 3) := by decide +kernel
theorem dX0_lyingIn_16 : decode cX0_lyingIn 16 = .ok (.iload_n 3, 1) := by decide +kernel
theorem dX0_lyingIn_17 : decode cX0_lyingIn 17 = .ok (.iaload, 1) := by decide +kernel
theorem dX0_lyingIn_18 : decode cX0_lyingIn 18 = .ok (.iload_n 1, 1) := by decide +kernel
theorem dX0_lyingIn_19 : decode cX0_lyingIn 19 = .ok (.if_icmp .ne 9, 3) := by decide +kernel
theorem dX0_lyingIn_22 : decode cX0_lyingIn 22 = .ok (.iload_n 2, 1) := by decide +kernel
theorem dX0_lyingIn_23 : decode cX0_lyingIn 23 = .ok (.iconst 1, 1) := by decide +kernel
theorem dX0_lyingIn_24 : decode cX0_lyingIn 24 = .ok (.iload_n 3, 1) := by decide +kernel
theorem dX0_lyingIn_25 : decode cX0_lyingIn 25 = .ok (.ishl, 1) := by decide +kernel
theorem dX0_lyingIn_26 : decode cX0_lyingIn 26 = .ok (.ior, 1) := by decide +kernel
theorem dX0_lyingIn_27 : decode cX0_lyingIn 27 = .ok (.istore_n 2, 1) := by decide +kernel
theorem dX0_lyingIn_28 : decode cX0_lyingIn 28 = .ok (.iinc 3 1, 3) := by decide +kernel
theorem dX0_lyingIn_31 : decode cX0_lyingIn 31 = .ok (.goto (-27), 3) := by decide +kernel
theorem dX0_lyingIn_34 : decode cX0_lyingIn 34 = .ok (.iload_n 2, 1) := by decide +kernel
theorem dX0_lyingIn_35 : decode cX0_lyingIn 35 = .ok (.ireturn, 1) := by decide +kernel
theorem dX0_takenBits_0 : decode cX0_takenBits 0 = .ok (.aload_n 0, 1) := by decide +kernel
theorem dX0_takenBits_1 : decode cX0_takenBits 1 = .ok (.bipush (-9), 2) := by decide +kernel
theorem dX0_takenBits_3 : decode cX0_takenBits 3 = .ok (.invokevirtual 140, 3) := by decide +kernel
theorem dX0_takenBits_6 : decode cX0_takenBits 6 = .ok (.ireturn, 1) := by decide +kernel
theorem dX0_countOfKind_0 : decode cX0_countOfKind 0 = .ok (.iconst 0, 1) := by decide +kernel
theorem dX0_countOfKind_1 : decode cX0_countOfKind 1 = .ok (.istore_n 2, 1) := by decide +kernel
theorem dX0_countOfKind_2 : decode cX0_countOfKind 2 = .ok (.iconst 0, 1) := by decide +kernel
theorem dX0_countOfKind_3 : decode cX0_countOfKind 3 = .ok (.istore_n 3, 1) := by decide +kernel
theorem dX0_countOfKind_4 : decode cX0_countOfKind 4 = .ok (.iload_n 3, 1) := by decide +kernel
theorem dX0_countOfKind_5 : decode cX0_countOfKind 5 = .ok (.aload_n 0, 1) := by decide +kernel
theorem dX0_countOfKind_6 : decode cX0_countOfKind 6 = .ok (.getfield 30, 3) := by decide +kernel
theorem dX0_countOfKind_9 : decode cX0_countOfKind 9 = .ok (.if_icmp .ge 25, 3) := by decide +kernel
theorem dX0_countOfKind_12 : decode cX0_countOfKind 12 = .ok (.aload_n 0, 1) := by decide +kernel
theorem dX0_countOfKind_13 : decode cX0_countOfKind 13 = .ok (.getfield 9, 3) := by decide +kernel
theorem dX0_countOfKind_16 : decode cX0_countOfKind 16 = .ok (.iload_n 3, 1) := by decide +kernel
theorem dX0_countOfKind_17 : decode cX0_countOfKind 17 = .ok (.iaload, 1) := by decide +kernel
theorem dX0_countOfKind_18 : decode cX0_countOfKind 18 = .ok (.iload_n 1, 1) := by decide +kernel
theorem dX0_countOfKind_19 : decode cX0_countOfKind 19 = .ok (.invokestatic 149, 3) := by decide +kernel
theorem dX0_countOfKind_22 : decode cX0_countOfKind 22 = .ok (.ifCond .eq 6, 3) := by decide +kernel
theorem dX0_countOfKind_25 : decode cX0_countOfKind 25 = .ok (.iinc 2 1, 3) := by decide +kernel
theorem dX0_countOfKind_28 : decode cX0_countOfKind 28 = .ok (.iinc 3 1, 3) := by decide +kernel
theorem dX0_countOfKind_31 : decode cX0_countOfKind 31 = .ok (.goto (-27), 3) := by decide +kernel
theorem dX0_countOfKind_34 : decode cX0_countOfKind 34 = .ok (.iload_n 2, 1) := by decide +kernel
theorem dX0_countOfKind_35 : decode cX0_countOfKind 35 = .ok (.ireturn, 1) := by decide +kernel
theorem dX1_init_0 : decode cX1_init 0 = .ok (.aload_n 0, 1) := by decide +kernel
theorem dX1_init_1 : decode cX1_init 1 = .ok (.invokespecial 3, 3) := by decide +kernel
theorem dX1_init_4 : decode cX1_init 4 = .ok (.aload_n 0, 1) := by decide +kernel
theorem dX1_init_5 : decode cX1_init 5 = .ok (.bipush 6, 2) := by decide +kernel
theorem dX1_init_7 : decode cX1_init 7 = .ok (.newarray .int, 2) := by decide +kernel
theorem dX1_init_9 : decode cX1_init 9 = .ok (.putfield 9, 3) := by decide +kernel
theorem dX1_init_12 : decode cX1_init 12 = .ok (.aload_n 0, 1) := by decide +kernel
theorem dX1_init_13 : decode cX1_init 13 = .ok (.bipush 6, 2) := by decide +kernel
theorem dX1_init_15 : decode cX1_init 15 = .ok (.newarray .int, 2) := by decide +kernel
theorem dX1_init_17 : decode cX1_init 17 = .ok (.putfield 15, 3) := by decide +kernel
theorem dX1_init_20 : decode cX1_init 20 = .ok (.aload_n 0, 1) := by decide +kernel
theorem dX1_init_21 : decode cX1_init 21 = .ok (.iconst 0, 1) := by decide +kernel
theorem dX1_init_22 : decode cX1_init 22 = .ok (.putfield 18, 3) := by decide +kernel
theorem dX1_init_25 : decode cX1_init 25 = .ok (.return_, 1) := by decide +kernel
theorem dX1_leastSum_0 : decode cX1_leastSum 0 = .ok (.aload_n 0, 1) := by decide +kernel
theorem dX1_leastSum_1 : decode cX1_leastSum 1 = .ok (.ldc 24, 2) := by decide +kernel
theorem dX1_leastSum_3 : decode cX1_leastSum 3 = .ok (.putfield 18, 3) := by decide +kernel
theorem dX1_leastSum_6 : decode cX1_leastSum 6 = .ok (.aload_n 0, 1) := by decide +kernel
theorem dX1_leastSum_7 : decode cX1_leastSum 7 = .ok (.aload_n 1, 1) := by decide +kernel
theorem dX1_leastSum_8 : decode cX1_leastSum 8 = .ok (.iconst 0, 1) := by decide +kernel
theorem dX1_leastSum_9 : decode cX1_leastSum 9 = .ok (.iconst 0, 1) := by decide +kernel
theorem dX1_leastSum_10 : decode cX1_leastSum 10 = .ok (.iconst 0, 1) := by decide +kernel
theorem dX1_leastSum_11 : decode cX1_leastSum 11 = .ok (.invokevirtual 25, 3) := by decide +kernel
theorem dX1_leastSum_14 : decode cX1_leastSum 14 = .ok (.aload_n 0, 1) := by decide +kernel
theorem dX1_leastSum_15 : decode cX1_leastSum 15 = .ok (.getfield 18, 3) := by decide +kernel
theorem dX1_leastSum_18 : decode cX1_leastSum 18 = .ok (.ireturn, 1) := by decide +kernel
theorem dX1_seat_0 : decode cX1_seat 0 = .ok (.iload 4, 2) := by decide +kernel
theorem dX1_seat_2 : decode cX1_seat 2 = .ok (.aload_n 0, 1) := by decide +kernel
theorem dX1_seat_3 : decode cX1_seat 3 = .ok (.getfield 18, 3) := by decide +kernel
theorem dX1_seat_6 : decode cX1_seat 6 = .ok (.if_icmp .lt 4, 3) := by decide +kernel
theorem dX1_seat_9 : decode cX1_seat 9 = .ok (.return_, 1) := by decide +kernel
theorem dX1_seat_10 : decode cX1_seat 10 = .ok (.aload_n 1, 1) := by decide +kernel
theorem dX1_seat_11 : decode cX1_seat 11 = .ok (.iload_n 2, 1) := by decide +kernel
theorem dX1_seat_12 : decode cX1_seat 12 = .ok (.invokevirtual 29, 3) := by decide +kernel
theorem dX1_seat_15 : decode cX1_seat 15 = .ok (.ifCond .ne 25, 3) := by decide +kernel
theorem dX1_seat_18 : decode cX1_seat 18 = .ok (.aload_n 0, 1) := by decide +kernel
theorem dX1_seat_19 : decode cX1_seat 19 = .ok (.iload 4, 2) := by decide +kernel
theorem dX1_seat_21 : decode cX1_seat 21 = .ok (.putfield 18, 3) := by decide +kernel
theorem dX1_seat_24 : decode cX1_seat 24 = .ok (.aload_n 0, 1) := by decide +kernel
theorem dX1_seat_25 : decode cX1_seat 25 = .ok (.getfield 9, 3) := by decide +kernel
theorem dX1_seat_28 : decode cX1_seat 28 = .ok (.iconst 0, 1) := by decide +kernel
theorem dX1_seat_29 : decode cX1_seat 29 = .ok (.aload_n 0, 1) := by decide +kernel
theorem dX1_seat_30 : decode cX1_seat 30 = .ok (.getfield 15, 3) := by decide +kernel
theorem dX1_seat_33 : decode cX1_seat 33 = .ok (.iconst 0, 1) := by decide +kernel
theorem dX1_seat_34 : decode cX1_seat 34 = .ok (.bipush 6, 2) := by decide +kernel
theorem dX1_seat_36 : decode cX1_seat 36 = .ok (.invokestatic 35, 3) := by decide +kernel
theorem dX1_seat_39 : decode cX1_seat 39 = .ok (.return_, 1) := by decide +kernel
theorem dX1_seat_40 : decode cX1_seat 40 = .ok (.aload_n 1, 1) := by decide +kernel
theorem dX1_seat_41 : decode cX1_seat 41 = .ok (.iload_n 2, 1) := by decide +kernel
theorem dX1_seat_42 : decode cX1_seat 42 = .ok (.invokevirtual 41, 3) := by decide +kernel
theorem dX1_seat_45 : decode cX1_seat 45 = .ok (.ifCond .eq 15, 3) := by decide +kernel
theorem dX1_seat_48 : decode cX1_seat 48 = .ok (.aload_n 0, 1) := by decide +kernel
theorem dX1_seat_49 : decode cX1_seat 49 = .ok (.aload_n 1, 1) := by decide +kernel
theorem dX1_seat_50 : decode cX1_seat 50 = .ok (.iload_n 2, 1) := by decide +kernel
theorem dX1_seat_51 : decode cX1_seat 51 = .ok (.iconst 1, 1) := by decide +kernel
theorem dX1_seat_52 : decode cX1_seat 52 = .ok (.iadd, 1) := by decide +kernel
theorem dX1_seat_53 : decode cX1_seat 53 = .ok (.iload_n 3, 1) := by decide +kernel
theorem dX1_seat_54 : decode cX1_seat 54 = .ok (.iload 4, 2) := by decide +kernel
theorem dX1_seat_56 : decode cX1_seat 56 = .ok (.invokevirtual 25, 3) := by decide +kernel
theorem dX1_seat_59 : decode cX1_seat 59 = .ok (.return_, 1) := by decide +kernel
theorem dX1_seat_60 : decode cX1_seat 60 = .ok (.iconst 0, 1) := by decide +kernel
theorem dX1_seat_61 : decode cX1_seat 61 = .ok (.istore 5, 2) := by decide +kernel
theorem dX1_seat_63 : decode cX1_seat 63 = .ok (.iload 5, 2) := by decide +kernel
theorem dX1_seat_65 : decode cX1_seat 65 = .ok (.aload_n 1, 1) := by decide +kernel
theorem dX1_seat_66 : decode cX1_seat 66 = .ok (.getfield 44, 3) := by decide +kernel
theorem dX1_seat_69 : decode cX1_seat 69 = .ok (.if_icmp .ge 72, 3) := by decide +kernel
theorem dX1_seat_72 : decode cX1_seat 72 = .ok (.aload_n 1, 1) := by decide +kernel
theorem dX1_seat_73 : decode cX1_seat 73 = .ok (.iload 5, 2) := by decide +kernel
theorem dX1_seat_75 : decode cX1_seat 75 = .ok (.invokevirtual 41, 3) := by decide +kernel
theorem dX1_seat_78 : decode cX1_seat 78 = .ok (.ifCond .ne 57, 3) := by decide +kernel
theorem dX1_seat_81 : decode cX1_seat 81 = .ok (.iload_n 3, 1) := by decide +kernel
theorem dX1_seat_82 : decode cX1_seat 82 = .ok (.iload 5, 2) := by decide +kernel
theorem dX1_seat_84 : decode cX1_seat 84 = .ok (.ishr, 1) := by decide +kernel
theorem dX1_seat_85 : decode cX1_seat 85 = .ok (.iconst 1, 1) := by decide +kernel
theorem dX1_seat_86 : decode cX1_seat 86 = .ok (.iand, 1) := by decide +kernel
theorem dX1_seat_87 : decode cX1_seat 87 = .ok (.ifCond .eq 6, 3) := by decide +kernel
theorem dX1_seat_90 : decode cX1_seat 90 = .ok (.goto 45, 3) := by decide +kernel
theorem dX1_seat_93 : decode cX1_seat 93 = .ok (.aload_n 0, 1) := by decide +kernel
theorem dX1_seat_94 : decode cX1_seat 94 = .ok (.getfield 9, 3) := by decide +kernel
theorem dX1_seat_97 : decode cX1_seat 97 = .ok (.iload_n 2, 1) := by decide +kernel
theorem dX1_seat_98 : decode cX1_seat 98 = .ok (.iload 5, 2) := by decide +kernel
theorem dX1_seat_100 : decode cX1_seat 100 = .ok (.iastore, 1) := by decide +kernel
theorem dX1_seat_101 : decode cX1_seat 101 = .ok (.aload_n 0, 1) := by decide +kernel
theorem dX1_seat_102 : decode cX1_seat 102 = .ok (.aload_n 1, 1) := by decide +kernel
theorem dX1_seat_103 : decode cX1_seat 103 = .ok (.iload_n 2, 1) := by decide +kernel
theorem dX1_seat_104 : decode cX1_seat 104 = .ok (.iconst 1, 1) := by decide +kernel
theorem dX1_seat_105 : decode cX1_seat 105 = .ok (.iadd, 1) := by decide +kernel
theorem dX1_seat_106 : decode cX1_seat 106 = .ok (.iload_n 3, 1) := by decide +kernel
theorem dX1_seat_107 : decode cX1_seat 107 = .ok (.iconst 1, 1) := by decide +kernel
theorem dX1_seat_108 : decode cX1_seat 108 = .ok (.iload 5, 2) := by decide +kernel
theorem dX1_seat_110 : decode cX1_seat 110 = .ok (.ishl, 1) := by decide +kernel
theorem dX1_seat_111 : decode cX1_seat 111 = .ok (.ior, 1) := by decide +kernel
theorem dX1_seat_112 : decode cX1_seat 112 = .ok (.iload 4, 2) := by decide +kernel
theorem dX1_seat_114 : decode cX1_seat 114 = .ok (.aload_n 1, 1) := by decide +kernel
theorem dX1_seat_115 : decode cX1_seat 115 = .ok (.getfield 47, 3) := by decide +kernel
theorem dX1_seat_118 : decode cX1_seat 118 = .ok (.iload 5, 2) := by decide +kernel
theorem dX1_seat_120 : decode cX1_seat 120 = .ok (.iaload, 1) := by decide +kernel
theorem dX1_seat_121 : decode cX1_seat 121 = .ok (.aload_n 1, 1) := by decide +kernel
theorem dX1_seat_122 : decode cX1_seat 122 = .ok (.getfield 50, 3) := by decide +kernel
theorem dX1_seat_125 : decode cX1_seat 125 = .ok (.iload_n 2, 1) := by decide +kernel
theorem dX1_seat_126 : decode cX1_seat 126 = .ok (.iaload, 1) := by decide +kernel
theorem dX1_seat_127 : decode cX1_seat 127 = .ok (.isub, 1) := by decide +kernel
theorem dX1_seat_128 : decode cX1_seat 128 = .ok (.invokestatic 53, 3) := by decide +kernel
theorem dX1_seat_131 : decode cX1_seat 131 = .ok (.iadd, 1) := by decide +kernel
theorem dX1_seat_132 : decode cX1_seat 132 = .ok (.invokevirtual 25, 3) := by decide +kernel
theorem dX1_seat_135 : decode cX1_seat 135 = .ok (.iinc 5 1, 3) := by decide +kernel
theorem dX1_seat_138 : decode cX1_seat 138 = .ok (.goto (-75), 3) := by decide +kernel
theorem dX1_seat_141 : decode cX1_seat 141 = .ok (.return_, 1) := by decide +kernel
theorem dX2_init_0 : decode cX2_init 0 = .ok (.aload_n 0, 1) := by decide +kernel
theorem dX2_init_1 : decode cX2_init 1 = .ok (.invokespecial 3, 3) := by decide +kernel
theorem dX2_init_4 : decode cX2_init 4 = .ok (.aload_n 0, 1) := by decide +kernel
theorem dX2_init_5 : decode cX2_init 5 = .ok (.bipush 10, 2) := by decide +kernel
theorem dX2_init_7 : decode cX2_init 7 = .ok (.newarray .int, 2) := by decide +kernel
theorem dX2_init_9 : decode cX2_init 9 = .ok (.putfield 9, 3) := by decide +kernel
theorem dX2_init_12 : decode cX2_init 12 = .ok (.return_, 1) := by decide +kernel
theorem dX2_drawn_0 : decode cX2_drawn 0 = .ok (.iconst 0, 1) := by decide +kernel
theorem dX2_drawn_1 : decode cX2_drawn 1 = .ok (.iload_n 0, 1) := by decide +kernel
theorem dX2_drawn_2 : decode cX2_drawn 2 = .ok (.iconst 2, 1) := by decide +kernel
theorem dX2_drawn_3 : decode cX2_drawn 3 = .ok (.isub, 1) := by decide +kernel
theorem dX2_drawn_4 : decode cX2_drawn 4 = .ok (.invokestatic 15, 3) := by decide +kernel
theorem dX2_drawn_7 : decode cX2_drawn 7 = .ok (.ireturn, 1) := by decide +kernel
theorem dX2_filled_0 : decode cX2_filled 0 = .ok (.bipush 9, 2) := by decide +kernel
theorem dX2_filled_2 : decode cX2_filled 2 = .ok (.iload_n 0, 1) := by decide +kernel
theorem dX2_filled_3 : decode cX2_filled 3 = .ok (.iconst 3, 1) := by decide +kernel
theorem dX2_filled_4 : decode cX2_filled 4 = .ok (.iadd, 1) := by decide +kernel
theorem dX2_filled_5 : decode cX2_filled 5 = .ok (.invokestatic 21, 3) := by decide +kernel
theorem dX2_filled_8 : decode cX2_filled 8 = .ok (.ireturn, 1) := by decide +kernel
theorem dX2_countTurnsTo_0 : decode cX2_countTurnsTo 0 = .ok (.aload_n 0, 1) := by decide +kernel
theorem dX2_countTurnsTo_1 : decode cX2_countTurnsTo 1 = .ok (.getfield 9, 3) := by decide +kernel
theorem dX2_countTurnsTo_4 : decode cX2_countTurnsTo 4 = .ok (.bipush 10, 2) := by decide +kernel
theorem dX2_countTurnsTo_6 : decode cX2_countTurnsTo 6 = .ok (.invokestatic 24, 3) := by decide +kernel
theorem dX2_countTurnsTo_9 : decode cX2_countTurnsTo 9 = .ok (.aload_n 0, 1) := by decide +kernel
theorem dX2_countTurnsTo_10 : decode cX2_countTurnsTo 10 = .ok (.getfield 9, 3) := by decide +kernel
theorem dX2_countTurnsTo_13 : decode cX2_countTurnsTo 13 = .ok (.iload_n 1, 1) := by decide +kernel
theorem dX2_countTurnsTo_14 : decode cX2_countTurnsTo 14 = .ok (.iconst 0, 1) := by decide +kernel
theorem dX2_countTurnsTo_15 : decode cX2_countTurnsTo 15 = .ok (.iastore, 1) := by decide +kernel
theorem dX2_countTurnsTo_16 : decode cX2_countTurnsTo 16 = .ok (.iconst 0, 1) := by decide +kernel
theorem dX2_countTurnsTo_17 : decode cX2_countTurnsTo 17 = .ok (.istore_n 2, 1) := by decide +kernel
theorem dX2_countTurnsTo_18 : decode cX2_countTurnsTo 18 = .ok (.iload_n 2, 1) := by decide +kernel
theorem dX2_countTurnsTo_19 : decode cX2_countTurnsTo 19 = .ok (.bipush 9, 2) := by decide +kernel
theorem dX2_countTurnsTo_21 : decode cX2_countTurnsTo 21 = .ok (.if_icmp .gt 65, 3) := by decide +kernel
theorem dX2_countTurnsTo_24 : decode cX2_countTurnsTo 24 = .ok (.iconst 0, 1) := by decide +kernel
theorem dX2_countTurnsTo_25 : decode cX2_countTurnsTo 25 = .ok (.istore_n 3, 1) := by decide +kernel
theorem dX2_countTurnsTo_26 : decode cX2_countTurnsTo 26 = .ok (.iload_n 3, 1) := by decide +kernel
theorem dX2_countTurnsTo_27 : decode cX2_countTurnsTo 27 = .ok (.bipush 9, 2) := by decide +kernel
theorem dX2_countTurnsTo_29 : decode cX2_countTurnsTo 29 = .ok (.if_icmp .gt 51, 3) := by decide +kernel
theorem dX2_countTurnsTo_32 : decode cX2_countTurnsTo 32 = .ok (.iconst 1, 1) := by decide +kernel
theorem dX2_countTurnsTo_33 : decode cX2_countTurnsTo 33 = .ok (.aload_n 0, 1) := by decide +kernel
theorem dX2_countTurnsTo_34 : decode cX2_countTurnsTo 34 = .ok (.getfield 9, 3) := by decide +kernel
theorem dX2_countTurnsTo_37 : decode cX2_countTurnsTo 37 = .ok (.iload_n 3, 1) := by decide +kernel
theorem dX2_countTurnsTo_38 : decode cX2_countTurnsTo 38 = .ok (.invokestatic 30, 3) := by decide +kernel
theorem dX2_countTurnsTo_41 : decode cX2_countTurnsTo 41 = .ok (.iaload, 1) := by decide +kernel
theorem dX2_countTurnsTo_42 : decode cX2_countTurnsTo 42 = .ok (.aload_n 0, 1) := by decide +kernel
theorem dX2_countTurnsTo_43 : decode cX2_countTurnsTo 43 = .ok (.getfield 9, 3) := by decide +kernel
theorem dX2_countTurnsTo_46 : decode cX2_countTurnsTo 46 = .ok (.iload_n 3, 1) := by decide +kernel
theorem dX2_countTurnsTo_47 : decode cX2_countTurnsTo 47 = .ok (.invokestatic 34, 3) := by decide +kernel
theorem dX2_countTurnsTo_50 : decode cX2_countTurnsTo 50 = .ok (.iaload, 1) := by decide +kernel
theorem dX2_countTurnsTo_51 : decode cX2_countTurnsTo 51 = .ok (.invokestatic 21, 3) := by decide +kernel
theorem dX2_countTurnsTo_54 : decode cX2_countTurnsTo 54 = .ok (.iadd, 1) := by decide +kernel
theorem dX2_countTurnsTo_55 : decode cX2_countTurnsTo 55 = .ok (.istore 4, 2) := by decide +kernel
theorem dX2_countTurnsTo_57 : decode cX2_countTurnsTo 57 = .ok (.aload_n 0, 1) := by decide +kernel
theorem dX2_countTurnsTo_58 : decode cX2_countTurnsTo 58 = .ok (.getfield 9, 3) := by decide +kernel
theorem dX2_countTurnsTo_61 : decode cX2_countTurnsTo 61 = .ok (.iload_n 3, 1) := by decide +kernel
theorem dX2_countTurnsTo_62 : decode cX2_countTurnsTo 62 = .ok (.aload_n 0, 1) := by decide +kernel
theorem dX2_countTurnsTo_63 : decode cX2_countTurnsTo 63 = .ok (.getfield 9, 3) := by decide +kernel
theorem dX2_countTurnsTo_66 : decode cX2_countTurnsTo 66 = .ok (.iload_n 3, 1) := by decide +kernel
theorem dX2_countTurnsTo_67 : decode cX2_countTurnsTo 67 = .ok (.iaload, 1) := by decide +kernel
theorem dX2_countTurnsTo_68 : decode cX2_countTurnsTo 68 = .ok (.iload 4, 2) := by decide +kernel
theorem dX2_countTurnsTo_70 : decode cX2_countTurnsTo 70 = .ok (.invokestatic 21, 3) := by decide +kernel
theorem dX2_countTurnsTo_73 : decode cX2_countTurnsTo 73 = .ok (.iastore, 1) := by decide +kernel
theorem dX2_countTurnsTo_74 : decode cX2_countTurnsTo 74 = .ok (.iinc 3 1, 3) := by decide +kernel
theorem dX2_countTurnsTo_77 : decode cX2_countTurnsTo 77 = .ok (.goto (-51), 3) := by decide +kernel
theorem dX2_countTurnsTo_80 : decode cX2_countTurnsTo 80 = .ok (.iinc 2 1, 3) := by decide +kernel
theorem dX2_countTurnsTo_83 : decode cX2_countTurnsTo 83 = .ok (.goto (-65), 3) := by decide +kernel
theorem dX2_countTurnsTo_86 : decode cX2_countTurnsTo 86 = .ok (.return_, 1) := by decide +kernel
theorem dX2_firstRowFrom_0 : decode cX2_firstRowFrom 0 = .ok (.iconst 0, 1) := by decide +kernel
theorem dX2_firstRowFrom_1 : decode cX2_firstRowFrom 1 = .ok (.istore_n 2, 1) := by decide +kernel
theorem dX2_firstRowFrom_2 : decode cX2_firstRowFrom 2 = .ok (.iload_n 1, 1) := by decide +kernel
theorem dX2_firstRowFrom_3 : decode cX2_firstRowFrom 3 = .ok (.istore_n 3, 1) := by decide +kernel
theorem dX2_firstRowFrom_4 : decode cX2_firstRowFrom 4 = .ok (.aload_n 0, 1) := by decide +kernel
theorem dX2_firstRowFrom_5 : decode cX2_firstRowFrom 5 = .ok (.getfield 9, 3) := by decide +kernel
theorem dX2_firstRowFrom_8 : decode cX2_firstRowFrom 8 = .ok (.iload_n 1, 1) := by decide +kernel
theorem dX2_firstRowFrom_9 : decode cX2_firstRowFrom 9 = .ok (.iaload, 1) := by decide +kernel
theorem dX2_firstRowFrom_10 : decode cX2_firstRowFrom 10 = .ok (.istore 4, 2) := by decide +kernel
theorem dX2_firstRowFrom_12 : decode cX2_firstRowFrom 12 = .ok (.iconst 0, 1) := by decide +kernel
theorem dX2_firstRowFrom_13 : decode cX2_firstRowFrom 13 = .ok (.istore 5, 2) := by decide +kernel
theorem dX2_firstRowFrom_15 : decode cX2_firstRowFrom 15 = .ok (.iload 5, 2) := by decide +kernel
theorem dX2_firstRowFrom_17 : decode cX2_firstRowFrom 17 = .ok (.iload 4, 2) := by decide +kernel
theorem dX2_firstRowFrom_19 : decode cX2_firstRowFrom 19 = .ok (.if_icmp .ge 55, 3) := by decide +kernel
theorem dX2_firstRowFrom_22 : decode cX2_firstRowFrom 22 = .ok (.iload 5, 2) := by decide +kernel
theorem dX2_firstRowFrom_24 : decode cX2_firstRowFrom 24 = .ok (.bipush 9, 2) := by decide +kernel
theorem dX2_firstRowFrom_26 : decode cX2_firstRowFrom 26 = .ok (.if_icmp .gt 48, 3) := by decide +kernel
theorem dX2_firstRowFrom_29 : decode cX2_firstRowFrom 29 = .ok (.aload_n 0, 1) := by decide +kernel
theorem dX2_firstRowFrom_30 : decode cX2_firstRowFrom 30 = .ok (.getfield 9, 3) := by decide +kernel
theorem dX2_firstRowFrom_33 : decode cX2_firstRowFrom 33 = .ok (.iload_n 3, 1) := by decide +kernel
theorem dX2_firstRowFrom_34 : decode cX2_firstRowFrom 34 = .ok (.invokestatic 30, 3) := by decide +kernel
theorem dX2_firstRowFrom_37 : decode cX2_firstRowFrom 37 = .ok (.iaload, 1) := by decide +kernel
theorem dX2_firstRowFrom_38 : decode cX2_firstRowFrom 38 = .ok (.iload 4, 2) := by decide +kernel
theorem dX2_firstRowFrom_40 : decode cX2_firstRowFrom 40 = .ok (.iload 5, 2) := by decide +kernel
theorem dX2_firstRowFrom_42 : decode cX2_firstRowFrom 42 = .ok (.isub, 1) := by decide +kernel
theorem dX2_firstRowFrom_43 : decode cX2_firstRowFrom 43 = .ok (.iconst 1, 1) := by decide +kernel
theorem dX2_firstRowFrom_44 : decode cX2_firstRowFrom 44 = .ok (.isub, 1) := by decide +kernel
theorem dX2_firstRowFrom_45 : decode cX2_firstRowFrom 45 = .ok (.if_icmp .ne 11, 3) := by decide +kernel
theorem dX2_firstRowFrom_48 : decode cX2_firstRowFrom 48 = .ok (.iload_n 3, 1) := by decide +kernel
theorem dX2_firstRowFrom_49 : decode cX2_firstRowFrom 49 = .ok (.invokestatic 30, 3) := by decide +kernel
theorem dX2_firstRowFrom_52 : decode cX2_firstRowFrom 52 = .ok (.istore_n 3, 1) := by decide +kernel
theorem dX2_firstRowFrom_53 : decode cX2_firstRowFrom 53 = .ok (.goto 15, 3) := by decide +kernel
theorem dX2_firstRowFrom_56 : decode cX2_firstRowFrom 56 = .ok (.iload_n 3, 1) := by decide +kernel
theorem dX2_firstRowFrom_57 : decode cX2_firstRowFrom 57 = .ok (.invokestatic 34, 3) := by decide +kernel
theorem dX2_firstRowFrom_60 : decode cX2_firstRowFrom 60 = .ok (.istore_n 3, 1) := by decide +kernel
theorem dX2_firstRowFrom_61 : decode cX2_firstRowFrom 61 = .ok (.iload_n 2, 1) := by decide +kernel
theorem dX2_firstRowFrom_62 : decode cX2_firstRowFrom 62 = .ok (.iconst 1, 1) := by decide +kernel
theorem dX2_firstRowFrom_63 : decode cX2_firstRowFrom 63 = .ok (.iload 5, 2) := by decide +kernel
theorem dX2_firstRowFrom_65 : decode cX2_firstRowFrom 65 = .ok (.ishl, 1) := by decide +kernel
theorem dX2_firstRowFrom_66 : decode cX2_firstRowFrom 66 = .ok (.ior, 1) := by decide +kernel
theorem dX2_firstRowFrom_67 : decode cX2_firstRowFrom 67 = .ok (.istore_n 2, 1) := by decide +kernel
theorem dX2_firstRowFrom_68 : decode cX2_firstRowFrom 68 = .ok (.iinc 5 1, 3) := by decide +kernel
theorem dX2_firstRowFrom_71 : decode cX2_firstRowFrom 71 = .ok (.goto (-56), 3) := by decide +kernel
theorem dX2_firstRowFrom_74 : decode cX2_firstRowFrom 74 = .ok (.iload_n 2, 1) := by decide +kernel
theorem dX2_firstRowFrom_75 : decode cX2_firstRowFrom 75 = .ok (.ireturn, 1) := by decide +kernel
theorem dX3_init_0 : decode cX3_init 0 = .ok (.aload_n 0, 1) := by decide +kernel
theorem dX3_init_1 : decode cX3_init 1 = .ok (.invokespecial 3, 3) := by decide +kernel
theorem dX3_init_4 : decode cX3_init 4 = .ok (.aload_n 0, 1) := by decide +kernel
theorem dX3_init_5 : decode cX3_init 5 = .ok (.bipush 28, 2) := by decide +kernel
theorem dX3_init_7 : decode cX3_init 7 = .ok (.newarray .int, 2) := by decide +kernel
theorem dX3_init_9 : decode cX3_init 9 = .ok (.putfield 11, 3) := by decide +kernel
theorem dX3_init_12 : decode cX3_init 12 = .ok (.aload_n 0, 1) := by decide +kernel
theorem dX3_init_13 : decode cX3_init 13 = .ok (.iconst 0, 1) := by decide +kernel
theorem dX3_init_14 : decode cX3_init 14 = .ok (.putfield 15, 3) := by decide +kernel
theorem dX3_init_17 : decode cX3_init 17 = .ok (.return_, 1) := by decide +kernel
theorem dX3_firstFault_0 : decode cX3_firstFault 0 = .ok (.iconst 0, 1) := by decide +kernel
theorem dX3_firstFault_1 : decode cX3_firstFault 1 = .ok (.istore_n 3, 1) := by decide +kernel
theorem dX3_firstFault_2 : decode cX3_firstFault 2 = .ok (.iconst 0, 1) := by decide +kernel
theorem dX3_firstFault_3 : decode cX3_firstFault 3 = .ok (.istore 4, 2) := by decide +kernel
theorem dX3_firstFault_5 : decode cX3_firstFault 5 = .ok (.iconst 0, 1) := by decide +kernel
theorem dX3_firstFault_6 : decode cX3_firstFault 6 = .ok (.istore 5, 2) := by decide +kernel
theorem dX3_firstFault_8 : decode cX3_firstFault 8 = .ok (.iload 5, 2) := by decide +kernel
theorem dX3_firstFault_10 : decode cX3_firstFault 10 = .ok (.iload_n 2, 1) := by decide +kernel
theorem dX3_firstFault_11 : decode cX3_firstFault 11 = .ok (.if_icmp .ge 115, 3) := by decide +kernel
theorem dX3_firstFault_14 : decode cX3_firstFault 14 = .ok (.iload 5, 2) := by decide +kernel
theorem dX3_firstFault_16 : decode cX3_firstFault 16 = .ok (.aload_n 1, 1) := by decide +kernel
theorem dX3_firstFault_17 : decode cX3_firstFault 17 = .ok (.arraylength, 1) := by decide +kernel
theorem dX3_firstFault_18 : decode cX3_firstFault 18 = .ok (.if_icmp .ge 108, 3) := by decide +kernel
theorem dX3_firstFault_21 : decode cX3_firstFault 21 = .ok (.aload_n 1, 1) := by decide +kernel
theorem dX3_firstFault_22 : decode cX3_firstFault 22 = .ok (.iload 5, 2) := by decide +kernel
theorem dX3_firstFault_24 : decode cX3_firstFault 24 = .ok (.baload, 1) := by decide +kernel
theorem dX3_firstFault_25 : decode cX3_firstFault 25 = .ok (.istore 6, 2) := by decide +kernel
theorem dX3_firstFault_27 : decode cX3_firstFault 27 = .ok (.iload 4, 2) := by decide +kernel
theorem dX3_firstFault_29 : decode cX3_firstFault 29 = .ok (.ifCond .ne 13, 3) := by decide +kernel
theorem dX3_firstFault_32 : decode cX3_firstFault 32 = .ok (.iload 6, 2) := by decide +kernel
theorem dX3_firstFault_34 : decode cX3_firstFault 34 = .ok (.bipush 32, 2) := by decide +kernel
theorem dX3_firstFault_36 : decode cX3_firstFault 36 = .ok (.if_icmp .ne 6, 3) := by decide +kernel
theorem dX3_firstFault_39 : decode cX3_firstFault 39 = .ok (.goto 81, 3) := by decide +kernel
theorem dX3_firstFault_42 : decode cX3_firstFault 42 = .ok (.iload_n 3, 1) := by decide +kernel
theorem dX3_firstFault_43 : decode cX3_firstFault 43 = .ok (.bipush 6, 2) := by decide +kernel
theorem dX3_firstFault_45 : decode cX3_firstFault 45 = .ok (.if_icmp .le 6, 3) := by decide +kernel
theorem dX3_firstFault_48 : decode cX3_firstFault 48 = .ok (.iload 5, 2) := by decide +kernel
theorem dX3_firstFault_50 : decode cX3_firstFault 50 = .ok (.ireturn, 1) := by decide +kernel
theorem dX3_firstFault_51 : decode cX3_firstFault 51 = .ok (.iload_n 3, 1) := by decide +kernel
theorem dX3_firstFault_52 : decode cX3_firstFault 52 = .ok (.ifCond .ne 13, 3) := by decide +kernel
theorem dX3_firstFault_55 : decode cX3_firstFault 55 = .ok (.iload 4, 2) := by decide +kernel
theorem dX3_firstFault_57 : decode cX3_firstFault 57 = .ok (.iload 6, 2) := by decide +kernel
theorem dX3_firstFault_59 : decode cX3_firstFault 59 = .ok (.invokestatic 19, 3) := by decide +kernel
theorem dX3_firstFault_62 : decode cX3_firstFault 62 = .ok (.goto 10, 3) := by decide +kernel
theorem dX3_firstFault_65 : decode cX3_firstFault 65 = .ok (.iload 4, 2) := by decide +kernel
theorem dX3_firstFault_67 : decode cX3_firstFault 67 = .ok (.iload 6, 2) := by decide +kernel
theorem dX3_firstFault_69 : decode cX3_firstFault 69 = .ok (.invokestatic 23, 3) := by decide +kernel
theorem dX3_firstFault_72 : decode cX3_firstFault 72 = .ok (.istore 7, 2) := by decide +kernel
theorem dX3_firstFault_74 : decode cX3_firstFault 74 = .ok (.iload 7, 2) := by decide +kernel
theorem dX3_firstFault_76 : decode cX3_firstFault 76 = .ok (.bipush (-9), 2) := by decide +kernel
theorem dX3_firstFault_78 : decode cX3_firstFault 78 = .ok (.if_icmp .ne 6, 3) := by decide +kernel
theorem dX3_firstFault_81 : decode cX3_firstFault 81 = .ok (.iload 5, 2) := by decide +kernel
theorem dX3_firstFault_83 : decode cX3_firstFault 83 = .ok (.ireturn, 1) := by decide +kernel
theorem dX3_firstFault_84 : decode cX3_firstFault 84 = .ok (.aload_n 0, 1) := by decide +kernel
theorem dX3_firstFault_85 : decode cX3_firstFault 85 = .ok (.getfield 11, 3) := by decide +kernel
theorem dX3_firstFault_88 : decode cX3_firstFault 88 = .ok (.iconst 4, 1) := by decide +kernel
theorem dX3_firstFault_89 : decode cX3_firstFault 89 = .ok (.iload_n 3, 1) := by decide +kernel
theorem dX3_firstFault_90 : decode cX3_firstFault 90 = .ok (.imul, 1) := by decide +kernel
theorem dX3_firstFault_91 : decode cX3_firstFault 91 = .ok (.iload 4, 2) := by decide +kernel
theorem dX3_firstFault_93 : decode cX3_firstFault 93 = .ok (.iadd, 1) := by decide +kernel
theorem dX3_firstFault_94 : decode cX3_firstFault 94 = .ok (.iload 7, 2) := by decide +kernel
theorem dX3_firstFault_96 : decode cX3_firstFault 96 = .ok (.iastore, 1) := by decide +kernel
theorem dX3_firstFault_97 : decode cX3_firstFault 97 = .ok (.iinc 4 1, 3) := by decide +kernel
theorem dX3_firstFault_100 : decode cX3_firstFault 100 = .ok (.iload 4, 2) := by decide +kernel
theorem dX3_firstFault_102 : decode cX3_firstFault 102 = .ok (.iload_n 3, 1) := by decide +kernel
theorem dX3_firstFault_103 : decode cX3_firstFault 103 = .ok (.ifCond .ne 7, 3) := by decide +kernel
theorem dX3_firstFault_106 : decode cX3_firstFault 106 = .ok (.iconst 3, 1) := by decide +kernel
theorem dX3_firstFault_107 : decode cX3_firstFault 107 = .ok (.goto 4, 3) := by decide +kernel
theorem dX3_firstFault_110 : decode cX3_firstFault 110 = .ok (.iconst 4, 1) := by decide +kernel
theorem dX3_firstFault_111 : decode cX3_firstFault 111 = .ok (.if_icmp .ne 9, 3) := by decide +kernel
theorem dX3_firstFault_114 : decode cX3_firstFault 114 = .ok (.iconst 0, 1) := by decide +kernel
theorem dX3_firstFault_115 : decode cX3_firstFault 115 = .ok (.istore 4, 2) := by decide +kernel
theorem dX3_firstFault_117 : decode cX3_firstFault 117 = .ok (.iinc 3 1, 3) := by decide +kernel
theorem dX3_firstFault_120 : decode cX3_firstFault 120 = .ok (.iinc 5 1, 3) := by decide +kernel
theorem dX3_firstFault_123 : decode cX3_firstFault 123 = .ok (.goto (-115), 3) := by decide +kernel
theorem dX3_firstFault_126 : decode cX3_firstFault 126 = .ok (.iload 4, 2) := by decide +kernel
theorem dX3_firstFault_128 : decode cX3_firstFault 128 = .ok (.ifCond .ne 8, 3) := by decide +kernel
theorem dX3_firstFault_131 : decode cX3_firstFault 131 = .ok (.iload_n 3, 1) := by decide +kernel
theorem dX3_firstFault_132 : decode cX3_firstFault 132 = .ok (.iconst 2, 1) := by decide +kernel
theorem dX3_firstFault_133 : decode cX3_firstFault 133 = .ok (.if_icmp .ge 5, 3) := by decide +kernel
theorem dX3_firstFault_136 : decode cX3_firstFault 136 = .ok (.iload_n 2, 1) := by decide +kernel
theorem dX3_firstFault_137 : decode cX3_firstFault 137 = .ok (.ireturn, 1) := by decide +kernel
theorem dX3_firstFault_138 : decode cX3_firstFault 138 = .ok (.aload_n 0, 1) := by decide +kernel
theorem dX3_firstFault_139 : decode cX3_firstFault 139 = .ok (.iload_n 3, 1) := by decide +kernel
theorem dX3_firstFault_140 : decode cX3_firstFault 140 = .ok (.iconst 1, 1) := by decide +kernel
theorem dX3_firstFault_141 : decode cX3_firstFault 141 = .ok (.isub, 1) := by decide +kernel
theorem dX3_firstFault_142 : decode cX3_firstFault 142 = .ok (.putfield 15, 3) := by decide +kernel
theorem dX3_firstFault_145 : decode cX3_firstFault 145 = .ok (.bipush (-9), 2) := by decide +kernel
theorem dX3_firstFault_147 : decode cX3_firstFault 147 = .ok (.ireturn, 1) := by decide +kernel
theorem dX3_headPart_0 : decode cX3_headPart 0 = .ok (.iload_n 0, 1) := by decide +kernel
theorem dX3_headPart_1 : decode cX3_headPart 1 = .ok (.ifCond .ne 16, 3) := by decide +kernel
theorem dX3_headPart_4 : decode cX3_headPart 4 = .ok (.iload_n 1, 1) := by decide +kernel
theorem dX3_headPart_5 : decode cX3_headPart 5 = .ok (.bipush 102, 2) := by decide +kernel
theorem dX3_headPart_7 : decode cX3_headPart 7 = .ok (.if_icmp .ne 7, 3) := by decide +kernel
theorem dX3_headPart_10 : decode cX3_headPart 10 = .ok (.iconst 0, 1) := by decide +kernel
theorem dX3_headPart_11 : decode cX3_headPart 11 = .ok (.goto 5, 3) := by decide +kernel
theorem dX3_headPart_14 : decode cX3_headPart 14 = .ok (.bipush (-9), 2) := by decide +kernel
theorem dX3_headPart_16 : decode cX3_headPart 16 = .ok (.ireturn, 1) := by decide +kernel
theorem dX3_headPart_17 : decode cX3_headPart 17 = .ok (.iload_n 1, 1) := by decide +kernel
theorem dX3_headPart_18 : decode cX3_headPart 18 = .ok (.bipush 9, 2) := by decide +kernel
theorem dX3_headPart_20 : decode cX3_headPart 20 = .ok (.invokestatic 26, 3) := by decide +kernel
theorem dX3_headPart_23 : decode cX3_headPart 23 = .ok (.ireturn, 1) := by decide +kernel
theorem dX3_thingPart_0 : decode cX3_thingPart 0 = .ok (.iload_n 0, 1) := by decide +kernel
theorem dX3_thingPart_1 : decode cX3_thingPart 1 = .ok (.ifCond .ne 8, 3) := by decide +kernel
theorem dX3_thingPart_4 : decode cX3_thingPart 4 = .ok (.iload_n 1, 1) := by decide +kernel
theorem dX3_thingPart_5 : decode cX3_thingPart 5 = .ok (.invokestatic 29, 3) := by decide +kernel
theorem dX3_thingPart_8 : decode cX3_thingPart 8 = .ok (.ireturn, 1) := by decide +kernel
theorem dX3_thingPart_9 : decode cX3_thingPart 9 = .ok (.iload_n 1, 1) := by decide +kernel
theorem dX3_thingPart_10 : decode cX3_thingPart 10 = .ok (.iload_n 0, 1) := by decide +kernel
theorem dX3_thingPart_11 : decode cX3_thingPart 11 = .ok (.iconst 2, 1) := by decide +kernel
theorem dX3_thingPart_12 : decode cX3_thingPart 12 = .ok (.if_icmp .ne 8, 3) := by decide +kernel
theorem dX3_thingPart_15 : decode cX3_thingPart 15 = .ok (.bipush 9, 2) := by decide +kernel
theorem dX3_thingPart_17 : decode cX3_thingPart 17 = .ok (.goto 5, 3) := by decide +kernel
theorem dX3_thingPart_20 : decode cX3_thingPart 20 = .ok (.bipush 7, 2) := by decide +kernel
theorem dX3_thingPart_22 : decode cX3_thingPart 22 = .ok (.invokestatic 26, 3) := by decide +kernel
theorem dX3_thingPart_25 : decode cX3_thingPart 25 = .ok (.ireturn, 1) := by decide +kernel
theorem dX3_figure_0 : decode cX3_figure 0 = .ok (.iload_n 0, 1) := by decide +kernel
theorem dX3_figure_1 : decode cX3_figure 1 = .ok (.bipush 48, 2) := by decide +kernel
theorem dX3_figure_3 : decode cX3_figure 3 = .ok (.isub, 1) := by decide +kernel
theorem dX3_figure_4 : decode cX3_figure 4 = .ok (.istore_n 2, 1) := by decide +kernel
theorem dX3_figure_5 : decode cX3_figure 5 = .ok (.iload_n 2, 1) := by decide +kernel
theorem dX3_figure_6 : decode cX3_figure 6 = .ok (.ifCond .lt 12, 3) := by decide +kernel
theorem dX3_figure_9 : decode cX3_figure 9 = .ok (.iload_n 2, 1) := by decide +kernel
theorem dX3_figure_10 : decode cX3_figure 10 = .ok (.iload_n 1, 1) := by decide +kernel
theorem dX3_figure_11 : decode cX3_figure 11 = .ok (.if_icmp .gt 7, 3) := by decide +kernel
theorem dX3_figure_14 : decode cX3_figure 14 = .ok (.iload_n 2, 1) := by decide +kernel
theorem dX3_figure_15 : decode cX3_figure 15 = .ok (.goto 5, 3) := by decide +kernel
theorem dX3_figure_18 : decode cX3_figure 18 = .ok (.bipush (-9), 2) := by decide +kernel
theorem dX3_figure_20 : decode cX3_figure 20 = .ok (.ireturn, 1) := by decide +kernel
theorem dX3_kindOfLetter_0 : decode cX3_kindOfLetter 0 = .ok (.iload_n 0, 1) := by decide +kernel
theorem dX3_kindOfLetter_1 : decode cX3_kindOfLetter 1 = .ok (.tableswitch 103 98 116 #[97, 101, 99, 103, 103, 103, 103, 103, 103, 103, 103, 103, 103, 103, 103, 103, 93, 95, 91], 91) := by decide +kernel
theorem dX3_kindOfLetter_92 : decode cX3_kindOfLetter 92 = .ok (.iconst 0, 1) := by decide +kernel
theorem dX3_kindOfLetter_93 : decode cX3_kindOfLetter 93 = .ok (.ireturn, 1) := by decide +kernel
theorem dX3_kindOfLetter_94 : decode cX3_kindOfLetter 94 = .ok (.iconst 1, 1) := by decide +kernel
theorem dX3_kindOfLetter_95 : decode cX3_kindOfLetter 95 = .ok (.ireturn, 1) := by decide +kernel
theorem dX3_kindOfLetter_96 : decode cX3_kindOfLetter 96 = .ok (.iconst 2, 1) := by decide +kernel
theorem dX3_kindOfLetter_97 : decode cX3_kindOfLetter 97 = .ok (.ireturn, 1) := by decide +kernel
theorem dX3_kindOfLetter_98 : decode cX3_kindOfLetter 98 = .ok (.iconst 3, 1) := by decide +kernel
theorem dX3_kindOfLetter_99 : decode cX3_kindOfLetter 99 = .ok (.ireturn, 1) := by decide +kernel
theorem dX3_kindOfLetter_100 : decode cX3_kindOfLetter 100 = .ok (.iconst 4, 1) := by decide +kernel
theorem dX3_kindOfLetter_101 : decode cX3_kindOfLetter 101 = .ok (.ireturn, 1) := by decide +kernel
theorem dX3_kindOfLetter_102 : decode cX3_kindOfLetter 102 = .ok (.iconst 5, 1) := by decide +kernel
theorem dX3_kindOfLetter_103 : decode cX3_kindOfLetter 103 = .ok (.ireturn, 1) := by decide +kernel
theorem dX3_kindOfLetter_104 : decode cX3_kindOfLetter 104 = .ok (.bipush (-9), 2) := by decide +kernel
theorem dX3_kindOfLetter_106 : decode cX3_kindOfLetter 106 = .ok (.ireturn, 1) := by decide +kernel
theorem dX4_init_0 : decode cX4_init 0 = .ok (.aload_n 0, 1) := by decide +kernel
theorem dX4_init_1 : decode cX4_init 1 = .ok (.invokespecial 1, 3) := by decide +kernel
theorem dX4_init_4 : decode cX4_init 4 = .ok (.aload_n 0, 1) := by decide +kernel
theorem dX4_init_5 : decode cX4_init 5 = .ok (.bipush 6, 2) := by decide +kernel
theorem dX4_init_7 : decode cX4_init 7 = .ok (.bipush 40, 2) := by decide +kernel
theorem dX4_init_9 : decode cX4_init 9 = .ok (.multianewarray 9 2, 4) := by decide +kernel
theorem dX4_init_13 : decode cX4_init 13 = .ok (.putfield 11, 3) := by decide +kernel
theorem dX4_init_16 : decode cX4_init 16 = .ok (.aload_n 0, 1) := by decide +kernel
theorem dX4_init_17 : decode cX4_init 17 = .ok (.bipush 6, 2) := by decide +kernel
theorem dX4_init_19 : decode cX4_init 19 = .ok (.newarray .int, 2) := by decide +kernel
theorem dX4_init_21 : decode cX4_init 21 = .ok (.putfield 14, 3) := by decide +kernel
theorem dX4_init_24 : decode cX4_init 24 = .ok (.aload_n 0, 1) := by decide +kernel
theorem dX4_init_25 : decode cX4_init 25 = .ok (.iconst 4, 1) := by decide +kernel
theorem dX4_init_26 : decode cX4_init 26 = .ok (.bipush 60, 2) := by decide +kernel
theorem dX4_init_28 : decode cX4_init 28 = .ok (.multianewarray 18 2, 4) := by decide +kernel
theorem dX4_init_32 : decode cX4_init 32 = .ok (.putfield 20, 3) := by decide +kernel
theorem dX4_init_35 : decode cX4_init 35 = .ok (.aload_n 0, 1) := by decide +kernel
theorem dX4_init_36 : decode cX4_init 36 = .ok (.iconst 4, 1) := by decide +kernel
theorem dX4_init_37 : decode cX4_init 37 = .ok (.newarray .int, 2) := by decide +kernel
theorem dX4_init_39 : decode cX4_init 39 = .ok (.putfield 23, 3) := by decide +kernel
theorem dX4_init_42 : decode cX4_init 42 = .ok (.aload_n 0, 1) := by decide +kernel
theorem dX4_init_43 : decode cX4_init 43 = .ok (.iconst 3, 1) := by decide +kernel
theorem dX4_init_44 : decode cX4_init 44 = .ok (.bipush 40, 2) := by decide +kernel
theorem dX4_init_46 : decode cX4_init 46 = .ok (.multianewarray 9 2, 4) := by decide +kernel
theorem dX4_init_50 : decode cX4_init 50 = .ok (.putfield 26, 3) := by decide +kernel
theorem dX4_init_53 : decode cX4_init 53 = .ok (.aload_n 0, 1) := by decide +kernel
theorem dX4_init_54 : decode cX4_init 54 = .ok (.iconst 3, 1) := by decide +kernel
theorem dX4_init_55 : decode cX4_init 55 = .ok (.newarray .int, 2) := by decide +kernel
theorem dX4_init_57 : decode cX4_init 57 = .ok (.putfield 29, 3) := by decide +kernel
theorem dX4_init_60 : decode cX4_init 60 = .ok (.aload_n 0, 1) := by decide +kernel
theorem dX4_init_61 : decode cX4_init 61 = .ok (.new 32, 3) := by decide +kernel
theorem dX4_init_64 : decode cX4_init 64 = .ok (.dup, 1) := by decide +kernel
theorem dX4_init_65 : decode cX4_init 65 = .ok (.invokespecial 34, 3) := by decide +kernel
theorem dX4_init_68 : decode cX4_init 68 = .ok (.putfield 35, 3) := by decide +kernel
theorem dX4_init_71 : decode cX4_init 71 = .ok (.aload_n 0, 1) := by decide +kernel
theorem dX4_init_72 : decode cX4_init 72 = .ok (.new 39, 3) := by decide +kernel
theorem dX4_init_75 : decode cX4_init 75 = .ok (.dup, 1) := by decide +kernel
theorem dX4_init_76 : decode cX4_init 76 = .ok (.invokespecial 41, 3) := by decide +kernel
theorem dX4_init_79 : decode cX4_init 79 = .ok (.putfield 42, 3) := by decide +kernel
theorem dX4_init_82 : decode cX4_init 82 = .ok (.aload_n 0, 1) := by decide +kernel
theorem dX4_init_83 : decode cX4_init 83 = .ok (.new 46, 3) := by decide +kernel
theorem dX4_init_86 : decode cX4_init 86 = .ok (.dup, 1) := by decide +kernel
theorem dX4_init_87 : decode cX4_init 87 = .ok (.invokespecial 48, 3) := by decide +kernel
theorem dX4_init_90 : decode cX4_init 90 = .ok (.putfield 49, 3) := by decide +kernel
theorem dX4_init_93 : decode cX4_init 93 = .ok (.aload_n 0, 1) := by decide +kernel
theorem dX4_init_94 : decode cX4_init 94 = .ok (.new 53, 3) := by decide +kernel
theorem dX4_init_97 : decode cX4_init 97 = .ok (.dup, 1) := by decide +kernel
theorem dX4_init_98 : decode cX4_init 98 = .ok (.invokespecial 55, 3) := by decide +kernel
theorem dX4_init_101 : decode cX4_init 101 = .ok (.putfield 56, 3) := by decide +kernel
theorem dX4_init_104 : decode cX4_init 104 = .ok (.aload_n 0, 1) := by decide +kernel
theorem dX4_init_105 : decode cX4_init 105 = .ok (.bipush 6, 2) := by decide +kernel
theorem dX4_init_107 : decode cX4_init 107 = .ok (.newarray .int, 2) := by decide +kernel
theorem dX4_init_109 : decode cX4_init 109 = .ok (.putfield 60, 3) := by decide +kernel
theorem dX4_init_112 : decode cX4_init 112 = .ok (.aload_n 0, 1) := by decide +kernel
theorem dX4_init_113 : decode cX4_init 113 = .ok (.iconst 0, 1) := by decide +kernel
theorem dX4_init_114 : decode cX4_init 114 = .ok (.putfield 63, 3) := by decide +kernel
theorem dX4_init_117 : decode cX4_init 117 = .ok (.aload_n 0, 1) := by decide +kernel
theorem dX4_init_118 : decode cX4_init 118 = .ok (.iconst 0, 1) := by decide +kernel
theorem dX4_init_119 : decode cX4_init 119 = .ok (.putfield 67, 3) := by decide +kernel
theorem dX4_init_122 : decode cX4_init 122 = .ok (.aload_n 0, 1) := by decide +kernel
theorem dX4_init_123 : decode cX4_init 123 = .ok (.lconst 0, 1) := by decide +kernel
theorem dX4_init_124 : decode cX4_init 124 = .ok (.putfield 70, 3) := by decide +kernel
theorem dX4_init_127 : decode cX4_init 127 = .ok (.aload_n 0, 1) := by decide +kernel
theorem dX4_init_128 : decode cX4_init 128 = .ok (.lconst 1, 1) := by decide +kernel
theorem dX4_init_129 : decode cX4_init 129 = .ok (.putfield 74, 3) := by decide +kernel
theorem dX4_init_132 : decode cX4_init 132 = .ok (.aload_n 0, 1) := by decide +kernel
theorem dX4_init_133 : decode cX4_init 133 = .ok (.getfield 14, 3) := by decide +kernel
theorem dX4_init_136 : decode cX4_init 136 = .ok (.iconst (-1), 1) := by decide +kernel
theorem dX4_init_137 : decode cX4_init 137 = .ok (.invokestatic 77, 3) := by decide +kernel
theorem dX4_init_140 : decode cX4_init 140 = .ok (.aload_n 0, 1) := by decide +kernel
theorem dX4_init_141 : decode cX4_init 141 = .ok (.getfield 23, 3) := by decide +kernel
theorem dX4_init_144 : decode cX4_init 144 = .ok (.iconst (-1), 1) := by decide +kernel
theorem dX4_init_145 : decode cX4_init 145 = .ok (.invokestatic 77, 3) := by decide +kernel
theorem dX4_init_148 : decode cX4_init 148 = .ok (.aload_n 0, 1) := by decide +kernel
theorem dX4_init_149 : decode cX4_init 149 = .ok (.getfield 29, 3) := by decide +kernel
theorem dX4_init_152 : decode cX4_init 152 = .ok (.iconst (-1), 1) := by decide +kernel
theorem dX4_init_153 : decode cX4_init 153 = .ok (.invokestatic 77, 3) := by decide +kernel
theorem dX4_init_156 : decode cX4_init 156 = .ok (.return_, 1) := by decide +kernel
theorem dX4_row_0 : decode cX4_row 0 = .ok (.iload_n 1, 1) := by decide +kernel
theorem dX4_row_1 : decode cX4_row 1 = .ok (.invokestatic 83, 3) := by decide +kernel
theorem dX4_row_4 : decode cX4_row 4 = .ok (.ifCond .eq 9, 3) := by decide +kernel
theorem dX4_row_7 : decode cX4_row 7 = .ok (.iload_n 2, 1) := by decide +kernel
theorem dX4_row_8 : decode cX4_row 8 = .ok (.bipush 40, 2) := by decide +kernel
theorem dX4_row_10 : decode cX4_row 10 = .ok (.if_icmp .le 5, 3) := by decide +kernel
theorem dX4_row_13 : decode cX4_row 13 = .ok (.iconst (-1), 1) := by decide +kernel
theorem dX4_row_14 : decode cX4_row 14 = .ok (.ireturn, 1) := by decide +kernel
theorem dX4_row_15 : decode cX4_row 15 = .ok (.iload_n 2, 1) := by decide +kernel
theorem dX4_row_16 : decode cX4_row 16 = .ok (.ifCond .ge 9, 3) := by decide +kernel
theorem dX4_row_19 : decode cX4_row 19 = .ok (.aload_n 0, 1) := by decide +kernel
theorem dX4_row_20 : decode cX4_row 20 = .ok (.iconst 5, 1) := by decide +kernel
theorem dX4_row_21 : decode cX4_row 21 = .ok (.invokevirtual 87, 3) := by decide +kernel
theorem dX4_row_24 : decode cX4_row 24 = .ok (.ireturn, 1) := by decide +kernel
theorem dX4_row_25 : decode cX4_row 25 = .ok (.aload_n 0, 1) := by decide +kernel
theorem dX4_row_26 : decode cX4_row 26 = .ok (.getfield 11, 3) := by decide +kernel
theorem dX4_row_29 : decode cX4_row 29 = .ok (.iload_n 1, 1) := by decide +kernel
theorem dX4_row_30 : decode cX4_row 30 = .ok (.aaload, 1) := by decide +kernel
theorem dX4_row_31 : decode cX4_row 31 = .ok (.iconst 0, 1) := by decide +kernel
theorem dX4_row_32 : decode cX4_row 32 = .ok (.invokestatic 77, 3) := by decide +kernel
theorem dX4_row_35 : decode cX4_row 35 = .ok (.aload_n 0, 1) := by decide +kernel
theorem dX4_row_36 : decode cX4_row 36 = .ok (.getfield 14, 3) := by decide +kernel
theorem dX4_row_39 : decode cX4_row 39 = .ok (.iload_n 1, 1) := by decide +kernel
theorem dX4_row_40 : decode cX4_row 40 = .ok (.iload_n 2, 1) := by decide +kernel
theorem dX4_row_41 : decode cX4_row 41 = .ok (.iastore, 1) := by decide +kernel
theorem dX4_row_42 : decode cX4_row 42 = .ok (.iload_n 2, 1) := by decide +kernel
theorem dX4_row_43 : decode cX4_row 43 = .ok (.ireturn, 1) := by decide +kernel
theorem dX4_lay_0 : decode cX4_lay 0 = .ok (.iload_n 1, 1) := by decide +kernel
theorem dX4_lay_1 : decode cX4_lay 1 = .ok (.invokestatic 83, 3) := by decide +kernel
theorem dX4_lay_4 : decode cX4_lay 4 = .ok (.ifCond .ne 5, 3) := by decide +kernel
theorem dX4_lay_7 : decode cX4_lay 7 = .ok (.iconst (-1), 1) := by decide +kernel
theorem dX4_lay_8 : decode cX4_lay 8 = .ok (.ireturn, 1) := by decide +kernel
theorem dX4_lay_9 : decode cX4_lay 9 = .ok (.aload_n 0, 1) := by decide +kernel
theorem dX4_lay_10 : decode cX4_lay 10 = .ok (.getfield 14, 3) := by decide +kernel
theorem dX4_lay_13 : decode cX4_lay 13 = .ok (.iload_n 1, 1) := by decide +kernel
theorem dX4_lay_14 : decode cX4_lay 14 = .ok (.iaload, 1) := by decide +kernel
theorem dX4_lay_15 : decode cX4_lay 15 = .ok (.iconst (-1), 1) := by decide +kernel
theorem dX4_lay_16 : decode cX4_lay 16 = .ok (.if_icmp .ne 9, 3) := by decide +kernel
theorem dX4_lay_19 : decode cX4_lay 19 = .ok (.aload_n 0, 1) := by decide +kernel
theorem dX4_lay_20 : decode cX4_lay 20 = .ok (.iconst 1, 1) := by decide +kernel
theorem dX4_lay_21 : decode cX4_lay 21 = .ok (.invokevirtual 87, 3) := by decide +kernel
theorem dX4_lay_24 : decode cX4_lay 24 = .ok (.ireturn, 1) := by decide +kernel
theorem dX4_lay_25 : decode cX4_lay 25 = .ok (.iload_n 2, 1) := by decide +kernel
theorem dX4_lay_26 : decode cX4_lay 26 = .ok (.ifCond .lt 13, 3) := by decide +kernel
theorem dX4_lay_29 : decode cX4_lay 29 = .ok (.iload_n 2, 1) := by decide +kernel
theorem dX4_lay_30 : decode cX4_lay 30 = .ok (.aload_n 0, 1) := by decide +kernel
theorem dX4_lay_31 : decode cX4_lay 31 = .ok (.getfield 14, 3) := by decide +kernel
theorem dX4_lay_34 : decode cX4_lay 34 = .ok (.iload_n 1, 1) := by decide +kernel
theorem dX4_lay_35 : decode cX4_lay 35 = .ok (.iaload, 1) := by decide +kernel
theorem dX4_lay_36 : decode cX4_lay 36 = .ok (.if_icmp .lt 9, 3) := by decide +kernel
theorem dX4_lay_39 : decode cX4_lay 39 = .ok (.aload_n 0, 1) := by decide +kernel
theorem dX4_lay_40 : decode cX4_lay 40 = .ok (.iconst 2, 1) := by decide +kernel
theorem dX4_lay_41 : decode cX4_lay 41 = .ok (.invokevirtual 87, 3) := by decide +kernel
theorem dX4_lay_44 : decode cX4_lay 44 = .ok (.ireturn, 1) := by decide +kernel
theorem dX4_lay_45 : decode cX4_lay 45 = .ok (.aload_n 0, 1) := by decide +kernel
theorem dX4_lay_46 : decode cX4_lay 46 = .ok (.getfield 11, 3) := by decide +kernel
theorem dX4_lay_49 : decode cX4_lay 49 = .ok (.iload_n 1, 1) := by decide +kernel
theorem dX4_lay_50 : decode cX4_lay 50 = .ok (.aaload, 1) := by decide +kernel
theorem dX4_lay_51 : decode cX4_lay 51 = .ok (.iload_n 2, 1) := by decide +kernel
theorem dX4_lay_52 : decode cX4_lay 52 = .ok (.iaload, 1) := by decide +kernel
theorem dX4_lay_53 : decode cX4_lay 53 = .ok (.istore 4, 2) := by decide +kernel
theorem dX4_lay_55 : decode cX4_lay 55 = .ok (.aload_n 0, 1) := by decide +kernel
theorem dX4_lay_56 : decode cX4_lay 56 = .ok (.getfield 11, 3) := by decide +kernel
theorem dX4_lay_59 : decode cX4_lay 59 = .ok (.iload_n 1, 1) := by decide +kernel
theorem dX4_lay_60 : decode cX4_lay 60 = .ok (.aaload, 1) := by decide +kernel
theorem dX4_lay_61 : decode cX4_lay 61 = .ok (.iload_n 2, 1) := by decide +kernel
theorem dX4_lay_62 : decode cX4_lay 62 = .ok (.iload_n 3, 1) := by decide +kernel
theorem dX4_lay_63 : decode cX4_lay 63 = .ok (.iastore, 1) := by decide +kernel
theorem dX4_lay_64 : decode cX4_lay 64 = .ok (.aload_n 0, 1) := by decide +kernel
theorem dX4_lay_65 : decode cX4_lay 65 = .ok (.iload 4, 2) := by decide +kernel
theorem dX4_lay_67 : decode cX4_lay 67 = .ok (.invokevirtual 91, 3) := by decide +kernel
theorem dX4_lay_70 : decode cX4_lay 70 = .ok (.ireturn, 1) := by decide +kernel
theorem dX4_at_0 : decode cX4_at 0 = .ok (.iload_n 1, 1) := by decide +kernel
theorem dX4_at_1 : decode cX4_at 1 = .ok (.invokestatic 83, 3) := by decide +kernel
theorem dX4_at_4 : decode cX4_at 4 = .ok (.ifCond .ne 5, 3) := by decide +kernel
theorem dX4_at_7 : decode cX4_at 7 = .ok (.iconst (-1), 1) := by decide +kernel
theorem dX4_at_8 : decode cX4_at 8 = .ok (.ireturn, 1) := by decide +kernel
theorem dX4_at_9 : decode cX4_at 9 = .ok (.aload_n 0, 1) := by decide +kernel
theorem dX4_at_10 : decode cX4_at 10 = .ok (.getfield 14, 3) := by decide +kernel
theorem dX4_at_13 : decode cX4_at 13 = .ok (.iload_n 1, 1) := by decide +kernel
theorem dX4_at_14 : decode cX4_at 14 = .ok (.iaload, 1) := by decide +kernel
theorem dX4_at_15 : decode cX4_at 15 = .ok (.iconst (-1), 1) := by decide +kernel
theorem dX4_at_16 : decode cX4_at 16 = .ok (.if_icmp .ne 9, 3) := by decide +kernel
theorem dX4_at_19 : decode cX4_at 19 = .ok (.aload_n 0, 1) := by decide +kernel
theorem dX4_at_20 : decode cX4_at 20 = .ok (.iconst 1, 1) := by decide +kernel
theorem dX4_at_21 : decode cX4_at 21 = .ok (.invokevirtual 87, 3) := by decide +kernel
theorem dX4_at_24 : decode cX4_at 24 = .ok (.ireturn, 1) := by decide +kernel
theorem dX4_at_25 : decode cX4_at 25 = .ok (.iload_n 2, 1) := by decide +kernel
theorem dX4_at_26 : decode cX4_at 26 = .ok (.ifCond .lt 13, 3) := by decide +kernel
theorem dX4_at_29 : decode cX4_at 29 = .ok (.iload_n 2, 1) := by decide +kernel
theorem dX4_at_30 : decode cX4_at 30 = .ok (.aload_n 0, 1) := by decide +kernel
theorem dX4_at_31 : decode cX4_at 31 = .ok (.getfield 14, 3) := by decide +kernel
theorem dX4_at_34 : decode cX4_at 34 = .ok (.iload_n 1, 1) := by decide +kernel
theorem dX4_at_35 : decode cX4_at 35 = .ok (.iaload, 1) := by decide +kernel
theorem dX4_at_36 : decode cX4_at 36 = .ok (.if_icmp .lt 9, 3) := by decide +kernel
theorem dX4_at_39 : decode cX4_at 39 = .ok (.aload_n 0, 1) := by decide +kernel
theorem dX4_at_40 : decode cX4_at 40 = .ok (.iconst 2, 1) := by decide +kernel
theorem dX4_at_41 : decode cX4_at 41 = .ok (.invokevirtual 87, 3) := by decide +kernel
theorem dX4_at_44 : decode cX4_at 44 = .ok (.ireturn, 1) := by decide +kernel
theorem dX4_at_45 : decode cX4_at 45 = .ok (.aload_n 0, 1) := by decide +kernel
theorem dX4_at_46 : decode cX4_at 46 = .ok (.aload_n 0, 1) := by decide +kernel
theorem dX4_at_47 : decode cX4_at 47 = .ok (.getfield 11, 3) := by decide +kernel
theorem dX4_at_50 : decode cX4_at 50 = .ok (.iload_n 1, 1) := by decide +kernel
theorem dX4_at_51 : decode cX4_at 51 = .ok (.aaload, 1) := by decide +kernel
theorem dX4_at_52 : decode cX4_at 52 = .ok (.iload_n 2, 1) := by decide +kernel
theorem dX4_at_53 : decode cX4_at 53 = .ok (.iaload, 1) := by decide +kernel
theorem dX4_at_54 : decode cX4_at 54 = .ok (.invokevirtual 91, 3) := by decide +kernel
theorem dX4_at_57 : decode cX4_at 57 = .ok (.ireturn, 1) := by decide +kernel
theorem dX4_tear_0 : decode cX4_tear 0 = .ok (.iload_n 1, 1) := by decide +kernel
theorem dX4_tear_1 : decode cX4_tear 1 = .ok (.invokestatic 83, 3) := by decide +kernel
theorem dX4_tear_4 : decode cX4_tear 4 = .ok (.ifCond .ne 5, 3) := by decide +kernel
theorem dX4_tear_7 : decode cX4_tear 7 = .ok (.iconst (-1), 1) := by decide +kernel
theorem dX4_tear_8 : decode cX4_tear 8 = .ok (.ireturn, 1) := by decide +kernel
theorem dX4_tear_9 : decode cX4_tear 9 = .ok (.aload_n 0, 1) := by decide +kernel
theorem dX4_tear_10 : decode cX4_tear 10 = .ok (.getfield 14, 3) := by decide +kernel
theorem dX4_tear_13 : decode cX4_tear 13 = .ok (.iload_n 1, 1) := by decide +kernel
theorem dX4_tear_14 : decode cX4_tear 14 = .ok (.iaload, 1) := by decide +kernel
theorem dX4_tear_15 : decode cX4_tear 15 = .ok (.iconst (-1), 1) := by decide +kernel
theorem dX4_tear_16 : decode cX4_tear 16 = .ok (.if_icmp .ne 9, 3) := by decide +kernel
theorem dX4_tear_19 : decode cX4_tear 19 = .ok (.aload_n 0, 1) := by decide +kernel
theorem dX4_tear_20 : decode cX4_tear 20 = .ok (.iconst 1, 1) := by decide +kernel
theorem dX4_tear_21 : decode cX4_tear 21 = .ok (.invokevirtual 87, 3) := by decide +kernel
theorem dX4_tear_24 : decode cX4_tear 24 = .ok (.ireturn, 1) := by decide +kernel
theorem dX4_tear_25 : decode cX4_tear 25 = .ok (.aload_n 0, 1) := by decide +kernel
theorem dX4_tear_26 : decode cX4_tear 26 = .ok (.getfield 14, 3) := by decide +kernel
theorem dX4_tear_29 : decode cX4_tear 29 = .ok (.iload_n 1, 1) := by decide +kernel
theorem dX4_tear_30 : decode cX4_tear 30 = .ok (.iconst (-1), 1) := by decide +kernel
theorem dX4_tear_31 : decode cX4_tear 31 = .ok (.iastore, 1) := by decide +kernel
theorem dX4_tear_32 : decode cX4_tear 32 = .ok (.iconst 1, 1) := by decide +kernel
theorem dX4_tear_33 : decode cX4_tear 33 = .ok (.ireturn, 1) := by decide +kernel
theorem dX4_copy_0 : decode cX4_copy 0 = .ok (.iload_n 1, 1) := by decide +kernel
theorem dX4_copy_1 : decode cX4_copy 1 = .ok (.invokestatic 83, 3) := by decide +kernel
theorem dX4_copy_4 : decode cX4_copy 4 = .ok (.ifCond .eq 10, 3) := by decide +kernel
theorem dX4_copy_7 : decode cX4_copy 7 = .ok (.iload_n 3, 1) := by decide +kernel
theorem dX4_copy_8 : decode cX4_copy 8 = .ok (.invokestatic 83, 3) := by decide +kernel
theorem dX4_copy_11 : decode cX4_copy 11 = .ok (.ifCond .ne 5, 3) := by decide +kernel
theorem dX4_copy_14 : decode cX4_copy 14 = .ok (.iconst (-1), 1) := by decide +kernel
theorem dX4_copy_15 : decode cX4_copy 15 = .ok (.ireturn, 1) := by decide +kernel
theorem dX4_copy_16 : decode cX4_copy 16 = .ok (.iload 5, 2) := by decide +kernel
theorem dX4_copy_18 : decode cX4_copy 18 = .ok (.ifCond .ge 9, 3) := by decide +kernel
theorem dX4_copy_21 : decode cX4_copy 21 = .ok (.aload_n 0, 1) := by decide +kernel
theorem dX4_copy_22 : decode cX4_copy 22 = .ok (.iconst 5, 1) := by decide +kernel
theorem dX4_copy_23 : decode cX4_copy 23 = .ok (.invokevirtual 87, 3) := by decide +kernel
theorem dX4_copy_26 : decode cX4_copy 26 = .ok (.ireturn, 1) := by decide +kernel
theorem dX4_copy_27 : decode cX4_copy 27 = .ok (.aload_n 0, 1) := by decide +kernel
theorem dX4_copy_28 : decode cX4_copy 28 = .ok (.getfield 14, 3) := by decide +kernel
theorem dX4_copy_31 : decode cX4_copy 31 = .ok (.iload_n 1, 1) := by decide +kernel
theorem dX4_copy_32 : decode cX4_copy 32 = .ok (.iaload, 1) := by decide +kernel
theorem dX4_copy_33 : decode cX4_copy 33 = .ok (.iconst (-1), 1) := by decide +kernel
theorem dX4_copy_34 : decode cX4_copy 34 = .ok (.if_icmp .eq 13, 3) := by decide +kernel
theorem dX4_copy_37 : decode cX4_copy 37 = .ok (.aload_n 0, 1) := by decide +kernel
theorem dX4_copy_38 : decode cX4_copy 38 = .ok (.getfield 14, 3) := by decide +kernel
theorem dX4_copy_41 : decode cX4_copy 41 = .ok (.iload_n 3, 1) := by decide +kernel
theorem dX4_copy_42 : decode cX4_copy 42 = .ok (.iaload, 1) := by decide +kernel
theorem dX4_copy_43 : decode cX4_copy 43 = .ok (.iconst (-1), 1) := by decide +kernel
theorem dX4_copy_44 : decode cX4_copy 44 = .ok (.if_icmp .ne 9, 3) := by decide +kernel
theorem dX4_copy_47 : decode cX4_copy 47 = .ok (.aload_n 0, 1) := by decide +kernel
theorem dX4_copy_48 : decode cX4_copy 48 = .ok (.iconst 1, 1) := by decide +kernel
theorem dX4_copy_49 : decode cX4_copy 49 = .ok (.invokevirtual 87, 3) := by decide +kernel
theorem dX4_copy_52 : decode cX4_copy 52 = .ok (.ireturn, 1) := by decide +kernel
theorem dX4_copy_53 : decode cX4_copy 53 = .ok (.aload_n 0, 1) := by decide +kernel
theorem dX4_copy_54 : decode cX4_copy 54 = .ok (.getfield 14, 3) := by decide +kernel
theorem dX4_copy_57 : decode cX4_copy 57 = .ok (.iload_n 1, 1) := by decide +kernel
theorem dX4_copy_58 : decode cX4_copy 58 = .ok (.iaload, 1) := by decide +kernel
theorem dX4_copy_59 : decode cX4_copy 59 = .ok (.iload_n 2, 1) := by decide +kernel
theorem dX4_copy_60 : decode cX4_copy 60 = .ok (.iload 5, 2) := by decide +kernel
theorem dX4_copy_62 : decode cX4_copy 62 = .ok (.invokestatic 94, 3) := by decide +kernel
theorem dX4_copy_65 : decode cX4_copy 65 = .ok (.ifCond .eq 19, 3) := by decide +kernel
theorem dX4_copy_68 : decode cX4_copy 68 = .ok (.aload_n 0, 1) := by decide +kernel
theorem dX4_copy_69 : decode cX4_copy 69 = .ok (.getfield 14, 3) := by decide +kernel
theorem dX4_copy_72 : decode cX4_copy 72 = .ok (.iload_n 3, 1) := by decide +kernel
theorem dX4_copy_73 : decode cX4_copy 73 = .ok (.iaload, 1) := by decide +kernel
theorem dX4_copy_74 : decode cX4_copy 74 = .ok (.iload 4, 2) := by decide +kernel
theorem dX4_copy_76 : decode cX4_copy 76 = .ok (.iload 5, 2) := by decide +kernel
theorem dX4_copy_78 : decode cX4_copy 78 = .ok (.invokestatic 94, 3) := by decide +kernel
theorem dX4_copy_81 : decode cX4_copy 81 = .ok (.ifCond .ne 9, 3) := by decide +kernel
theorem dX4_copy_84 : decode cX4_copy 84 = .ok (.aload_n 0, 1) := by decide +kernel
theorem dX4_copy_85 : decode cX4_copy 85 = .ok (.iconst 2, 1) := by decide +kernel
theorem dX4_copy_86 : decode cX4_copy 86 = .ok (.invokevirtual 87, 3) := by decide +kernel
theorem dX4_copy_89 : decode cX4_copy 89 = .ok (.ireturn, 1) := by decide +kernel
theorem dX4_copy_90 : decode cX4_copy 90 = .ok (.aload_n 0, 1) := by decide +kernel
theorem dX4_copy_91 : decode cX4_copy 91 = .ok (.getfield 11, 3) := by decide +kernel
theorem dX4_copy_94 : decode cX4_copy 94 = .ok (.iload_n 1, 1) := by decide +kernel
theorem dX4_copy_95 : decode cX4_copy 95 = .ok (.aaload, 1) := by decide +kernel
theorem dX4_copy_96 : decode cX4_copy 96 = .ok (.iload_n 2, 1) := by decide +kernel
theorem dX4_copy_97 : decode cX4_copy 97 = .ok (.aload_n 0, 1) := by decide +kernel
theorem dX4_copy_98 : decode cX4_copy 98 = .ok (.getfield 11, 3) := by decide +kernel
theorem dX4_copy_101 : decode cX4_copy 101 = .ok (.iload_n 3, 1) := by decide +kernel
theorem dX4_copy_102 : decode cX4_copy 102 = .ok (.aaload, 1) := by decide +kernel
theorem dX4_copy_103 : decode cX4_copy 103 = .ok (.iload 4, 2) := by decide +kernel
theorem dX4_copy_105 : decode cX4_copy 105 = .ok (.iload 5, 2) := by decide +kernel
theorem dX4_copy_107 : decode cX4_copy 107 = .ok (.invokestatic 98, 3) := by decide +kernel
theorem dX4_copy_110 : decode cX4_copy 110 = .ok (.iconst 1, 1) := by decide +kernel
theorem dX4_copy_111 : decode cX4_copy 111 = .ok (.ireturn, 1) := by decide +kernel
theorem dX4_mean_0 : decode cX4_mean 0 = .ok (.iload_n 1, 1) := by decide +kernel
theorem dX4_mean_1 : decode cX4_mean 1 = .ok (.invokestatic 83, 3) := by decide +kernel
theorem dX4_mean_4 : decode cX4_mean 4 = .ok (.ifCond .ne 5, 3) := by decide +kernel
theorem dX4_mean_7 : decode cX4_mean 7 = .ok (.iconst (-1), 1) := by decide +kernel
theorem dX4_mean_8 : decode cX4_mean 8 = .ok (.ireturn, 1) := by decide +kernel
theorem dX4_mean_9 : decode cX4_mean 9 = .ok (.aload_n 0, 1) := by decide +kernel
theorem dX4_mean_10 : decode cX4_mean 10 = .ok (.getfield 14, 3) := by decide +kernel
theorem dX4_mean_13 : decode cX4_mean 13 = .ok (.iload_n 1, 1) := by decide +kernel
theorem dX4_mean_14 : decode cX4_mean 14 = .ok (.iaload, 1) := by decide +kernel
theorem dX4_mean_15 : decode cX4_mean 15 = .ok (.istore_n 2, 1) := by decide +kernel
theorem dX4_mean_16 : decode cX4_mean 16 = .ok (.iload_n 2, 1) := by decide +kernel
theorem dX4_mean_17 : decode cX4_mean 17 = .ok (.iconst (-1), 1) := by decide +kernel
theorem dX4_mean_18 : decode cX4_mean 18 = .ok (.if_icmp .ne 9, 3) := by decide +kernel
theorem dX4_mean_21 : decode cX4_mean 21 = .ok (.aload_n 0, 1) := by decide +kernel
theorem dX4_mean_22 : decode cX4_mean 22 = .ok (.iconst 1, 1) := by decide +kernel
theorem dX4_mean_23 : decode cX4_mean 23 = .ok (.invokevirtual 87, 3) := by decide +kernel
theorem dX4_mean_26 : decode cX4_mean 26 = .ok (.ireturn, 1) := by decide +kernel
theorem dX4_mean_27 : decode cX4_mean 27 = .ok (.iload_n 2, 1) := by decide +kernel
theorem dX4_mean_28 : decode cX4_mean 28 = .ok (.ifCond .ne 9, 3) := by decide +kernel
theorem dX4_mean_31 : decode cX4_mean 31 = .ok (.aload_n 0, 1) := by decide +kernel
theorem dX4_mean_32 : decode cX4_mean 32 = .ok (.iconst 4, 1) := by decide +kernel
theorem dX4_mean_33 : decode cX4_mean 33 = .ok (.invokevirtual 87, 3) := by decide +kernel
theorem dX4_mean_36 : decode cX4_mean 36 = .ok (.ireturn, 1) := by decide +kernel
theorem dX4_mean_37 : decode cX4_mean 37 = .ok (.lconst 0, 1) := by decide +kernel
theorem dX4_mean_38 : decode cX4_mean 38 = .ok (.lstore_n 3, 1) := by decide +kernel
theorem dX4_mean_39 : decode cX4_mean 39 = .ok (.iconst 0, 1) := by decide +kernel
theorem dX4_mean_40 : decode cX4_mean 40 = .ok (.istore 5, 2) := by decide +kernel
theorem dX4_mean_42 : decode cX4_mean 42 = .ok (.iload 5, 2) := by decide +kernel
theorem dX4_mean_44 : decode cX4_mean 44 = .ok (.iload_n 2, 1) := by decide +kernel
theorem dX4_mean_45 : decode cX4_mean 45 = .ok (.if_icmp .ge 22, 3) := by decide +kernel
theorem dX4_mean_48 : decode cX4_mean 48 = .ok (.lload_n 3, 1) := by decide +kernel
theorem dX4_mean_49 : decode cX4_mean 49 = .ok (.aload_n 0, 1) := by decide +kernel
theorem dX4_mean_50 : decode cX4_mean 50 = .ok (.getfield 11, 3) := by decide +kernel
theorem dX4_mean_53 : decode cX4_mean 53 = .ok (.iload_n 1, 1) := by decide +kernel
theorem dX4_mean_54 : decode cX4_mean 54 = .ok (.aaload, 1) := by decide +kernel
theorem dX4_mean_55 : decode cX4_mean 55 = .ok (.iload 5, 2) := by decide +kernel
theorem dX4_mean_57 : decode cX4_mean 57 = .ok (.iaload, 1) := by decide +kernel
theorem dX4_mean_58 : decode cX4_mean 58 = .ok (.i2l, 1) := by decide +kernel
theorem dX4_mean_59 : decode cX4_mean 59 = .ok (.ladd, 1) := by decide +kernel
theorem dX4_mean_60 : decode cX4_mean 60 = .ok (.lstore_n 3, 1) := by decide +kernel
theorem dX4_mean_61 : decode cX4_mean 61 = .ok (.iinc 5 1, 3) := by decide +kernel
theorem dX4_mean_64 : decode cX4_mean 64 = .ok (.goto (-22), 3) := by decide +kernel
theorem dX4_mean_67 : decode cX4_mean 67 = .ok (.aload_n 0, 1) := by decide +kernel
theorem dX4_mean_68 : decode cX4_mean 68 = .ok (.lload_n 3, 1) := by decide +kernel
theorem dX4_mean_69 : decode cX4_mean 69 = .ok (.iload_n 2, 1) := by decide +kernel
theorem dX4_mean_70 : decode cX4_mean 70 = .ok (.i2l, 1) := by decide +kernel
theorem dX4_mean_71 : decode cX4_mean 71 = .ok (.ldiv, 1) := by decide +kernel
theorem dX4_mean_72 : decode cX4_mean 72 = .ok (.l2i, 1) := by decide +kernel
theorem dX4_mean_73 : decode cX4_mean 73 = .ok (.invokevirtual 91, 3) := by decide +kernel
theorem dX4_mean_76 : decode cX4_mean 76 = .ok (.ireturn, 1) := by decide +kernel
theorem dX4_text_0 : decode cX4_text 0 = .ok (.iload_n 1, 1) := by decide +kernel
theorem dX4_text_1 : decode cX4_text 1 = .ok (.invokestatic 104, 3) := by decide +kernel
theorem dX4_text_4 : decode cX4_text 4 = .ok (.ifCond .eq 9, 3) := by decide +kernel
theorem dX4_text_7 : decode cX4_text 7 = .ok (.iload_n 2, 1) := by decide +kernel
theorem dX4_text_8 : decode cX4_text 8 = .ok (.bipush 60, 2) := by decide +kernel
theorem dX4_text_10 : decode cX4_text 10 = .ok (.if_icmp .le 5, 3) := by decide +kernel
theorem dX4_text_13 : decode cX4_text 13 = .ok (.iconst (-1), 1) := by decide +kernel
theorem dX4_text_14 : decode cX4_text 14 = .ok (.ireturn, 1) := by decide +kernel
theorem dX4_text_15 : decode cX4_text 15 = .ok (.iload_n 2, 1) := by decide +kernel
theorem dX4_text_16 : decode cX4_text 16 = .ok (.ifCond .ge 9, 3) := by decide +kernel
theorem dX4_text_19 : decode cX4_text 19 = .ok (.aload_n 0, 1) := by decide +kernel
theorem dX4_text_20 : decode cX4_text 20 = .ok (.iconst 5, 1) := by decide +kernel
theorem dX4_text_21 : decode cX4_text 21 = .ok (.invokevirtual 87, 3) := by decide +kernel
theorem dX4_text_24 : decode cX4_text 24 = .ok (.ireturn, 1) := by decide +kernel
theorem dX4_text_25 : decode cX4_text 25 = .ok (.aload_n 0, 1) := by decide +kernel
theorem dX4_text_26 : decode cX4_text 26 = .ok (.getfield 20, 3) := by decide +kernel
theorem dX4_text_29 : decode cX4_text 29 = .ok (.iload_n 1, 1) := by decide +kernel
theorem dX4_text_30 : decode cX4_text 30 = .ok (.aaload, 1) := by decide +kernel
theorem dX4_text_31 : decode cX4_text 31 = .ok (.bipush 32, 2) := by decide +kernel
theorem dX4_text_33 : decode cX4_text 33 = .ok (.invokestatic 107, 3) := by decide +kernel
theorem dX4_text_36 : decode cX4_text 36 = .ok (.aload_n 0, 1) := by decide +kernel
theorem dX4_text_37 : decode cX4_text 37 = .ok (.getfield 23, 3) := by decide +kernel
theorem dX4_text_40 : decode cX4_text 40 = .ok (.iload_n 1, 1) := by decide +kernel
theorem dX4_text_41 : decode cX4_text 41 = .ok (.iload_n 2, 1) := by decide +kernel
theorem dX4_text_42 : decode cX4_text 42 = .ok (.iastore, 1) := by decide +kernel
theorem dX4_text_43 : decode cX4_text 43 = .ok (.iload_n 2, 1) := by decide +kernel
theorem dX4_text_44 : decode cX4_text 44 = .ok (.ireturn, 1) := by decide +kernel
theorem dX4_put_0 : decode cX4_put 0 = .ok (.iload_n 1, 1) := by decide +kernel
theorem dX4_put_1 : decode cX4_put 1 = .ok (.invokestatic 104, 3) := by decide +kernel
theorem dX4_put_4 : decode cX4_put 4 = .ok (.ifCond .ne 5, 3) := by decide +kernel
theorem dX4_put_7 : decode cX4_put 7 = .ok (.iconst (-1), 1) := by decide +kernel
theorem dX4_put_8 : decode cX4_put 8 = .ok (.ireturn, 1) := by decide +kernel
theorem dX4_put_9 : decode cX4_put 9 = .ok (.aload_n 0, 1) := by decide +kernel
theorem dX4_put_10 : decode cX4_put 10 = .ok (.getfield 23, 3) := by decide +kernel
theorem dX4_put_13 : decode cX4_put 13 = .ok (.iload_n 1, 1) := by decide +kernel
theorem dX4_put_14 : decode cX4_put 14 = .ok (.iaload, 1) := by decide +kernel
theorem dX4_put_15 : decode cX4_put 15 = .ok (.iconst (-1), 1) := by decide +kernel
theorem dX4_put_16 : decode cX4_put 16 = .ok (.if_icmp .ne 9, 3) := by decide +kernel
theorem dX4_put_19 : decode cX4_put 19 = .ok (.aload_n 0, 1) := by decide +kernel
theorem dX4_put_20 : decode cX4_put 20 = .ok (.iconst 1, 1) := by decide +kernel
theorem dX4_put_21 : decode cX4_put 21 = .ok (.invokevirtual 87, 3) := by decide +kernel
theorem dX4_put_24 : decode cX4_put 24 = .ok (.ireturn, 1) := by decide +kernel
theorem dX4_put_25 : decode cX4_put 25 = .ok (.iload_n 2, 1) := by decide +kernel
theorem dX4_put_26 : decode cX4_put 26 = .ok (.ifCond .lt 13, 3) := by decide +kernel
theorem dX4_put_29 : decode cX4_put 29 = .ok (.iload_n 2, 1) := by decide +kernel
theorem dX4_put_30 : decode cX4_put 30 = .ok (.aload_n 0, 1) := by decide +kernel
theorem dX4_put_31 : decode cX4_put 31 = .ok (.getfield 23, 3) := by decide +kernel
theorem dX4_put_34 : decode cX4_put 34 = .ok (.iload_n 1, 1) := by decide +kernel
theorem dX4_put_35 : decode cX4_put 35 = .ok (.iaload, 1) := by decide +kernel
theorem dX4_put_36 : decode cX4_put 36 = .ok (.if_icmp .lt 9, 3) := by decide +kernel
theorem dX4_put_39 : decode cX4_put 39 = .ok (.aload_n 0, 1) := by decide +kernel
theorem dX4_put_40 : decode cX4_put 40 = .ok (.iconst 2, 1) := by decide +kernel
theorem dX4_put_41 : decode cX4_put 41 = .ok (.invokevirtual 87, 3) := by decide +kernel
theorem dX4_put_44 : decode cX4_put 44 = .ok (.ireturn, 1) := by decide +kernel
theorem dX4_put_45 : decode cX4_put 45 = .ok (.aload_n 0, 1) := by decide +kernel
theorem dX4_put_46 : decode cX4_put 46 = .ok (.getfield 20, 3) := by decide +kernel
theorem dX4_put_49 : decode cX4_put 49 = .ok (.iload_n 1, 1) := by decide +kernel
theorem dX4_put_50 : decode cX4_put 50 = .ok (.aaload, 1) := by decide +kernel
theorem dX4_put_51 : decode cX4_put 51 = .ok (.iload_n 2, 1) := by decide +kernel
theorem dX4_put_52 : decode cX4_put 52 = .ok (.baload, 1) := by decide +kernel
theorem dX4_put_53 : decode cX4_put 53 = .ok (.istore 4, 2) := by decide +kernel
theorem dX4_put_55 : decode cX4_put 55 = .ok (.aload_n 0, 1) := by decide +kernel
theorem dX4_put_56 : decode cX4_put 56 = .ok (.getfield 20, 3) := by decide +kernel
theorem dX4_put_59 : decode cX4_put 59 = .ok (.iload_n 1, 1) := by decide +kernel
theorem dX4_put_60 : decode cX4_put 60 = .ok (.aaload, 1) := by decide +kernel
theorem dX4_put_61 : decode cX4_put 61 = .ok (.iload_n 2, 1) := by decide +kernel
theorem dX4_put_62 : decode cX4_put 62 = .ok (.iload_n 3, 1) := by decide +kernel
theorem dX4_put_63 : decode cX4_put 63 = .ok (.i2b, 1) := by decide +kernel
theorem dX4_put_64 : decode cX4_put 64 = .ok (.bastore, 1) := by decide +kernel
theorem dX4_put_65 : decode cX4_put 65 = .ok (.iload 4, 2) := by decide +kernel
theorem dX4_put_67 : decode cX4_put 67 = .ok (.sipush 1000, 3) := by decide +kernel
theorem dX4_put_70 : decode cX4_put 70 = .ok (.iadd, 1) := by decide +kernel
theorem dX4_put_71 : decode cX4_put 71 = .ok (.ireturn, 1) := by decide +kernel
theorem dX4_fault_0 : decode cX4_fault 0 = .ok (.iload_n 1, 1) := by decide +kernel
theorem dX4_fault_1 : decode cX4_fault 1 = .ok (.invokestatic 104, 3) := by decide +kernel
theorem dX4_fault_4 : decode cX4_fault 4 = .ok (.ifCond .ne 5, 3) := by decide +kernel
theorem dX4_fault_7 : decode cX4_fault 7 = .ok (.iconst (-1), 1) := by decide +kernel
theorem dX4_fault_8 : decode cX4_fault 8 = .ok (.ireturn, 1) := by decide +kernel
theorem dX4_fault_9 : decode cX4_fault 9 = .ok (.aload_n 0, 1) := by decide +kernel
theorem dX4_fault_10 : decode cX4_fault 10 = .ok (.getfield 23, 3) := by decide +kernel
theorem dX4_fault_13 : decode cX4_fault 13 = .ok (.iload_n 1, 1) := by decide +kernel
theorem dX4_fault_14 : decode cX4_fault 14 = .ok (.iaload, 1) := by decide +kernel
theorem dX4_fault_15 : decode cX4_fault 15 = .ok (.iconst (-1), 1) := by decide +kernel
theorem dX4_fault_16 : decode cX4_fault 16 = .ok (.if_icmp .ne 9, 3) := by decide +kernel
theorem dX4_fault_19 : decode cX4_fault 19 = .ok (.aload_n 0, 1) := by decide +kernel
theorem dX4_fault_20 : decode cX4_fault 20 = .ok (.iconst 1, 1) := by decide +kernel
theorem dX4_fault_21 : decode cX4_fault 21 = .ok (.invokevirtual 87, 3) := by decide +kernel
theorem dX4_fault_24 : decode cX4_fault 24 = .ok (.ireturn, 1) := by decide +kernel
theorem dX4_fault_25 : decode cX4_fault 25 = .ok (.aload_n 0, 1) := by decide +kernel
theorem dX4_fault_26 : decode cX4_fault 26 = .ok (.getfield 35, 3) := by decide +kernel
theorem dX4_fault_29 : decode cX4_fault 29 = .ok (.aload_n 0, 1) := by decide +kernel
theorem dX4_fault_30 : decode cX4_fault 30 = .ok (.getfield 20, 3) := by decide +kernel
theorem dX4_fault_33 : decode cX4_fault 33 = .ok (.iload_n 1, 1) := by decide +kernel
theorem dX4_fault_34 : decode cX4_fault 34 = .ok (.aaload, 1) := by decide +kernel
theorem dX4_fault_35 : decode cX4_fault 35 = .ok (.aload_n 0, 1) := by decide +kernel
theorem dX4_fault_36 : decode cX4_fault 36 = .ok (.getfield 23, 3) := by decide +kernel
theorem dX4_fault_39 : decode cX4_fault 39 = .ok (.iload_n 1, 1) := by decide +kernel
theorem dX4_fault_40 : decode cX4_fault 40 = .ok (.iaload, 1) := by decide +kernel
theorem dX4_fault_41 : decode cX4_fault 41 = .ok (.invokevirtual 110, 3) := by decide +kernel
theorem dX4_fault_44 : decode cX4_fault 44 = .ok (.ireturn, 1) := by decide +kernel
theorem dX4_canal_0 : decode cX4_canal 0 = .ok (.iload_n 1, 1) := by decide +kernel
theorem dX4_canal_1 : decode cX4_canal 1 = .ok (.invokestatic 104, 3) := by decide +kernel
theorem dX4_canal_4 : decode cX4_canal 4 = .ok (.ifCond .ne 5, 3) := by decide +kernel
theorem dX4_canal_7 : decode cX4_canal 7 = .ok (.iconst (-1), 1) := by decide +kernel
theorem dX4_canal_8 : decode cX4_canal 8 = .ok (.ireturn, 1) := by decide +kernel
theorem dX4_canal_9 : decode cX4_canal 9 = .ok (.aload_n 0, 1) := by decide +kernel
theorem dX4_canal_10 : decode cX4_canal 10 = .ok (.getfield 23, 3) := by decide +kernel
theorem dX4_canal_13 : decode cX4_canal 13 = .ok (.iload_n 1, 1) := by decide +kernel
theorem dX4_canal_14 : decode cX4_canal 14 = .ok (.iaload, 1) := by decide +kernel
theorem dX4_canal_15 : decode cX4_canal 15 = .ok (.iconst (-1), 1) := by decide +kernel
theorem dX4_canal_16 : decode cX4_canal 16 = .ok (.if_icmp .ne 9, 3) := by decide +kernel
theorem dX4_canal_19 : decode cX4_canal 19 = .ok (.aload_n 0, 1) := by decide +kernel
theorem dX4_canal_20 : decode cX4_canal 20 = .ok (.iconst 1, 1) := by decide +kernel
theorem dX4_canal_21 : decode cX4_canal 21 = .ok (.invokevirtual 87, 3) := by decide +kernel
theorem dX4_canal_24 : decode cX4_canal 24 = .ok (.ireturn, 1) := by decide +kernel
theorem dX4_canal_25 : decode cX4_canal 25 = .ok (.aload_n 0, 1) := by decide +kernel
theorem dX4_canal_26 : decode cX4_canal 26 = .ok (.getfield 35, 3) := by decide +kernel
theorem dX4_canal_29 : decode cX4_canal 29 = .ok (.aload_n 0, 1) := by decide +kernel
theorem dX4_canal_30 : decode cX4_canal 30 = .ok (.getfield 20, 3) := by decide +kernel
theorem dX4_canal_33 : decode cX4_canal 33 = .ok (.iload_n 1, 1) := by decide +kernel
theorem dX4_canal_34 : decode cX4_canal 34 = .ok (.aaload, 1) := by decide +kernel
theorem dX4_canal_35 : decode cX4_canal 35 = .ok (.aload_n 0, 1) := by decide +kernel
theorem dX4_canal_36 : decode cX4_canal 36 = .ok (.getfield 23, 3) := by decide +kernel
theorem dX4_canal_39 : decode cX4_canal 39 = .ok (.iload_n 1, 1) := by decide +kernel
theorem dX4_canal_40 : decode cX4_canal 40 = .ok (.iaload, 1) := by decide +kernel
theorem dX4_canal_41 : decode cX4_canal 41 = .ok (.invokevirtual 110, 3) := by decide +kernel
theorem dX4_canal_44 : decode cX4_canal 44 = .ok (.bipush (-9), 2) := by decide +kernel
theorem dX4_canal_46 : decode cX4_canal 46 = .ok (.if_icmp .eq 6, 3) := by decide +kernel
theorem dX4_canal_49 : decode cX4_canal 49 = .ok (.bipush (-4), 2) := by decide +kernel
theorem dX4_canal_51 : decode cX4_canal 51 = .ok (.ireturn, 1) := by decide +kernel
theorem dX4_canal_52 : decode cX4_canal 52 = .ok (.aload_n 0, 1) := by decide +kernel
theorem dX4_canal_53 : decode cX4_canal 53 = .ok (.getfield 42, 3) := by decide +kernel
theorem dX4_canal_56 : decode cX4_canal 56 = .ok (.aload_n 0, 1) := by decide +kernel
theorem dX4_canal_57 : decode cX4_canal 57 = .ok (.getfield 35, 3) := by decide +kernel
theorem dX4_canal_60 : decode cX4_canal 60 = .ok (.invokevirtual 114, 3) := by decide +kernel
theorem dX4_canal_63 : decode cX4_canal 63 = .ok (.aload_n 0, 1) := by decide +kernel
theorem dX4_canal_64 : decode cX4_canal 64 = .ok (.getfield 29, 3) := by decide +kernel
theorem dX4_canal_67 : decode cX4_canal 67 = .ok (.iconst (-1), 1) := by decide +kernel
theorem dX4_canal_68 : decode cX4_canal 68 = .ok (.invokestatic 77, 3) := by decide +kernel
theorem dX4_canal_71 : decode cX4_canal 71 = .ok (.aload_n 0, 1) := by decide +kernel
theorem dX4_canal_72 : decode cX4_canal 72 = .ok (.getfield 42, 3) := by decide +kernel
theorem dX4_canal_75 : decode cX4_canal 75 = .ok (.getfield 118, 3) := by decide +kernel
theorem dX4_canal_78 : decode cX4_canal 78 = .ok (.ireturn, 1) := by decide +kernel
theorem dX4_thing_0 : decode cX4_thing 0 = .ok (.aload_n 0, 1) := by decide +kernel
theorem dX4_thing_1 : decode cX4_thing 1 = .ok (.getfield 42, 3) := by decide +kernel
theorem dX4_thing_4 : decode cX4_thing 4 = .ok (.iload_n 1, 1) := by decide +kernel
theorem dX4_thing_5 : decode cX4_thing 5 = .ok (.invokevirtual 121, 3) := by decide +kernel
theorem dX4_thing_8 : decode cX4_thing 8 = .ok (.ifCond .eq 12, 3) := by decide +kernel
theorem dX4_thing_11 : decode cX4_thing 11 = .ok (.iload_n 2, 1) := by decide +kernel
theorem dX4_thing_12 : decode cX4_thing 12 = .ok (.ifCond .lt 8, 3) := by decide +kernel
theorem dX4_thing_15 : decode cX4_thing 15 = .ok (.iload_n 2, 1) := by decide +kernel
theorem dX4_thing_16 : decode cX4_thing 16 = .ok (.iconst 5, 1) := by decide +kernel
theorem dX4_thing_17 : decode cX4_thing 17 = .ok (.if_icmp .lt 5, 3) := by decide +kernel
theorem dX4_thing_20 : decode cX4_thing 20 = .ok (.iconst (-1), 1) := by decide +kernel
theorem dX4_thing_21 : decode cX4_thing 21 = .ok (.ireturn, 1) := by decide +kernel
theorem dX4_thing_22 : decode cX4_thing 22 = .ok (.aload_n 0, 1) := by decide +kernel
theorem dX4_thing_23 : decode cX4_thing 23 = .ok (.aload_n 0, 1) := by decide +kernel
theorem dX4_thing_24 : decode cX4_thing 24 = .ok (.getfield 42, 3) := by decide +kernel
theorem dX4_thing_27 : decode cX4_thing 27 = .ok (.iload_n 1, 1) := by decide +kernel
theorem dX4_thing_28 : decode cX4_thing 28 = .ok (.iload_n 2, 1) := by decide +kernel
theorem dX4_thing_29 : decode cX4_thing 29 = .ok (.invokevirtual 124, 3) := by decide +kernel
theorem dX4_thing_32 : decode cX4_thing 32 = .ok (.invokevirtual 91, 3) := by decide +kernel
theorem dX4_thing_35 : decode cX4_thing 35 = .ok (.ireturn, 1) := by decide +kernel
theorem dX4_mark_0 : decode cX4_mark 0 = .ok (.aload_n 0, 1) := by decide +kernel
theorem dX4_mark_1 : decode cX4_mark 1 = .ok (.getfield 42, 3) := by decide +kernel
theorem dX4_mark_4 : decode cX4_mark 4 = .ok (.iload_n 1, 1) := by decide +kernel
theorem dX4_mark_5 : decode cX4_mark 5 = .ok (.invokevirtual 121, 3) := by decide +kernel
theorem dX4_mark_8 : decode cX4_mark 8 = .ok (.ifCond .eq 13, 3) := by decide +kernel
theorem dX4_mark_11 : decode cX4_mark 11 = .ok (.iload_n 2, 1) := by decide +kernel
theorem dX4_mark_12 : decode cX4_mark 12 = .ok (.ifCond .le 9, 3) := by decide +kernel
theorem dX4_mark_15 : decode cX4_mark 15 = .ok (.iload_n 2, 1) := by decide +kernel
theorem dX4_mark_16 : decode cX4_mark 16 = .ok (.bipush 6, 2) := by decide +kernel
theorem dX4_mark_18 : decode cX4_mark 18 = .ok (.if_icmp .lt 5, 3) := by decide +kernel
theorem dX4_mark_21 : decode cX4_mark 21 = .ok (.iconst (-1), 1) := by decide +kernel
theorem dX4_mark_22 : decode cX4_mark 22 = .ok (.ireturn, 1) := by decide +kernel
theorem dX4_mark_23 : decode cX4_mark 23 = .ok (.aload_n 0, 1) := by decide +kernel
theorem dX4_mark_24 : decode cX4_mark 24 = .ok (.getfield 42, 3) := by decide +kernel
theorem dX4_mark_27 : decode cX4_mark 27 = .ok (.getfield 128, 3) := by decide +kernel
theorem dX4_mark_30 : decode cX4_mark 30 = .ok (.iload_n 1, 1) := by decide +kernel
theorem dX4_mark_31 : decode cX4_mark 31 = .ok (.iaload, 1) := by decide +kernel
theorem dX4_mark_32 : decode cX4_mark 32 = .ok (.iload_n 2, 1) := by decide +kernel
theorem dX4_mark_33 : decode cX4_mark 33 = .ok (.invokestatic 131, 3) := by decide +kernel
theorem dX4_mark_36 : decode cX4_mark 36 = .ok (.ifCond .ne 9, 3) := by decide +kernel
theorem dX4_mark_39 : decode cX4_mark 39 = .ok (.aload_n 0, 1) := by decide +kernel
theorem dX4_mark_40 : decode cX4_mark 40 = .ok (.iconst 3, 1) := by decide +kernel
theorem dX4_mark_41 : decode cX4_mark 41 = .ok (.invokevirtual 87, 3) := by decide +kernel
theorem dX4_mark_44 : decode cX4_mark 44 = .ok (.ireturn, 1) := by decide +kernel
theorem dX4_mark_45 : decode cX4_mark 45 = .ok (.aload_n 0, 1) := by decide +kernel
theorem dX4_mark_46 : decode cX4_mark 46 = .ok (.getfield 42, 3) := by decide +kernel
theorem dX4_mark_49 : decode cX4_mark 49 = .ok (.iload_n 1, 1) := by decide +kernel
theorem dX4_mark_50 : decode cX4_mark 50 = .ok (.iload_n 2, 1) := by decide +kernel
theorem dX4_mark_51 : decode cX4_mark 51 = .ok (.invokevirtual 135, 3) := by decide +kernel
theorem dX4_mark_54 : decode cX4_mark 54 = .ok (.ireturn, 1) := by decide +kernel
theorem dX4_cell_0 : decode cX4_cell 0 = .ok (.iload_n 1, 1) := by decide +kernel
theorem dX4_cell_1 : decode cX4_cell 1 = .ok (.invokestatic 138, 3) := by decide +kernel
theorem dX4_cell_4 : decode cX4_cell 4 = .ok (.ifCond .ne 5, 3) := by decide +kernel
theorem dX4_cell_7 : decode cX4_cell 7 = .ok (.iconst (-1), 1) := by decide +kernel
theorem dX4_cell_8 : decode cX4_cell 8 = .ok (.ireturn, 1) := by decide +kernel
theorem dX4_cell_9 : decode cX4_cell 9 = .ok (.aload_n 0, 1) := by decide +kernel
theorem dX4_cell_10 : decode cX4_cell 10 = .ok (.getfield 42, 3) := by decide +kernel
theorem dX4_cell_13 : decode cX4_cell 13 = .ok (.iload_n 1, 1) := by decide +kernel
theorem dX4_cell_14 : decode cX4_cell 14 = .ok (.invokevirtual 141, 3) := by decide +kernel
theorem dX4_cell_17 : decode cX4_cell 17 = .ok (.ireturn, 1) := by decide +kernel
theorem dX4_year_0 : decode cX4_year 0 = .ok (.aload_n 0, 1) := by decide +kernel
theorem dX4_year_1 : decode cX4_year 1 = .ok (.getfield 42, 3) := by decide +kernel
theorem dX4_year_4 : decode cX4_year 4 = .ok (.getfield 118, 3) := by decide +kernel
theorem dX4_year_7 : decode cX4_year 7 = .ok (.ifCond .ne 6, 3) := by decide +kernel
theorem dX4_year_10 : decode cX4_year 10 = .ok (.bipush (-4), 2) := by decide +kernel
theorem dX4_year_12 : decode cX4_year 12 = .ok (.ireturn, 1) := by decide +kernel
theorem dX4_year_13 : decode cX4_year 13 = .ok (.aload_n 0, 1) := by decide +kernel
theorem dX4_year_14 : decode cX4_year 14 = .ok (.getfield 42, 3) := by decide +kernel
theorem dX4_year_17 : decode cX4_year 17 = .ok (.getfield 144, 3) := by decide +kernel
theorem dX4_year_20 : decode cX4_year 20 = .ok (.bipush 40, 2) := by decide +kernel
theorem dX4_year_22 : decode cX4_year 22 = .ok (.if_icmp .lt 6, 3) := by decide +kernel
theorem dX4_year_25 : decode cX4_year 25 = .ok (.bipush (-2), 2) := by decide +kernel
theorem dX4_year_27 : decode cX4_year 27 = .ok (.ireturn, 1) := by decide +kernel
theorem dX4_year_28 : decode cX4_year 28 = .ok (.aload_n 0, 1) := by decide +kernel
theorem dX4_year_29 : decode cX4_year 29 = .ok (.getfield 42, 3) := by decide +kernel
theorem dX4_year_32 : decode cX4_year 32 = .ok (.iconst 0, 1) := by decide +kernel
theorem dX4_year_33 : decode cX4_year 33 = .ok (.iconst 0, 1) := by decide +kernel
theorem dX4_year_34 : decode cX4_year 34 = .ok (.invokevirtual 147, 3) := by decide +kernel
theorem dX4_year_37 : decode cX4_year 37 = .ok (.aload_n 0, 1) := by decide +kernel
theorem dX4_year_38 : decode cX4_year 38 = .ok (.getfield 42, 3) := by decide +kernel
theorem dX4_year_41 : decode cX4_year 41 = .ok (.getfield 151, 3) := by decide +kernel
theorem dX4_year_44 : decode cX4_year 44 = .ok (.ireturn, 1) := by decide +kernel
theorem dX4_paddle_0 : decode cX4_paddle 0 = .ok (.iload_n 1, 1) := by decide +kernel
theorem dX4_paddle_1 : decode cX4_paddle 1 = .ok (.ifCond .eq 10, 3) := by decide +kernel
theorem dX4_paddle_4 : decode cX4_paddle 4 = .ok (.iload_n 1, 1) := by decide +kernel
theorem dX4_paddle_5 : decode cX4_paddle 5 = .ok (.iconst 1, 1) := by decide +kernel
theorem dX4_paddle_6 : decode cX4_paddle 6 = .ok (.if_icmp .eq 5, 3) := by decide +kernel
theorem dX4_paddle_9 : decode cX4_paddle 9 = .ok (.iconst (-1), 1) := by decide +kernel
theorem dX4_paddle_10 : decode cX4_paddle 10 = .ok (.ireturn, 1) := by decide +kernel
theorem dX4_paddle_11 : decode cX4_paddle 11 = .ok (.aload_n 0, 1) := by decide +kernel
theorem dX4_paddle_12 : decode cX4_paddle 12 = .ok (.getfield 42, 3) := by decide +kernel
theorem dX4_paddle_15 : decode cX4_paddle 15 = .ok (.getfield 118, 3) := by decide +kernel
theorem dX4_paddle_18 : decode cX4_paddle 18 = .ok (.ifCond .ne 6, 3) := by decide +kernel
theorem dX4_paddle_21 : decode cX4_paddle 21 = .ok (.bipush (-4), 2) := by decide +kernel
theorem dX4_paddle_23 : decode cX4_paddle 23 = .ok (.ireturn, 1) := by decide +kernel
theorem dX4_paddle_24 : decode cX4_paddle 24 = .ok (.aload_n 0, 1) := by decide +kernel
theorem dX4_paddle_25 : decode cX4_paddle 25 = .ok (.getfield 42, 3) := by decide +kernel
theorem dX4_paddle_28 : decode cX4_paddle 28 = .ok (.getfield 144, 3) := by decide +kernel
theorem dX4_paddle_31 : decode cX4_paddle 31 = .ok (.bipush 40, 2) := by decide +kernel
theorem dX4_paddle_33 : decode cX4_paddle 33 = .ok (.if_icmp .lt 6, 3) := by decide +kernel
theorem dX4_paddle_36 : decode cX4_paddle 36 = .ok (.bipush (-2), 2) := by decide +kernel
theorem dX4_paddle_38 : decode cX4_paddle 38 = .ok (.ireturn, 1) := by decide +kernel
theorem dX4_paddle_39 : decode cX4_paddle 39 = .ok (.aload_n 0, 1) := by decide +kernel
theorem dX4_paddle_40 : decode cX4_paddle 40 = .ok (.getfield 42, 3) := by decide +kernel
theorem dX4_paddle_43 : decode cX4_paddle 43 = .ok (.iload_n 1, 1) := by decide +kernel
theorem dX4_paddle_44 : decode cX4_paddle 44 = .ok (.iconst 1, 1) := by decide +kernel
theorem dX4_paddle_45 : decode cX4_paddle 45 = .ok (.if_icmp .ne 7, 3) := by decide +kernel
theorem dX4_paddle_48 : decode cX4_paddle 48 = .ok (.iconst 2, 1) := by decide +kernel
theorem dX4_paddle_49 : decode cX4_paddle 49 = .ok (.goto 4, 3) := by decide +kernel
theorem dX4_paddle_52 : decode cX4_paddle 52 = .ok (.iconst 1, 1) := by decide +kernel
theorem dX4_paddle_53 : decode cX4_paddle 53 = .ok (.iconst 0, 1) := by decide +kernel
theorem dX4_paddle_54 : decode cX4_paddle 54 = .ok (.invokevirtual 147, 3) := by decide +kernel
theorem dX4_paddle_57 : decode cX4_paddle 57 = .ok (.aload_n 0, 1) := by decide +kernel
theorem dX4_paddle_58 : decode cX4_paddle 58 = .ok (.getfield 42, 3) := by decide +kernel
theorem dX4_paddle_61 : decode cX4_paddle 61 = .ok (.getfield 154, 3) := by decide +kernel
theorem dX4_paddle_64 : decode cX4_paddle 64 = .ok (.ireturn, 1) := by decide +kernel
theorem dX4_move_0 : decode cX4_move 0 = .ok (.aload_n 0, 1) := by decide +kernel
theorem dX4_move_1 : decode cX4_move 1 = .ok (.getfield 42, 3) := by decide +kernel
theorem dX4_move_4 : decode cX4_move 4 = .ok (.iload_n 1, 1) := by decide +kernel
theorem dX4_move_5 : decode cX4_move 5 = .ok (.invokevirtual 121, 3) := by decide +kernel
theorem dX4_move_8 : decode cX4_move 8 = .ok (.ifCond .eq 13, 3) := by decide +kernel
theorem dX4_move_11 : decode cX4_move 11 = .ok (.iload_n 2, 1) := by decide +kernel
theorem dX4_move_12 : decode cX4_move 12 = .ok (.iconst 1, 1) := by decide +kernel
theorem dX4_move_13 : decode cX4_move 13 = .ok (.if_icmp .eq 10, 3) := by decide +kernel
theorem dX4_move_16 : decode cX4_move 16 = .ok (.iload_n 2, 1) := by decide +kernel
theorem dX4_move_17 : decode cX4_move 17 = .ok (.iconst (-1), 1) := by decide +kernel
theorem dX4_move_18 : decode cX4_move 18 = .ok (.if_icmp .eq 5, 3) := by decide +kernel
theorem dX4_move_21 : decode cX4_move 21 = .ok (.iconst (-1), 1) := by decide +kernel
theorem dX4_move_22 : decode cX4_move 22 = .ok (.ireturn, 1) := by decide +kernel
theorem dX4_move_23 : decode cX4_move 23 = .ok (.aload_n 0, 1) := by decide +kernel
theorem dX4_move_24 : decode cX4_move 24 = .ok (.getfield 42, 3) := by decide +kernel
theorem dX4_move_27 : decode cX4_move 27 = .ok (.iload_n 1, 1) := by decide +kernel
theorem dX4_move_28 : decode cX4_move 28 = .ok (.iload_n 2, 1) := by decide +kernel
theorem dX4_move_29 : decode cX4_move 29 = .ok (.invokevirtual 157, 3) := by decide +kernel
theorem dX4_move_32 : decode cX4_move 32 = .ok (.ifCond .ne 6, 3) := by decide +kernel
theorem dX4_move_35 : decode cX4_move 35 = .ok (.bipush (-4), 2) := by decide +kernel
theorem dX4_move_37 : decode cX4_move 37 = .ok (.ireturn, 1) := by decide +kernel
theorem dX4_move_38 : decode cX4_move 38 = .ok (.aload_n 0, 1) := by decide +kernel
theorem dX4_move_39 : decode cX4_move 39 = .ok (.getfield 42, 3) := by decide +kernel
theorem dX4_move_42 : decode cX4_move 42 = .ok (.getfield 144, 3) := by decide +kernel
theorem dX4_move_45 : decode cX4_move 45 = .ok (.bipush 40, 2) := by decide +kernel
theorem dX4_move_47 : decode cX4_move 47 = .ok (.if_icmp .lt 6, 3) := by decide +kernel
theorem dX4_move_50 : decode cX4_move 50 = .ok (.bipush (-2), 2) := by decide +kernel
theorem dX4_move_52 : decode cX4_move 52 = .ok (.ireturn, 1) := by decide +kernel
theorem dX4_move_53 : decode cX4_move 53 = .ok (.aload_n 0, 1) := by decide +kernel
theorem dX4_move_54 : decode cX4_move 54 = .ok (.getfield 42, 3) := by decide +kernel
theorem dX4_move_57 : decode cX4_move 57 = .ok (.iload_n 2, 1) := by decide +kernel
theorem dX4_move_58 : decode cX4_move 58 = .ok (.iconst 1, 1) := by decide +kernel
theorem dX4_move_59 : decode cX4_move 59 = .ok (.if_icmp .ne 7, 3) := by decide +kernel
theorem dX4_move_62 : decode cX4_move 62 = .ok (.iconst 3, 1) := by decide +kernel
theorem dX4_move_63 : decode cX4_move 63 = .ok (.goto 4, 3) := by decide +kernel
theorem dX4_move_66 : decode cX4_move 66 = .ok (.iconst 4, 1) := by decide +kernel
theorem dX4_move_67 : decode cX4_move 67 = .ok (.iload_n 1, 1) := by decide +kernel
theorem dX4_move_68 : decode cX4_move 68 = .ok (.invokevirtual 147, 3) := by decide +kernel
theorem dX4_move_71 : decode cX4_move 71 = .ok (.aload_n 0, 1) := by decide +kernel
theorem dX4_move_72 : decode cX4_move 72 = .ok (.getfield 42, 3) := by decide +kernel
theorem dX4_move_75 : decode cX4_move 75 = .ok (.getfield 160, 3) := by decide +kernel
theorem dX4_move_78 : decode cX4_move 78 = .ok (.iload_n 1, 1) := by decide +kernel
theorem dX4_move_79 : decode cX4_move 79 = .ok (.iaload, 1) := by decide +kernel
theorem dX4_move_80 : decode cX4_move 80 = .ok (.ireturn, 1) := by decide +kernel
theorem dX4_take_0 : decode cX4_take 0 = .ok (.aload_n 0, 1) := by decide +kernel
theorem dX4_take_1 : decode cX4_take 1 = .ok (.getfield 42, 3) := by decide +kernel
theorem dX4_take_4 : decode cX4_take 4 = .ok (.iload_n 1, 1) := by decide +kernel
theorem dX4_take_5 : decode cX4_take 5 = .ok (.invokevirtual 121, 3) := by decide +kernel
theorem dX4_take_8 : decode cX4_take 8 = .ok (.ifCond .ne 5, 3) := by decide +kernel
theorem dX4_take_11 : decode cX4_take 11 = .ok (.iconst (-1), 1) := by decide +kernel
theorem dX4_take_12 : decode cX4_take 12 = .ok (.ireturn, 1) := by decide +kernel
theorem dX4_take_13 : decode cX4_take 13 = .ok (.aload_n 0, 1) := by decide +kernel
theorem dX4_take_14 : decode cX4_take 14 = .ok (.getfield 42, 3) := by decide +kernel
theorem dX4_take_17 : decode cX4_take 17 = .ok (.iload_n 1, 1) := by decide +kernel
theorem dX4_take_18 : decode cX4_take 18 = .ok (.invokevirtual 163, 3) := by decide +kernel
theorem dX4_take_21 : decode cX4_take 21 = .ok (.ifCond .ne 6, 3) := by decide +kernel
theorem dX4_take_24 : decode cX4_take 24 = .ok (.bipush (-4), 2) := by decide +kernel
theorem dX4_take_26 : decode cX4_take 26 = .ok (.ireturn, 1) := by decide +kernel
theorem dX4_take_27 : decode cX4_take 27 = .ok (.aload_n 0, 1) := by decide +kernel
theorem dX4_take_28 : decode cX4_take 28 = .ok (.getfield 42, 3) := by decide +kernel
theorem dX4_take_31 : decode cX4_take 31 = .ok (.getfield 144, 3) := by decide +kernel
theorem dX4_take_34 : decode cX4_take 34 = .ok (.bipush 40, 2) := by decide +kernel
theorem dX4_take_36 : decode cX4_take 36 = .ok (.if_icmp .lt 6, 3) := by decide +kernel
theorem dX4_take_39 : decode cX4_take 39 = .ok (.bipush (-2), 2) := by decide +kernel
theorem dX4_take_41 : decode cX4_take 41 = .ok (.ireturn, 1) := by decide +kernel
theorem dX4_take_42 : decode cX4_take 42 = .ok (.aload_n 0, 1) := by decide +kernel
theorem dX4_take_43 : decode cX4_take 43 = .ok (.getfield 42, 3) := by decide +kernel
theorem dX4_take_46 : decode cX4_take 46 = .ok (.getfield 160, 3) := by decide +kernel
theorem dX4_take_49 : decode cX4_take 49 = .ok (.iload_n 1, 1) := by decide +kernel
theorem dX4_take_50 : decode cX4_take 50 = .ok (.iaload, 1) := by decide +kernel
theorem dX4_take_51 : decode cX4_take 51 = .ok (.aload_n 0, 1) := by decide +kernel
theorem dX4_take_52 : decode cX4_take 52 = .ok (.getfield 42, 3) := by decide +kernel
theorem dX4_take_55 : decode cX4_take 55 = .ok (.getfield 166, 3) := by decide +kernel
theorem dX4_take_58 : decode cX4_take 58 = .ok (.iload_n 1, 1) := by decide +kernel
theorem dX4_take_59 : decode cX4_take 59 = .ok (.iaload, 1) := by decide +kernel
theorem dX4_take_60 : decode cX4_take 60 = .ok (.isub, 1) := by decide +kernel
theorem dX4_take_61 : decode cX4_take 61 = .ok (.invokestatic 169, 3) := by decide +kernel
theorem dX4_take_64 : decode cX4_take 64 = .ok (.istore_n 2, 1) := by decide +kernel
theorem dX4_take_65 : decode cX4_take 65 = .ok (.aload_n 0, 1) := by decide +kernel
theorem dX4_take_66 : decode cX4_take 66 = .ok (.getfield 42, 3) := by decide +kernel
theorem dX4_take_69 : decode cX4_take 69 = .ok (.iconst 5, 1) := by decide +kernel
theorem dX4_take_70 : decode cX4_take 70 = .ok (.iload_n 1, 1) := by decide +kernel
theorem dX4_take_71 : decode cX4_take 71 = .ok (.invokevirtual 147, 3) := by decide +kernel
theorem dX4_take_74 : decode cX4_take 74 = .ok (.iload_n 2, 1) := by decide +kernel
theorem dX4_take_75 : decode cX4_take 75 = .ok (.ireturn, 1) := by decide +kernel
theorem dX4_undo_0 : decode cX4_undo 0 = .ok (.iload_n 1, 1) := by decide +kernel
theorem dX4_undo_1 : decode cX4_undo 1 = .ok (.ifCond .lt 14, 3) := by decide +kernel
theorem dX4_undo_4 : decode cX4_undo 4 = .ok (.iload_n 1, 1) := by decide +kernel
theorem dX4_undo_5 : decode cX4_undo 5 = .ok (.aload_n 0, 1) := by decide +kernel
theorem dX4_undo_6 : decode cX4_undo 6 = .ok (.getfield 42, 3) := by decide +kernel
theorem dX4_undo_9 : decode cX4_undo 9 = .ok (.getfield 144, 3) := by decide +kernel
theorem dX4_undo_12 : decode cX4_undo 12 = .ok (.if_icmp .le 5, 3) := by decide +kernel
theorem dX4_undo_15 : decode cX4_undo 15 = .ok (.iconst (-1), 1) := by decide +kernel
theorem dX4_undo_16 : decode cX4_undo 16 = .ok (.ireturn, 1) := by decide +kernel
theorem dX4_undo_17 : decode cX4_undo 17 = .ok (.aload_n 0, 1) := by decide +kernel
theorem dX4_undo_18 : decode cX4_undo 18 = .ok (.getfield 42, 3) := by decide +kernel
theorem dX4_undo_21 : decode cX4_undo 21 = .ok (.getfield 144, 3) := by decide +kernel
theorem dX4_undo_24 : decode cX4_undo 24 = .ok (.iload_n 1, 1) := by decide +kernel
theorem dX4_undo_25 : decode cX4_undo 25 = .ok (.isub, 1) := by decide +kernel
theorem dX4_undo_26 : decode cX4_undo 26 = .ok (.istore_n 2, 1) := by decide +kernel
theorem dX4_undo_27 : decode cX4_undo 27 = .ok (.aload_n 0, 1) := by decide +kernel
theorem dX4_undo_28 : decode cX4_undo 28 = .ok (.getfield 42, 3) := by decide +kernel
theorem dX4_undo_31 : decode cX4_undo 31 = .ok (.iload_n 1, 1) := by decide +kernel
theorem dX4_undo_32 : decode cX4_undo 32 = .ok (.invokevirtual 174, 3) := by decide +kernel
theorem dX4_undo_35 : decode cX4_undo 35 = .ok (.iload_n 2, 1) := by decide +kernel
theorem dX4_undo_36 : decode cX4_undo 36 = .ok (.ireturn, 1) := by decide +kernel
theorem dX4_keep_0 : decode cX4_keep 0 = .ok (.iload_n 1, 1) := by decide +kernel
theorem dX4_keep_1 : decode cX4_keep 1 = .ok (.invokestatic 178, 3) := by decide +kernel
theorem dX4_keep_4 : decode cX4_keep 4 = .ok (.ifCond .ne 5, 3) := by decide +kernel
theorem dX4_keep_7 : decode cX4_keep 7 = .ok (.iconst (-1), 1) := by decide +kernel
theorem dX4_keep_8 : decode cX4_keep 8 = .ok (.ireturn, 1) := by decide +kernel
theorem dX4_keep_9 : decode cX4_keep 9 = .ok (.aload_n 0, 1) := by decide +kernel
theorem dX4_keep_10 : decode cX4_keep 10 = .ok (.getfield 42, 3) := by decide +kernel
theorem dX4_keep_13 : decode cX4_keep 13 = .ok (.getfield 118, 3) := by decide +kernel
theorem dX4_keep_16 : decode cX4_keep 16 = .ok (.ifCond .ne 6, 3) := by decide +kernel
theorem dX4_keep_19 : decode cX4_keep 19 = .ok (.bipush (-4), 2) := by decide +kernel
theorem dX4_keep_21 : decode cX4_keep 21 = .ok (.ireturn, 1) := by decide +kernel
theorem dX4_keep_22 : decode cX4_keep 22 = .ok (.aload_n 0, 1) := by decide +kernel
theorem dX4_keep_23 : decode cX4_keep 23 = .ok (.getfield 42, 3) := by decide +kernel
theorem dX4_keep_26 : decode cX4_keep 26 = .ok (.getfield 181, 3) := by decide +kernel
theorem dX4_keep_29 : decode cX4_keep 29 = .ok (.iconst 0, 1) := by decide +kernel
theorem dX4_keep_30 : decode cX4_keep 30 = .ok (.aload_n 0, 1) := by decide +kernel
theorem dX4_keep_31 : decode cX4_keep 31 = .ok (.getfield 26, 3) := by decide +kernel
theorem dX4_keep_34 : decode cX4_keep 34 = .ok (.iload_n 1, 1) := by decide +kernel
theorem dX4_keep_35 : decode cX4_keep 35 = .ok (.aaload, 1) := by decide +kernel
theorem dX4_keep_36 : decode cX4_keep 36 = .ok (.iconst 0, 1) := by decide +kernel
theorem dX4_keep_37 : decode cX4_keep 37 = .ok (.bipush 40, 2) := by decide +kernel
theorem dX4_keep_39 : decode cX4_keep 39 = .ok (.invokestatic 98, 3) := by decide +kernel
theorem dX4_keep_42 : decode cX4_keep 42 = .ok (.aload_n 0, 1) := by decide +kernel
theorem dX4_keep_43 : decode cX4_keep 43 = .ok (.getfield 29, 3) := by decide +kernel
theorem dX4_keep_46 : decode cX4_keep 46 = .ok (.iload_n 1, 1) := by decide +kernel
theorem dX4_keep_47 : decode cX4_keep 47 = .ok (.aload_n 0, 1) := by decide +kernel
theorem dX4_keep_48 : decode cX4_keep 48 = .ok (.getfield 42, 3) := by decide +kernel
theorem dX4_keep_51 : decode cX4_keep 51 = .ok (.getfield 144, 3) := by decide +kernel
theorem dX4_keep_54 : decode cX4_keep 54 = .ok (.iastore, 1) := by decide +kernel
theorem dX4_keep_55 : decode cX4_keep 55 = .ok (.aload_n 0, 1) := by decide +kernel
theorem dX4_keep_56 : decode cX4_keep 56 = .ok (.getfield 42, 3) := by decide +kernel
theorem dX4_keep_59 : decode cX4_keep 59 = .ok (.getfield 144, 3) := by decide +kernel
theorem dX4_keep_62 : decode cX4_keep 62 = .ok (.ireturn, 1) := by decide +kernel
theorem dX4_on_0 : decode cX4_on 0 = .ok (.iload_n 1, 1) := by decide +kernel
theorem dX4_on_1 : decode cX4_on 1 = .ok (.invokestatic 178, 3) := by decide +kernel
theorem dX4_on_4 : decode cX4_on 4 = .ok (.ifCond .ne 5, 3) := by decide +kernel
theorem dX4_on_7 : decode cX4_on 7 = .ok (.iconst (-1), 1) := by decide +kernel
theorem dX4_on_8 : decode cX4_on 8 = .ok (.ireturn, 1) := by decide +kernel
theorem dX4_on_9 : decode cX4_on 9 = .ok (.aload_n 0, 1) := by decide +kernel
theorem dX4_on_10 : decode cX4_on 10 = .ok (.getfield 29, 3) := by decide +kernel
theorem dX4_on_13 : decode cX4_on 13 = .ok (.iload_n 1, 1) := by decide +kernel
theorem dX4_on_14 : decode cX4_on 14 = .ok (.iaload, 1) := by decide +kernel
theorem dX4_on_15 : decode cX4_on 15 = .ok (.iconst (-1), 1) := by decide +kernel
theorem dX4_on_16 : decode cX4_on 16 = .ok (.if_icmp .ne 9, 3) := by decide +kernel
theorem dX4_on_19 : decode cX4_on 19 = .ok (.aload_n 0, 1) := by decide +kernel
theorem dX4_on_20 : decode cX4_on 20 = .ok (.iconst 1, 1) := by decide +kernel
theorem dX4_on_21 : decode cX4_on 21 = .ok (.invokevirtual 87, 3) := by decide +kernel
theorem dX4_on_24 : decode cX4_on 24 = .ok (.ireturn, 1) := by decide +kernel
theorem dX4_on_25 : decode cX4_on 25 = .ok (.aload_n 0, 1) := by decide +kernel
theorem dX4_on_26 : decode cX4_on 26 = .ok (.getfield 26, 3) := by decide +kernel
theorem dX4_on_29 : decode cX4_on 29 = .ok (.iload_n 1, 1) := by decide +kernel
theorem dX4_on_30 : decode cX4_on 30 = .ok (.aaload, 1) := by decide +kernel
theorem dX4_on_31 : decode cX4_on 31 = .ok (.iconst 0, 1) := by decide +kernel
theorem dX4_on_32 : decode cX4_on 32 = .ok (.aload_n 0, 1) := by decide +kernel
theorem dX4_on_33 : decode cX4_on 33 = .ok (.getfield 42, 3) := by decide +kernel
theorem dX4_on_36 : decode cX4_on 36 = .ok (.getfield 181, 3) := by decide +kernel
theorem dX4_on_39 : decode cX4_on 39 = .ok (.iconst 0, 1) := by decide +kernel
theorem dX4_on_40 : decode cX4_on 40 = .ok (.bipush 40, 2) := by decide +kernel
theorem dX4_on_42 : decode cX4_on 42 = .ok (.invokestatic 98, 3) := by decide +kernel
theorem dX4_on_45 : decode cX4_on 45 = .ok (.aload_n 0, 1) := by decide +kernel
theorem dX4_on_46 : decode cX4_on 46 = .ok (.getfield 42, 3) := by decide +kernel
theorem dX4_on_49 : decode cX4_on 49 = .ok (.aload_n 0, 1) := by decide +kernel
theorem dX4_on_50 : decode cX4_on 50 = .ok (.getfield 29, 3) := by decide +kernel
theorem dX4_on_53 : decode cX4_on 53 = .ok (.iload_n 1, 1) := by decide +kernel
theorem dX4_on_54 : decode cX4_on 54 = .ok (.iaload, 1) := by decide +kernel
theorem dX4_on_55 : decode cX4_on 55 = .ok (.invokevirtual 174, 3) := by decide +kernel
theorem dX4_on_58 : decode cX4_on 58 = .ok (.aload_n 0, 1) := by decide +kernel
theorem dX4_on_59 : decode cX4_on 59 = .ok (.getfield 42, 3) := by decide +kernel
theorem dX4_on_62 : decode cX4_on 62 = .ok (.getfield 144, 3) := by decide +kernel
theorem dX4_on_65 : decode cX4_on 65 = .ok (.ireturn, 1) := by decide +kernel
theorem dX4_lies_0 : decode cX4_lies 0 = .ok (.aload_n 0, 1) := by decide +kernel
theorem dX4_lies_1 : decode cX4_lies 1 = .ok (.getfield 42, 3) := by decide +kernel
theorem dX4_lies_4 : decode cX4_lies 4 = .ok (.iload_n 1, 1) := by decide +kernel
theorem dX4_lies_5 : decode cX4_lies 5 = .ok (.invokevirtual 121, 3) := by decide +kernel
theorem dX4_lies_8 : decode cX4_lies 8 = .ok (.ifCond .eq 13, 3) := by decide +kernel
theorem dX4_lies_11 : decode cX4_lies 11 = .ok (.iload_n 2, 1) := by decide +kernel
theorem dX4_lies_12 : decode cX4_lies 12 = .ok (.ifCond .lt 9, 3) := by decide +kernel
theorem dX4_lies_15 : decode cX4_lies 15 = .ok (.iload_n 2, 1) := by decide +kernel
theorem dX4_lies_16 : decode cX4_lies 16 = .ok (.bipush 60, 2) := by decide +kernel
theorem dX4_lies_18 : decode cX4_lies 18 = .ok (.if_icmp .le 5, 3) := by decide +kernel
theorem dX4_lies_21 : decode cX4_lies 21 = .ok (.iconst (-1), 1) := by decide +kernel
theorem dX4_lies_22 : decode cX4_lies 22 = .ok (.ireturn, 1) := by decide +kernel
theorem dX4_lies_23 : decode cX4_lies 23 = .ok (.aload_n 0, 1) := by decide +kernel
theorem dX4_lies_24 : decode cX4_lies 24 = .ok (.getfield 42, 3) := by decide +kernel
theorem dX4_lies_27 : decode cX4_lies 27 = .ok (.iload_n 1, 1) := by decide +kernel
theorem dX4_lies_28 : decode cX4_lies 28 = .ok (.invokevirtual 184, 3) := by decide +kernel
theorem dX4_lies_31 : decode cX4_lies 31 = .ok (.ifCond .eq 6, 3) := by decide +kernel
theorem dX4_lies_34 : decode cX4_lies 34 = .ok (.bipush (-4), 2) := by decide +kernel
theorem dX4_lies_36 : decode cX4_lies 36 = .ok (.ireturn, 1) := by decide +kernel
theorem dX4_lies_37 : decode cX4_lies 37 = .ok (.aload_n 0, 1) := by decide +kernel
theorem dX4_lies_38 : decode cX4_lies 38 = .ok (.getfield 42, 3) := by decide +kernel
theorem dX4_lies_41 : decode cX4_lies 41 = .ok (.iload_n 1, 1) := by decide +kernel
theorem dX4_lies_42 : decode cX4_lies 42 = .ok (.aload_n 0, 1) := by decide +kernel
theorem dX4_lies_43 : decode cX4_lies 43 = .ok (.getfield 42, 3) := by decide +kernel
theorem dX4_lies_46 : decode cX4_lies 46 = .ok (.getfield 160, 3) := by decide +kernel
theorem dX4_lies_49 : decode cX4_lies 49 = .ok (.iload_n 1, 1) := by decide +kernel
theorem dX4_lies_50 : decode cX4_lies 50 = .ok (.iaload, 1) := by decide +kernel
theorem dX4_lies_51 : decode cX4_lies 51 = .ok (.iload_n 2, 1) := by decide +kernel
theorem dX4_lies_52 : decode cX4_lies 52 = .ok (.invokevirtual 187, 3) := by decide +kernel
theorem dX4_lies_55 : decode cX4_lies 55 = .ok (.ireturn, 1) := by decide +kernel
theorem dX4_three_0 : decode cX4_three 0 = .ok (.aload_n 0, 1) := by decide +kernel
theorem dX4_three_1 : decode cX4_three 1 = .ok (.getfield 42, 3) := by decide +kernel
theorem dX4_three_4 : decode cX4_three 4 = .ok (.getfield 118, 3) := by decide +kernel
theorem dX4_three_7 : decode cX4_three 7 = .ok (.ifCond .ne 6, 3) := by decide +kernel
theorem dX4_three_10 : decode cX4_three 10 = .ok (.bipush (-4), 2) := by decide +kernel
theorem dX4_three_12 : decode cX4_three 12 = .ok (.ireturn, 1) := by decide +kernel
theorem dX4_three_13 : decode cX4_three 13 = .ok (.iconst 0, 1) := by decide +kernel
theorem dX4_three_14 : decode cX4_three 14 = .ok (.istore_n 1, 1) := by decide +kernel
theorem dX4_three_15 : decode cX4_three 15 = .ok (.iload_n 1, 1) := by decide +kernel
theorem dX4_three_16 : decode cX4_three 16 = .ok (.bipush 60, 2) := by decide +kernel
theorem dX4_three_18 : decode cX4_three 18 = .ok (.if_icmp .gt 32, 3) := by decide +kernel
theorem dX4_three_21 : decode cX4_three 21 = .ok (.aload_n 0, 1) := by decide +kernel
theorem dX4_three_22 : decode cX4_three 22 = .ok (.getfield 42, 3) := by decide +kernel
theorem dX4_three_25 : decode cX4_three 25 = .ok (.iload_n 1, 1) := by decide +kernel
theorem dX4_three_26 : decode cX4_three 26 = .ok (.invokevirtual 191, 3) := by decide +kernel
theorem dX4_three_29 : decode cX4_three 29 = .ok (.istore_n 2, 1) := by decide +kernel
theorem dX4_three_30 : decode cX4_three 30 = .ok (.iload_n 2, 1) := by decide +kernel
theorem dX4_three_31 : decode cX4_three 31 = .ok (.bipush (-9), 2) := by decide +kernel
theorem dX4_three_33 : decode cX4_three 33 = .ok (.if_icmp .eq 11, 3) := by decide +kernel
theorem dX4_three_36 : decode cX4_three 36 = .ok (.aload_n 0, 1) := by decide +kernel
theorem dX4_three_37 : decode cX4_three 37 = .ok (.iload_n 2, 1) := by decide +kernel
theorem dX4_three_38 : decode cX4_three 38 = .ok (.invokevirtual 91, 3) := by decide +kernel
theorem dX4_three_41 : decode cX4_three 41 = .ok (.pop, 1) := by decide +kernel
theorem dX4_three_42 : decode cX4_three 42 = .ok (.iload_n 1, 1) := by decide +kernel
theorem dX4_three_43 : decode cX4_three 43 = .ok (.ireturn, 1) := by decide +kernel
theorem dX4_three_44 : decode cX4_three 44 = .ok (.iinc 1 1, 3) := by decide +kernel
theorem dX4_three_47 : decode cX4_three 47 = .ok (.goto (-32), 3) := by decide +kernel
theorem dX4_three_50 : decode cX4_three 50 = .ok (.bipush (-9), 2) := by decide +kernel
theorem dX4_three_52 : decode cX4_three 52 = .ok (.ireturn, 1) := by decide +kernel
theorem dX4_moves_0 : decode cX4_moves 0 = .ok (.aload_n 0, 1) := by decide +kernel
theorem dX4_moves_1 : decode cX4_moves 1 = .ok (.getfield 42, 3) := by decide +kernel
theorem dX4_moves_4 : decode cX4_moves 4 = .ok (.iload_n 1, 1) := by decide +kernel
theorem dX4_moves_5 : decode cX4_moves 5 = .ok (.invokevirtual 121, 3) := by decide +kernel
theorem dX4_moves_8 : decode cX4_moves 8 = .ok (.ifCond .eq 20, 3) := by decide +kernel
theorem dX4_moves_11 : decode cX4_moves 11 = .ok (.iload_n 2, 1) := by decide +kernel
theorem dX4_moves_12 : decode cX4_moves 12 = .ok (.invokestatic 138, 3) := by decide +kernel
theorem dX4_moves_15 : decode cX4_moves 15 = .ok (.ifCond .eq 13, 3) := by decide +kernel
theorem dX4_moves_18 : decode cX4_moves 18 = .ok (.iload_n 3, 1) := by decide +kernel
theorem dX4_moves_19 : decode cX4_moves 19 = .ok (.ifCond .lt 9, 3) := by decide +kernel
theorem dX4_moves_22 : decode cX4_moves 22 = .ok (.iload_n 3, 1) := by decide +kernel
theorem dX4_moves_23 : decode cX4_moves 23 = .ok (.bipush 20, 2) := by decide +kernel
theorem dX4_moves_25 : decode cX4_moves 25 = .ok (.if_icmp .le 5, 3) := by decide +kernel
theorem dX4_moves_28 : decode cX4_moves 28 = .ok (.iconst (-1), 1) := by decide +kernel
theorem dX4_moves_29 : decode cX4_moves 29 = .ok (.ireturn, 1) := by decide +kernel
theorem dX4_moves_30 : decode cX4_moves 30 = .ok (.aload_n 0, 1) := by decide +kernel
theorem dX4_moves_31 : decode cX4_moves 31 = .ok (.getfield 42, 3) := by decide +kernel
theorem dX4_moves_34 : decode cX4_moves 34 = .ok (.iload_n 1, 1) := by decide +kernel
theorem dX4_moves_35 : decode cX4_moves 35 = .ok (.invokevirtual 184, 3) := by decide +kernel
theorem dX4_moves_38 : decode cX4_moves 38 = .ok (.ifCond .eq 6, 3) := by decide +kernel
theorem dX4_moves_41 : decode cX4_moves 41 = .ok (.bipush (-4), 2) := by decide +kernel
theorem dX4_moves_43 : decode cX4_moves 43 = .ok (.ireturn, 1) := by decide +kernel
theorem dX4_moves_44 : decode cX4_moves 44 = .ok (.aload_n 0, 1) := by decide +kernel
theorem dX4_moves_45 : decode cX4_moves 45 = .ok (.getfield 42, 3) := by decide +kernel
theorem dX4_moves_48 : decode cX4_moves 48 = .ok (.iload_n 1, 1) := by decide +kernel
theorem dX4_moves_49 : decode cX4_moves 49 = .ok (.iload_n 2, 1) := by decide +kernel
theorem dX4_moves_50 : decode cX4_moves 50 = .ok (.iload_n 3, 1) := by decide +kernel
theorem dX4_moves_51 : decode cX4_moves 51 = .ok (.invokevirtual 194, 3) := by decide +kernel
theorem dX4_moves_54 : decode cX4_moves 54 = .ok (.ireturn, 1) := by decide +kernel
theorem dX4_owned_0 : decode cX4_owned 0 = .ok (.iload_n 1, 1) := by decide +kernel
theorem dX4_owned_1 : decode cX4_owned 1 = .ok (.ifCond .lt 9, 3) := by decide +kernel
theorem dX4_owned_4 : decode cX4_owned 4 = .ok (.iload_n 1, 1) := by decide +kernel
theorem dX4_owned_5 : decode cX4_owned 5 = .ok (.bipush 20, 2) := by decide +kernel
theorem dX4_owned_7 : decode cX4_owned 7 = .ok (.if_icmp .le 5, 3) := by decide +kernel
theorem dX4_owned_10 : decode cX4_owned 10 = .ok (.iconst (-1), 1) := by decide +kernel
theorem dX4_owned_11 : decode cX4_owned 11 = .ok (.ireturn, 1) := by decide +kernel
theorem dX4_owned_12 : decode cX4_owned 12 = .ok (.aload_n 0, 1) := by decide +kernel
theorem dX4_owned_13 : decode cX4_owned 13 = .ok (.getfield 42, 3) := by decide +kernel
theorem dX4_owned_16 : decode cX4_owned 16 = .ok (.getfield 118, 3) := by decide +kernel
theorem dX4_owned_19 : decode cX4_owned 19 = .ok (.ifCond .ne 6, 3) := by decide +kernel
theorem dX4_owned_22 : decode cX4_owned 22 = .ok (.bipush (-4), 2) := by decide +kernel
theorem dX4_owned_24 : decode cX4_owned 24 = .ok (.ireturn, 1) := by decide +kernel
theorem dX4_owned_25 : decode cX4_owned 25 = .ok (.iconst 0, 1) := by decide +kernel
theorem dX4_owned_26 : decode cX4_owned 26 = .ok (.istore_n 2, 1) := by decide +kernel
theorem dX4_owned_27 : decode cX4_owned 27 = .ok (.iconst 0, 1) := by decide +kernel
theorem dX4_owned_28 : decode cX4_owned 28 = .ok (.istore_n 3, 1) := by decide +kernel
theorem dX4_owned_29 : decode cX4_owned 29 = .ok (.iload_n 3, 1) := by decide +kernel
theorem dX4_owned_30 : decode cX4_owned 30 = .ok (.aload_n 0, 1) := by decide +kernel
theorem dX4_owned_31 : decode cX4_owned 31 = .ok (.getfield 42, 3) := by decide +kernel
theorem dX4_owned_34 : decode cX4_owned 34 = .ok (.getfield 118, 3) := by decide +kernel
theorem dX4_owned_37 : decode cX4_owned 37 = .ok (.if_icmp .ge 58, 3) := by decide +kernel
theorem dX4_owned_40 : decode cX4_owned 40 = .ok (.aload_n 0, 1) := by decide +kernel
theorem dX4_owned_41 : decode cX4_owned 41 = .ok (.getfield 42, 3) := by decide +kernel
theorem dX4_owned_44 : decode cX4_owned 44 = .ok (.iload_n 3, 1) := by decide +kernel
theorem dX4_owned_45 : decode cX4_owned 45 = .ok (.invokevirtual 184, 3) := by decide +kernel
theorem dX4_owned_48 : decode cX4_owned 48 = .ok (.ifCond .eq 6, 3) := by decide +kernel
theorem dX4_owned_51 : decode cX4_owned 51 = .ok (.goto 38, 3) := by decide +kernel
theorem dX4_owned_54 : decode cX4_owned 54 = .ok (.aload_n 0, 1) := by decide +kernel
theorem dX4_owned_55 : decode cX4_owned 55 = .ok (.getfield 42, 3) := by decide +kernel
theorem dX4_owned_58 : decode cX4_owned 58 = .ok (.iload_n 3, 1) := by decide +kernel
theorem dX4_owned_59 : decode cX4_owned 59 = .ok (.aload_n 0, 1) := by decide +kernel
theorem dX4_owned_60 : decode cX4_owned 60 = .ok (.getfield 42, 3) := by decide +kernel
theorem dX4_owned_63 : decode cX4_owned 63 = .ok (.getfield 166, 3) := by decide +kernel
theorem dX4_owned_66 : decode cX4_owned 66 = .ok (.iload_n 3, 1) := by decide +kernel
theorem dX4_owned_67 : decode cX4_owned 67 = .ok (.iaload, 1) := by decide +kernel
theorem dX4_owned_68 : decode cX4_owned 68 = .ok (.iload_n 1, 1) := by decide +kernel
theorem dX4_owned_69 : decode cX4_owned 69 = .ok (.invokevirtual 194, 3) := by decide +kernel
theorem dX4_owned_72 : decode cX4_owned 72 = .ok (.istore 4, 2) := by decide +kernel
theorem dX4_owned_74 : decode cX4_owned 74 = .ok (.iload 4, 2) := by decide +kernel
theorem dX4_owned_76 : decode cX4_owned 76 = .ok (.bipush (-9), 2) := by decide +kernel
theorem dX4_owned_78 : decode cX4_owned 78 = .ok (.if_icmp .ne 6, 3) := by decide +kernel
theorem dX4_owned_81 : decode cX4_owned 81 = .ok (.bipush (-9), 2) := by decide +kernel
theorem dX4_owned_83 : decode cX4_owned 83 = .ok (.ireturn, 1) := by decide +kernel
theorem dX4_owned_84 : decode cX4_owned 84 = .ok (.iload_n 2, 1) := by decide +kernel
theorem dX4_owned_85 : decode cX4_owned 85 = .ok (.iload 4, 2) := by decide +kernel
theorem dX4_owned_87 : decode cX4_owned 87 = .ok (.iadd, 1) := by decide +kernel
theorem dX4_owned_88 : decode cX4_owned 88 = .ok (.istore_n 2, 1) := by decide +kernel
theorem dX4_owned_89 : decode cX4_owned 89 = .ok (.iinc 3 1, 3) := by decide +kernel
theorem dX4_owned_92 : decode cX4_owned 92 = .ok (.goto (-63), 3) := by decide +kernel
theorem dX4_owned_95 : decode cX4_owned 95 = .ok (.iload_n 2, 1) := by decide +kernel
theorem dX4_owned_96 : decode cX4_owned 96 = .ok (.ireturn, 1) := by decide +kernel
theorem dX4_thrown_0 : decode cX4_thrown 0 = .ok (.aload_n 0, 1) := by decide +kernel
theorem dX4_thrown_1 : decode cX4_thrown 1 = .ok (.getfield 42, 3) := by decide +kernel
theorem dX4_thrown_4 : decode cX4_thrown 4 = .ok (.iload_n 1, 1) := by decide +kernel
theorem dX4_thrown_5 : decode cX4_thrown 5 = .ok (.invokevirtual 121, 3) := by decide +kernel
theorem dX4_thrown_8 : decode cX4_thrown 8 = .ok (.ifCond .eq 20, 3) := by decide +kernel
theorem dX4_thrown_11 : decode cX4_thrown 11 = .ok (.iload_n 2, 1) := by decide +kernel
theorem dX4_thrown_12 : decode cX4_thrown 12 = .ok (.invokestatic 138, 3) := by decide +kernel
theorem dX4_thrown_15 : decode cX4_thrown 15 = .ok (.ifCond .eq 13, 3) := by decide +kernel
theorem dX4_thrown_18 : decode cX4_thrown 18 = .ok (.iload_n 3, 1) := by decide +kernel
theorem dX4_thrown_19 : decode cX4_thrown 19 = .ok (.ifCond .lt 9, 3) := by decide +kernel
theorem dX4_thrown_22 : decode cX4_thrown 22 = .ok (.iload_n 3, 1) := by decide +kernel
theorem dX4_thrown_23 : decode cX4_thrown 23 = .ok (.bipush 20, 2) := by decide +kernel
theorem dX4_thrown_25 : decode cX4_thrown 25 = .ok (.if_icmp .le 5, 3) := by decide +kernel
theorem dX4_thrown_28 : decode cX4_thrown 28 = .ok (.iconst (-1), 1) := by decide +kernel
theorem dX4_thrown_29 : decode cX4_thrown 29 = .ok (.ireturn, 1) := by decide +kernel
theorem dX4_thrown_30 : decode cX4_thrown 30 = .ok (.iconst 0, 1) := by decide +kernel
theorem dX4_thrown_31 : decode cX4_thrown 31 = .ok (.istore 4, 2) := by decide +kernel
theorem dX4_thrown_33 : decode cX4_thrown 33 = .ok (.iconst 0, 1) := by decide +kernel
theorem dX4_thrown_34 : decode cX4_thrown 34 = .ok (.istore 5, 2) := by decide +kernel
theorem dX4_thrown_36 : decode cX4_thrown 36 = .ok (.iload 5, 2) := by decide +kernel
theorem dX4_thrown_38 : decode cX4_thrown 38 = .ok (.bipush 8, 2) := by decide +kernel
theorem dX4_thrown_40 : decode cX4_thrown 40 = .ok (.if_icmp .ge 33, 3) := by decide +kernel
theorem dX4_thrown_43 : decode cX4_thrown 43 = .ok (.aload_n 0, 1) := by decide +kernel
theorem dX4_thrown_44 : decode cX4_thrown 44 = .ok (.getfield 42, 3) := by decide +kernel
theorem dX4_thrown_47 : decode cX4_thrown 47 = .ok (.iload_n 1, 1) := by decide +kernel
theorem dX4_thrown_48 : decode cX4_thrown 48 = .ok (.iload 5, 2) := by decide +kernel
theorem dX4_thrown_50 : decode cX4_thrown 50 = .ok (.iload_n 3, 1) := by decide +kernel
theorem dX4_thrown_51 : decode cX4_thrown 51 = .ok (.invokevirtual 187, 3) := by decide +kernel
theorem dX4_thrown_54 : decode cX4_thrown 54 = .ok (.iload_n 2, 1) := by decide +kernel
theorem dX4_thrown_55 : decode cX4_thrown 55 = .ok (.if_icmp .ne 12, 3) := by decide +kernel
theorem dX4_thrown_58 : decode cX4_thrown 58 = .ok (.iload 4, 2) := by decide +kernel
theorem dX4_thrown_60 : decode cX4_thrown 60 = .ok (.iconst 1, 1) := by decide +kernel
theorem dX4_thrown_61 : decode cX4_thrown 61 = .ok (.iload 5, 2) := by decide +kernel
theorem dX4_thrown_63 : decode cX4_thrown 63 = .ok (.ishl, 1) := by decide +kernel
theorem dX4_thrown_64 : decode cX4_thrown 64 = .ok (.ior, 1) := by decide +kernel
theorem dX4_thrown_65 : decode cX4_thrown 65 = .ok (.istore 4, 2) := by decide +kernel
theorem dX4_thrown_67 : decode cX4_thrown 67 = .ok (.iinc 5 1, 3) := by decide +kernel
theorem dX4_thrown_70 : decode cX4_thrown 70 = .ok (.goto (-34), 3) := by decide +kernel
theorem dX4_thrown_73 : decode cX4_thrown 73 = .ok (.iload 4, 2) := by decide +kernel
theorem dX4_thrown_75 : decode cX4_thrown 75 = .ok (.ireturn, 1) := by decide +kernel
theorem dX4_stand_0 : decode cX4_stand 0 = .ok (.iload_n 1, 1) := by decide +kernel
theorem dX4_stand_1 : decode cX4_stand 1 = .ok (.invokestatic 83, 3) := by decide +kernel
theorem dX4_stand_4 : decode cX4_stand 4 = .ok (.ifCond .ne 5, 3) := by decide +kernel
theorem dX4_stand_7 : decode cX4_stand 7 = .ok (.iconst (-1), 1) := by decide +kernel
theorem dX4_stand_8 : decode cX4_stand 8 = .ok (.ireturn, 1) := by decide +kernel
theorem dX4_stand_9 : decode cX4_stand 9 = .ok (.aload_n 0, 1) := by decide +kernel
theorem dX4_stand_10 : decode cX4_stand 10 = .ok (.getfield 42, 3) := by decide +kernel
theorem dX4_stand_13 : decode cX4_stand 13 = .ok (.getfield 118, 3) := by decide +kernel
theorem dX4_stand_16 : decode cX4_stand 16 = .ok (.ifCond .ne 6, 3) := by decide +kernel
theorem dX4_stand_19 : decode cX4_stand 19 = .ok (.bipush (-4), 2) := by decide +kernel
theorem dX4_stand_21 : decode cX4_stand 21 = .ok (.ireturn, 1) := by decide +kernel
theorem dX4_stand_22 : decode cX4_stand 22 = .ok (.aload_n 0, 1) := by decide +kernel
theorem dX4_stand_23 : decode cX4_stand 23 = .ok (.getfield 49, 3) := by decide +kernel
theorem dX4_stand_26 : decode cX4_stand 26 = .ok (.aload_n 0, 1) := by decide +kernel
theorem dX4_stand_27 : decode cX4_stand 27 = .ok (.getfield 42, 3) := by decide +kernel
theorem dX4_stand_30 : decode cX4_stand 30 = .ok (.invokevirtual 197, 3) := by decide +kernel
theorem dX4_stand_33 : decode cX4_stand 33 = .ok (.istore_n 2, 1) := by decide +kernel
theorem dX4_stand_34 : decode cX4_stand 34 = .ok (.aload_n 0, 1) := by decide +kernel
theorem dX4_stand_35 : decode cX4_stand 35 = .ok (.getfield 11, 3) := by decide +kernel
theorem dX4_stand_38 : decode cX4_stand 38 = .ok (.iload_n 1, 1) := by decide +kernel
theorem dX4_stand_39 : decode cX4_stand 39 = .ok (.aaload, 1) := by decide +kernel
theorem dX4_stand_40 : decode cX4_stand 40 = .ok (.iconst 0, 1) := by decide +kernel
theorem dX4_stand_41 : decode cX4_stand 41 = .ok (.invokestatic 77, 3) := by decide +kernel
theorem dX4_stand_44 : decode cX4_stand 44 = .ok (.aload_n 0, 1) := by decide +kernel
theorem dX4_stand_45 : decode cX4_stand 45 = .ok (.getfield 14, 3) := by decide +kernel
theorem dX4_stand_48 : decode cX4_stand 48 = .ok (.iload_n 1, 1) := by decide +kernel
theorem dX4_stand_49 : decode cX4_stand 49 = .ok (.iconst 0, 1) := by decide +kernel
theorem dX4_stand_50 : decode cX4_stand 50 = .ok (.iastore, 1) := by decide +kernel
theorem dX4_stand_51 : decode cX4_stand 51 = .ok (.iconst 0, 1) := by decide +kernel
theorem dX4_stand_52 : decode cX4_stand 52 = .ok (.istore_n 3, 1) := by decide +kernel
theorem dX4_stand_53 : decode cX4_stand 53 = .ok (.iload_n 3, 1) := by decide +kernel
theorem dX4_stand_54 : decode cX4_stand 54 = .ok (.aload_n 0, 1) := by decide +kernel
theorem dX4_stand_55 : decode cX4_stand 55 = .ok (.getfield 42, 3) := by decide +kernel
theorem dX4_stand_58 : decode cX4_stand 58 = .ok (.getfield 118, 3) := by decide +kernel
theorem dX4_stand_61 : decode cX4_stand 61 = .ok (.if_icmp .ge 55, 3) := by decide +kernel
theorem dX4_stand_64 : decode cX4_stand 64 = .ok (.aload_n 0, 1) := by decide +kernel
theorem dX4_stand_65 : decode cX4_stand 65 = .ok (.getfield 42, 3) := by decide +kernel
theorem dX4_stand_68 : decode cX4_stand 68 = .ok (.iload_n 3, 1) := by decide +kernel
theorem dX4_stand_69 : decode cX4_stand 69 = .ok (.invokevirtual 184, 3) := by decide +kernel
theorem dX4_stand_72 : decode cX4_stand 72 = .ok (.ifCond .eq 6, 3) := by decide +kernel
theorem dX4_stand_75 : decode cX4_stand 75 = .ok (.goto 35, 3) := by decide +kernel
theorem dX4_stand_78 : decode cX4_stand 78 = .ok (.aload_n 0, 1) := by decide +kernel
theorem dX4_stand_79 : decode cX4_stand 79 = .ok (.getfield 11, 3) := by decide +kernel
theorem dX4_stand_82 : decode cX4_stand 82 = .ok (.iload_n 1, 1) := by decide +kernel
theorem dX4_stand_83 : decode cX4_stand 83 = .ok (.aaload, 1) := by decide +kernel
theorem dX4_stand_84 : decode cX4_stand 84 = .ok (.aload_n 0, 1) := by decide +kernel
theorem dX4_stand_85 : decode cX4_stand 85 = .ok (.getfield 14, 3) := by decide +kernel
theorem dX4_stand_88 : decode cX4_stand 88 = .ok (.iload_n 1, 1) := by decide +kernel
theorem dX4_stand_89 : decode cX4_stand 89 = .ok (.iaload, 1) := by decide +kernel
theorem dX4_stand_90 : decode cX4_stand 90 = .ok (.aload_n 0, 1) := by decide +kernel
theorem dX4_stand_91 : decode cX4_stand 91 = .ok (.getfield 49, 3) := by decide +kernel
theorem dX4_stand_94 : decode cX4_stand 94 = .ok (.getfield 201, 3) := by decide +kernel
theorem dX4_stand_97 : decode cX4_stand 97 = .ok (.iload_n 3, 1) := by decide +kernel
theorem dX4_stand_98 : decode cX4_stand 98 = .ok (.iaload, 1) := by decide +kernel
theorem dX4_stand_99 : decode cX4_stand 99 = .ok (.iastore, 1) := by decide +kernel
end
section
theorem dX4_stand_100 : decode cX4_stand 100 = .ok (.aload_n 0, 1) := by decide +kernel
theorem dX4_stand_101 : decode cX4_stand 101 = .ok (.getfield 14, 3) := by decide +kernel
theorem dX4_stand_104 : decode cX4_stand 104 = .ok (.iload_n 1, 1) := by decide +kernel
theorem dX4_stand_105 : decode cX4_stand 105 = .ok (.dup2, 1) := by decide +kernel
theorem dX4_stand_106 : decode cX4_stand 106 = .ok (.iaload, 1) := by decide +kernel
theorem dX4_stand_107 : decode cX4_stand 107 = .ok (.iconst 1, 1) := by decide +kernel
theorem dX4_stand_108 : decode cX4_stand 108 = .ok (.iadd, 1) := by decide +kernel
theorem dX4_stand_109 : decode cX4_stand 109 = .ok (.iastore, 1) := by decide +kernel
theorem dX4_stand_110 : decode cX4_stand 110 = .ok (.iinc 3 1, 3) := by decide +kernel
theorem dX4_stand_113 : decode cX4_stand 113 = .ok (.goto (-60), 3) := by decide +kernel
theorem dX4_stand_116 : decode cX4_stand 116 = .ok (.iload_n 2, 1) := by decide +kernel
theorem dX4_stand_117 : decode cX4_stand 117 = .ok (.ireturn, 1) := by decide +kernel
theorem dX4_level_0 : decode cX4_level 0 = .ok (.iload_n 1, 1) := by decide +kernel
theorem dX4_level_1 : decode cX4_level 1 = .ok (.ifCond .lt 9, 3) := by decide +kernel
theorem dX4_level_4 : decode cX4_level 4 = .ok (.iload_n 1, 1) := by decide +kernel
theorem dX4_level_5 : decode cX4_level 5 = .ok (.bipush 9, 2) := by decide +kernel
theorem dX4_level_7 : decode cX4_level 7 = .ok (.if_icmp .le 5, 3) := by decide +kernel
theorem dX4_level_10 : decode cX4_level 10 = .ok (.iconst (-1), 1) := by decide +kernel
theorem dX4_level_11 : decode cX4_level 11 = .ok (.ireturn, 1) := by decide +kernel
theorem dX4_level_12 : decode cX4_level 12 = .ok (.aload_n 0, 1) := by decide +kernel
theorem dX4_level_13 : decode cX4_level 13 = .ok (.getfield 42, 3) := by decide +kernel
theorem dX4_level_16 : decode cX4_level 16 = .ok (.getfield 118, 3) := by decide +kernel
theorem dX4_level_19 : decode cX4_level 19 = .ok (.ifCond .ne 6, 3) := by decide +kernel
theorem dX4_level_22 : decode cX4_level 22 = .ok (.bipush (-4), 2) := by decide +kernel
theorem dX4_level_24 : decode cX4_level 24 = .ok (.ireturn, 1) := by decide +kernel
theorem dX4_level_25 : decode cX4_level 25 = .ok (.aload_n 0, 1) := by decide +kernel
theorem dX4_level_26 : decode cX4_level 26 = .ok (.getfield 56, 3) := by decide +kernel
theorem dX4_level_29 : decode cX4_level 29 = .ok (.iload_n 1, 1) := by decide +kernel
theorem dX4_level_30 : decode cX4_level 30 = .ok (.invokevirtual 204, 3) := by decide +kernel
theorem dX4_level_33 : decode cX4_level 33 = .ok (.aload_n 0, 1) := by decide +kernel
theorem dX4_level_34 : decode cX4_level 34 = .ok (.getfield 56, 3) := by decide +kernel
theorem dX4_level_37 : decode cX4_level 37 = .ok (.getfield 207, 3) := by decide +kernel
theorem dX4_level_40 : decode cX4_level 40 = .ok (.aload_n 0, 1) := by decide +kernel
theorem dX4_level_41 : decode cX4_level 41 = .ok (.getfield 42, 3) := by decide +kernel
theorem dX4_level_44 : decode cX4_level 44 = .ok (.getfield 154, 3) := by decide +kernel
theorem dX4_level_47 : decode cX4_level 47 = .ok (.iaload, 1) := by decide +kernel
theorem dX4_level_48 : decode cX4_level 48 = .ok (.istore_n 2, 1) := by decide +kernel
theorem dX4_level_49 : decode cX4_level 49 = .ok (.iload_n 2, 1) := by decide +kernel
theorem dX4_level_50 : decode cX4_level 50 = .ok (.bipush 9, 2) := by decide +kernel
theorem dX4_level_52 : decode cX4_level 52 = .ok (.if_icmp .le 6, 3) := by decide +kernel
theorem dX4_level_55 : decode cX4_level 55 = .ok (.bipush (-9), 2) := by decide +kernel
theorem dX4_level_57 : decode cX4_level 57 = .ok (.ireturn, 1) := by decide +kernel
theorem dX4_level_58 : decode cX4_level 58 = .ok (.aload_n 0, 1) := by decide +kernel
theorem dX4_level_59 : decode cX4_level 59 = .ok (.aload_n 0, 1) := by decide +kernel
theorem dX4_level_60 : decode cX4_level 60 = .ok (.getfield 56, 3) := by decide +kernel
theorem dX4_level_63 : decode cX4_level 63 = .ok (.aload_n 0, 1) := by decide +kernel
theorem dX4_level_64 : decode cX4_level 64 = .ok (.getfield 42, 3) := by decide +kernel
theorem dX4_level_67 : decode cX4_level 67 = .ok (.getfield 154, 3) := by decide +kernel
theorem dX4_level_70 : decode cX4_level 70 = .ok (.invokevirtual 210, 3) := by decide +kernel
theorem dX4_level_73 : decode cX4_level 73 = .ok (.invokevirtual 91, 3) := by decide +kernel
theorem dX4_level_76 : decode cX4_level 76 = .ok (.pop, 1) := by decide +kernel
theorem dX4_level_77 : decode cX4_level 77 = .ok (.iload_n 2, 1) := by decide +kernel
theorem dX4_level_78 : decode cX4_level 78 = .ok (.ireturn, 1) := by decide +kernel
theorem dX4_home_0 : decode cX4_home 0 = .ok (.aload_n 0, 1) := by decide +kernel
theorem dX4_home_1 : decode cX4_home 1 = .ok (.getfield 42, 3) := by decide +kernel
theorem dX4_home_4 : decode cX4_home 4 = .ok (.iload_n 1, 1) := by decide +kernel
theorem dX4_home_5 : decode cX4_home 5 = .ok (.invokevirtual 121, 3) := by decide +kernel
theorem dX4_home_8 : decode cX4_home 8 = .ok (.ifCond .ne 5, 3) := by decide +kernel
theorem dX4_home_11 : decode cX4_home 11 = .ok (.iconst (-1), 1) := by decide +kernel
theorem dX4_home_12 : decode cX4_home 12 = .ok (.ireturn, 1) := by decide +kernel
theorem dX4_home_13 : decode cX4_home 13 = .ok (.aload_n 0, 1) := by decide +kernel
theorem dX4_home_14 : decode cX4_home 14 = .ok (.getfield 42, 3) := by decide +kernel
theorem dX4_home_17 : decode cX4_home 17 = .ok (.iload_n 1, 1) := by decide +kernel
theorem dX4_home_18 : decode cX4_home 18 = .ok (.invokevirtual 184, 3) := by decide +kernel
theorem dX4_home_21 : decode cX4_home 21 = .ok (.ifCond .eq 6, 3) := by decide +kernel
theorem dX4_home_24 : decode cX4_home 24 = .ok (.bipush (-4), 2) := by decide +kernel
theorem dX4_home_26 : decode cX4_home 26 = .ok (.ireturn, 1) := by decide +kernel
theorem dX4_home_27 : decode cX4_home 27 = .ok (.aload_n 0, 1) := by decide +kernel
theorem dX4_home_28 : decode cX4_home 28 = .ok (.iload_n 1, 1) := by decide +kernel
theorem dX4_home_29 : decode cX4_home 29 = .ok (.bipush (-9), 2) := by decide +kernel
theorem dX4_home_31 : decode cX4_home 31 = .ok (.invokevirtual 213, 3) := by decide +kernel
theorem dX4_home_34 : decode cX4_home 34 = .ok (.ireturn, 1) := by decide +kernel
theorem dX4_stops_0 : decode cX4_stops 0 = .ok (.aload_n 0, 1) := by decide +kernel
theorem dX4_stops_1 : decode cX4_stops 1 = .ok (.getfield 42, 3) := by decide +kernel
theorem dX4_stops_4 : decode cX4_stops 4 = .ok (.iload_n 1, 1) := by decide +kernel
theorem dX4_stops_5 : decode cX4_stops 5 = .ok (.invokevirtual 121, 3) := by decide +kernel
theorem dX4_stops_8 : decode cX4_stops 8 = .ok (.ifCond .ne 5, 3) := by decide +kernel
theorem dX4_stops_11 : decode cX4_stops 11 = .ok (.iconst (-1), 1) := by decide +kernel
theorem dX4_stops_12 : decode cX4_stops 12 = .ok (.ireturn, 1) := by decide +kernel
theorem dX4_stops_13 : decode cX4_stops 13 = .ok (.aload_n 0, 1) := by decide +kernel
theorem dX4_stops_14 : decode cX4_stops 14 = .ok (.getfield 42, 3) := by decide +kernel
theorem dX4_stops_17 : decode cX4_stops 17 = .ok (.iload_n 1, 1) := by decide +kernel
theorem dX4_stops_18 : decode cX4_stops 18 = .ok (.invokevirtual 184, 3) := by decide +kernel
theorem dX4_stops_21 : decode cX4_stops 21 = .ok (.ifCond .eq 6, 3) := by decide +kernel
theorem dX4_stops_24 : decode cX4_stops 24 = .ok (.bipush (-4), 2) := by decide +kernel
theorem dX4_stops_26 : decode cX4_stops 26 = .ok (.ireturn, 1) := by decide +kernel
theorem dX4_stops_27 : decode cX4_stops 27 = .ok (.aload_n 0, 1) := by decide +kernel
theorem dX4_stops_28 : decode cX4_stops 28 = .ok (.iload_n 1, 1) := by decide +kernel
theorem dX4_stops_29 : decode cX4_stops 29 = .ok (.bipush (-9), 2) := by decide +kernel
theorem dX4_stops_31 : decode cX4_stops 31 = .ok (.invokevirtual 213, 3) := by decide +kernel
theorem dX4_stops_34 : decode cX4_stops 34 = .ok (.bipush (-9), 2) := by decide +kernel
theorem dX4_stops_36 : decode cX4_stops 36 = .ok (.if_icmp .eq 5, 3) := by decide +kernel
theorem dX4_stops_39 : decode cX4_stops 39 = .ok (.iconst 0, 1) := by decide +kernel
theorem dX4_stops_40 : decode cX4_stops 40 = .ok (.ireturn, 1) := by decide +kernel
theorem dX4_stops_41 : decode cX4_stops 41 = .ok (.iconst 0, 1) := by decide +kernel
theorem dX4_stops_42 : decode cX4_stops 42 = .ok (.istore_n 2, 1) := by decide +kernel
theorem dX4_stops_43 : decode cX4_stops 43 = .ok (.iconst 0, 1) := by decide +kernel
theorem dX4_stops_44 : decode cX4_stops 44 = .ok (.istore_n 3, 1) := by decide +kernel
theorem dX4_stops_45 : decode cX4_stops 45 = .ok (.iload_n 3, 1) := by decide +kernel
theorem dX4_stops_46 : decode cX4_stops 46 = .ok (.aload_n 0, 1) := by decide +kernel
theorem dX4_stops_47 : decode cX4_stops 47 = .ok (.getfield 42, 3) := by decide +kernel
theorem dX4_stops_50 : decode cX4_stops 50 = .ok (.getfield 118, 3) := by decide +kernel
theorem dX4_stops_53 : decode cX4_stops 53 = .ok (.if_icmp .ge 42, 3) := by decide +kernel
theorem dX4_stops_56 : decode cX4_stops 56 = .ok (.iload_n 3, 1) := by decide +kernel
theorem dX4_stops_57 : decode cX4_stops 57 = .ok (.iload_n 1, 1) := by decide +kernel
theorem dX4_stops_58 : decode cX4_stops 58 = .ok (.if_icmp .eq 31, 3) := by decide +kernel
theorem dX4_stops_61 : decode cX4_stops 61 = .ok (.aload_n 0, 1) := by decide +kernel
theorem dX4_stops_62 : decode cX4_stops 62 = .ok (.getfield 42, 3) := by decide +kernel
theorem dX4_stops_65 : decode cX4_stops 65 = .ok (.iload_n 3, 1) := by decide +kernel
theorem dX4_stops_66 : decode cX4_stops 66 = .ok (.invokevirtual 184, 3) := by decide +kernel
theorem dX4_stops_69 : decode cX4_stops 69 = .ok (.ifCond .ne 20, 3) := by decide +kernel
theorem dX4_stops_72 : decode cX4_stops 72 = .ok (.aload_n 0, 1) := by decide +kernel
theorem dX4_stops_73 : decode cX4_stops 73 = .ok (.iload_n 1, 1) := by decide +kernel
theorem dX4_stops_74 : decode cX4_stops 74 = .ok (.iload_n 3, 1) := by decide +kernel
theorem dX4_stops_75 : decode cX4_stops 75 = .ok (.invokevirtual 213, 3) := by decide +kernel
theorem dX4_stops_78 : decode cX4_stops 78 = .ok (.bipush (-9), 2) := by decide +kernel
theorem dX4_stops_80 : decode cX4_stops 80 = .ok (.if_icmp .eq 9, 3) := by decide +kernel
theorem dX4_stops_83 : decode cX4_stops 83 = .ok (.iload_n 2, 1) := by decide +kernel
theorem dX4_stops_84 : decode cX4_stops 84 = .ok (.iconst 1, 1) := by decide +kernel
theorem dX4_stops_85 : decode cX4_stops 85 = .ok (.iload_n 3, 1) := by decide +kernel
theorem dX4_stops_86 : decode cX4_stops 86 = .ok (.ishl, 1) := by decide +kernel
theorem dX4_stops_87 : decode cX4_stops 87 = .ok (.ior, 1) := by decide +kernel
theorem dX4_stops_88 : decode cX4_stops 88 = .ok (.istore_n 2, 1) := by decide +kernel
theorem dX4_stops_89 : decode cX4_stops 89 = .ok (.iinc 3 1, 3) := by decide +kernel
theorem dX4_stops_92 : decode cX4_stops 92 = .ok (.goto (-47), 3) := by decide +kernel
theorem dX4_stops_95 : decode cX4_stops 95 = .ok (.iload_n 2, 1) := by decide +kernel
theorem dX4_stops_96 : decode cX4_stops 96 = .ok (.ireturn, 1) := by decide +kernel
theorem dX4_starts_0 : decode cX4_starts 0 = .ok (.aload_n 0, 1) := by decide +kernel
theorem dX4_starts_1 : decode cX4_starts 1 = .ok (.getfield 42, 3) := by decide +kernel
theorem dX4_starts_4 : decode cX4_starts 4 = .ok (.iload_n 1, 1) := by decide +kernel
theorem dX4_starts_5 : decode cX4_starts 5 = .ok (.invokevirtual 121, 3) := by decide +kernel
theorem dX4_starts_8 : decode cX4_starts 8 = .ok (.ifCond .eq 10, 3) := by decide +kernel
theorem dX4_starts_11 : decode cX4_starts 11 = .ok (.iload_n 2, 1) := by decide +kernel
theorem dX4_starts_12 : decode cX4_starts 12 = .ok (.invokestatic 83, 3) := by decide +kernel
theorem dX4_starts_15 : decode cX4_starts 15 = .ok (.ifCond .ne 5, 3) := by decide +kernel
theorem dX4_starts_18 : decode cX4_starts 18 = .ok (.iconst (-1), 1) := by decide +kernel
theorem dX4_starts_19 : decode cX4_starts 19 = .ok (.ireturn, 1) := by decide +kernel
theorem dX4_starts_20 : decode cX4_starts 20 = .ok (.aload_n 0, 1) := by decide +kernel
theorem dX4_starts_21 : decode cX4_starts 21 = .ok (.iload_n 2, 1) := by decide +kernel
theorem dX4_starts_22 : decode cX4_starts 22 = .ok (.invokevirtual 216, 3) := by decide +kernel
theorem dX4_starts_25 : decode cX4_starts 25 = .ok (.istore_n 3, 1) := by decide +kernel
theorem dX4_starts_26 : decode cX4_starts 26 = .ok (.iload_n 3, 1) := by decide +kernel
theorem dX4_starts_27 : decode cX4_starts 27 = .ok (.ifCond .eq 9, 3) := by decide +kernel
theorem dX4_starts_30 : decode cX4_starts 30 = .ok (.aload_n 0, 1) := by decide +kernel
theorem dX4_starts_31 : decode cX4_starts 31 = .ok (.iload_n 3, 1) := by decide +kernel
theorem dX4_starts_32 : decode cX4_starts 32 = .ok (.invokevirtual 87, 3) := by decide +kernel
theorem dX4_starts_35 : decode cX4_starts 35 = .ok (.ireturn, 1) := by decide +kernel
theorem dX4_starts_36 : decode cX4_starts 36 = .ok (.iconst 0, 1) := by decide +kernel
theorem dX4_starts_37 : decode cX4_starts 37 = .ok (.istore 4, 2) := by decide +kernel
theorem dX4_starts_39 : decode cX4_starts 39 = .ok (.iconst 0, 1) := by decide +kernel
theorem dX4_starts_40 : decode cX4_starts 40 = .ok (.istore 5, 2) := by decide +kernel
theorem dX4_starts_42 : decode cX4_starts 42 = .ok (.iload 5, 2) := by decide +kernel
theorem dX4_starts_44 : decode cX4_starts 44 = .ok (.bipush 8, 2) := by decide +kernel
theorem dX4_starts_46 : decode cX4_starts 46 = .ok (.if_icmp .ge 46, 3) := by decide +kernel
theorem dX4_starts_49 : decode cX4_starts 49 = .ok (.aload_n 0, 1) := by decide +kernel
theorem dX4_starts_50 : decode cX4_starts 50 = .ok (.aload_n 0, 1) := by decide +kernel
theorem dX4_starts_51 : decode cX4_starts 51 = .ok (.getfield 42, 3) := by decide +kernel
theorem dX4_starts_54 : decode cX4_starts 54 = .ok (.getfield 128, 3) := by decide +kernel
theorem dX4_starts_57 : decode cX4_starts 57 = .ok (.iload_n 1, 1) := by decide +kernel
theorem dX4_starts_58 : decode cX4_starts 58 = .ok (.iaload, 1) := by decide +kernel
theorem dX4_starts_59 : decode cX4_starts 59 = .ok (.aload_n 0, 1) := by decide +kernel
theorem dX4_starts_60 : decode cX4_starts 60 = .ok (.getfield 42, 3) := by decide +kernel
theorem dX4_starts_63 : decode cX4_starts 63 = .ok (.getfield 219, 3) := by decide +kernel
theorem dX4_starts_66 : decode cX4_starts 66 = .ok (.iload_n 1, 1) := by decide +kernel
theorem dX4_starts_67 : decode cX4_starts 67 = .ok (.iaload, 1) := by decide +kernel
theorem dX4_starts_68 : decode cX4_starts 68 = .ok (.iload 5, 2) := by decide +kernel
theorem dX4_starts_70 : decode cX4_starts 70 = .ok (.iload_n 2, 1) := by decide +kernel
theorem dX4_starts_71 : decode cX4_starts 71 = .ok (.invokevirtual 222, 3) := by decide +kernel
theorem dX4_starts_74 : decode cX4_starts 74 = .ok (.ifCond .eq 12, 3) := by decide +kernel
theorem dX4_starts_77 : decode cX4_starts 77 = .ok (.iload 4, 2) := by decide +kernel
theorem dX4_starts_79 : decode cX4_starts 79 = .ok (.iconst 1, 1) := by decide +kernel
theorem dX4_starts_80 : decode cX4_starts 80 = .ok (.iload 5, 2) := by decide +kernel
theorem dX4_starts_82 : decode cX4_starts 82 = .ok (.ishl, 1) := by decide +kernel
theorem dX4_starts_83 : decode cX4_starts 83 = .ok (.ior, 1) := by decide +kernel
theorem dX4_starts_84 : decode cX4_starts 84 = .ok (.istore 4, 2) := by decide +kernel
theorem dX4_starts_86 : decode cX4_starts 86 = .ok (.iinc 5 1, 3) := by decide +kernel
theorem dX4_starts_89 : decode cX4_starts 89 = .ok (.goto (-47), 3) := by decide +kernel
theorem dX4_starts_92 : decode cX4_starts 92 = .ok (.iload 4, 2) := by decide +kernel
theorem dX4_starts_94 : decode cX4_starts 94 = .ok (.ireturn, 1) := by decide +kernel
theorem dX4_weights_0 : decode cX4_weights 0 = .ok (.aload_n 0, 1) := by decide +kernel
theorem dX4_weights_1 : decode cX4_weights 1 = .ok (.getfield 42, 3) := by decide +kernel
theorem dX4_weights_4 : decode cX4_weights 4 = .ok (.iload_n 1, 1) := by decide +kernel
theorem dX4_weights_5 : decode cX4_weights 5 = .ok (.invokevirtual 121, 3) := by decide +kernel
theorem dX4_weights_8 : decode cX4_weights 8 = .ok (.ifCond .eq 10, 3) := by decide +kernel
theorem dX4_weights_11 : decode cX4_weights 11 = .ok (.iload_n 2, 1) := by decide +kernel
theorem dX4_weights_12 : decode cX4_weights 12 = .ok (.invokestatic 83, 3) := by decide +kernel
theorem dX4_weights_15 : decode cX4_weights 15 = .ok (.ifCond .ne 5, 3) := by decide +kernel
theorem dX4_weights_18 : decode cX4_weights 18 = .ok (.iconst (-1), 1) := by decide +kernel
theorem dX4_weights_19 : decode cX4_weights 19 = .ok (.ireturn, 1) := by decide +kernel
theorem dX4_weights_20 : decode cX4_weights 20 = .ok (.aload_n 0, 1) := by decide +kernel
theorem dX4_weights_21 : decode cX4_weights 21 = .ok (.iload_n 2, 1) := by decide +kernel
theorem dX4_weights_22 : decode cX4_weights 22 = .ok (.invokevirtual 216, 3) := by decide +kernel
theorem dX4_weights_25 : decode cX4_weights 25 = .ok (.istore_n 3, 1) := by decide +kernel
theorem dX4_weights_26 : decode cX4_weights 26 = .ok (.iload_n 3, 1) := by decide +kernel
theorem dX4_weights_27 : decode cX4_weights 27 = .ok (.ifCond .eq 9, 3) := by decide +kernel
theorem dX4_weights_30 : decode cX4_weights 30 = .ok (.aload_n 0, 1) := by decide +kernel
theorem dX4_weights_31 : decode cX4_weights 31 = .ok (.iload_n 3, 1) := by decide +kernel
theorem dX4_weights_32 : decode cX4_weights 32 = .ok (.invokevirtual 87, 3) := by decide +kernel
theorem dX4_weights_35 : decode cX4_weights 35 = .ok (.ireturn, 1) := by decide +kernel
theorem dX4_weights_36 : decode cX4_weights 36 = .ok (.aload_n 0, 1) := by decide +kernel
theorem dX4_weights_37 : decode cX4_weights 37 = .ok (.getfield 42, 3) := by decide +kernel
theorem dX4_weights_40 : decode cX4_weights 40 = .ok (.iload_n 1, 1) := by decide +kernel
theorem dX4_weights_41 : decode cX4_weights 41 = .ok (.invokevirtual 184, 3) := by decide +kernel
theorem dX4_weights_44 : decode cX4_weights 44 = .ok (.ifCond .eq 6, 3) := by decide +kernel
theorem dX4_weights_47 : decode cX4_weights 47 = .ok (.bipush (-4), 2) := by decide +kernel
theorem dX4_weights_49 : decode cX4_weights 49 = .ok (.ireturn, 1) := by decide +kernel
theorem dX4_weights_50 : decode cX4_weights 50 = .ok (.iconst 0, 1) := by decide +kernel
theorem dX4_weights_51 : decode cX4_weights 51 = .ok (.istore 4, 2) := by decide +kernel
theorem dX4_weights_53 : decode cX4_weights 53 = .ok (.iconst 0, 1) := by decide +kernel
theorem dX4_weights_54 : decode cX4_weights 54 = .ok (.istore 5, 2) := by decide +kernel
theorem dX4_weights_56 : decode cX4_weights 56 = .ok (.iload 5, 2) := by decide +kernel
theorem dX4_weights_58 : decode cX4_weights 58 = .ok (.bipush 10, 2) := by decide +kernel
theorem dX4_weights_60 : decode cX4_weights 60 = .ok (.if_icmp .ge 46, 3) := by decide +kernel
theorem dX4_weights_63 : decode cX4_weights 63 = .ok (.aload_n 0, 1) := by decide +kernel
theorem dX4_weights_64 : decode cX4_weights 64 = .ok (.aload_n 0, 1) := by decide +kernel
theorem dX4_weights_65 : decode cX4_weights 65 = .ok (.getfield 42, 3) := by decide +kernel
theorem dX4_weights_68 : decode cX4_weights 68 = .ok (.getfield 128, 3) := by decide +kernel
theorem dX4_weights_71 : decode cX4_weights 71 = .ok (.iload_n 1, 1) := by decide +kernel
theorem dX4_weights_72 : decode cX4_weights 72 = .ok (.iaload, 1) := by decide +kernel
theorem dX4_weights_73 : decode cX4_weights 73 = .ok (.iload 5, 2) := by decide +kernel
theorem dX4_weights_75 : decode cX4_weights 75 = .ok (.aload_n 0, 1) := by decide +kernel
theorem dX4_weights_76 : decode cX4_weights 76 = .ok (.getfield 42, 3) := by decide +kernel
theorem dX4_weights_79 : decode cX4_weights 79 = .ok (.getfield 160, 3) := by decide +kernel
theorem dX4_weights_82 : decode cX4_weights 82 = .ok (.iload_n 1, 1) := by decide +kernel
theorem dX4_weights_83 : decode cX4_weights 83 = .ok (.iaload, 1) := by decide +kernel
theorem dX4_weights_84 : decode cX4_weights 84 = .ok (.iload_n 2, 1) := by decide +kernel
theorem dX4_weights_85 : decode cX4_weights 85 = .ok (.invokevirtual 222, 3) := by decide +kernel
theorem dX4_weights_88 : decode cX4_weights 88 = .ok (.ifCond .eq 12, 3) := by decide +kernel
theorem dX4_weights_91 : decode cX4_weights 91 = .ok (.iload 4, 2) := by decide +kernel
theorem dX4_weights_93 : decode cX4_weights 93 = .ok (.iconst 1, 1) := by decide +kernel
theorem dX4_weights_94 : decode cX4_weights 94 = .ok (.iload 5, 2) := by decide +kernel
theorem dX4_weights_96 : decode cX4_weights 96 = .ok (.ishl, 1) := by decide +kernel
theorem dX4_weights_97 : decode cX4_weights 97 = .ok (.ior, 1) := by decide +kernel
theorem dX4_weights_98 : decode cX4_weights 98 = .ok (.istore 4, 2) := by decide +kernel
theorem dX4_weights_100 : decode cX4_weights 100 = .ok (.iinc 5 1, 3) := by decide +kernel
theorem dX4_weights_103 : decode cX4_weights 103 = .ok (.goto (-47), 3) := by decide +kernel
theorem dX4_weights_106 : decode cX4_weights 106 = .ok (.iload 4, 2) := by decide +kernel
theorem dX4_weights_108 : decode cX4_weights 108 = .ok (.ireturn, 1) := by decide +kernel
theorem dX4_kinds_0 : decode cX4_kinds 0 = .ok (.aload_n 0, 1) := by decide +kernel
theorem dX4_kinds_1 : decode cX4_kinds 1 = .ok (.getfield 42, 3) := by decide +kernel
theorem dX4_kinds_4 : decode cX4_kinds 4 = .ok (.iload_n 1, 1) := by decide +kernel
theorem dX4_kinds_5 : decode cX4_kinds 5 = .ok (.invokevirtual 121, 3) := by decide +kernel
theorem dX4_kinds_8 : decode cX4_kinds 8 = .ok (.ifCond .eq 10, 3) := by decide +kernel
theorem dX4_kinds_11 : decode cX4_kinds 11 = .ok (.iload_n 2, 1) := by decide +kernel
theorem dX4_kinds_12 : decode cX4_kinds 12 = .ok (.invokestatic 83, 3) := by decide +kernel
theorem dX4_kinds_15 : decode cX4_kinds 15 = .ok (.ifCond .ne 5, 3) := by decide +kernel
theorem dX4_kinds_18 : decode cX4_kinds 18 = .ok (.iconst (-1), 1) := by decide +kernel
theorem dX4_kinds_19 : decode cX4_kinds 19 = .ok (.ireturn, 1) := by decide +kernel
theorem dX4_kinds_20 : decode cX4_kinds 20 = .ok (.aload_n 0, 1) := by decide +kernel
theorem dX4_kinds_21 : decode cX4_kinds 21 = .ok (.iload_n 2, 1) := by decide +kernel
theorem dX4_kinds_22 : decode cX4_kinds 22 = .ok (.invokevirtual 216, 3) := by decide +kernel
theorem dX4_kinds_25 : decode cX4_kinds 25 = .ok (.istore_n 3, 1) := by decide +kernel
theorem dX4_kinds_26 : decode cX4_kinds 26 = .ok (.iload_n 3, 1) := by decide +kernel
theorem dX4_kinds_27 : decode cX4_kinds 27 = .ok (.ifCond .eq 9, 3) := by decide +kernel
theorem dX4_kinds_30 : decode cX4_kinds 30 = .ok (.aload_n 0, 1) := by decide +kernel
theorem dX4_kinds_31 : decode cX4_kinds 31 = .ok (.iload_n 3, 1) := by decide +kernel
theorem dX4_kinds_32 : decode cX4_kinds 32 = .ok (.invokevirtual 87, 3) := by decide +kernel
theorem dX4_kinds_35 : decode cX4_kinds 35 = .ok (.ireturn, 1) := by decide +kernel
theorem dX4_kinds_36 : decode cX4_kinds 36 = .ok (.aload_n 0, 1) := by decide +kernel
theorem dX4_kinds_37 : decode cX4_kinds 37 = .ok (.getfield 42, 3) := by decide +kernel
theorem dX4_kinds_40 : decode cX4_kinds 40 = .ok (.iload_n 1, 1) := by decide +kernel
theorem dX4_kinds_41 : decode cX4_kinds 41 = .ok (.invokevirtual 184, 3) := by decide +kernel
theorem dX4_kinds_44 : decode cX4_kinds 44 = .ok (.ifCond .eq 6, 3) := by decide +kernel
theorem dX4_kinds_47 : decode cX4_kinds 47 = .ok (.bipush (-4), 2) := by decide +kernel
theorem dX4_kinds_49 : decode cX4_kinds 49 = .ok (.ireturn, 1) := by decide +kernel
theorem dX4_kinds_50 : decode cX4_kinds 50 = .ok (.iconst 0, 1) := by decide +kernel
theorem dX4_kinds_51 : decode cX4_kinds 51 = .ok (.istore 4, 2) := by decide +kernel
theorem dX4_kinds_53 : decode cX4_kinds 53 = .ok (.iconst 0, 1) := by decide +kernel
theorem dX4_kinds_54 : decode cX4_kinds 54 = .ok (.istore 5, 2) := by decide +kernel
theorem dX4_kinds_56 : decode cX4_kinds 56 = .ok (.iload 5, 2) := by decide +kernel
theorem dX4_kinds_58 : decode cX4_kinds 58 = .ok (.bipush 6, 2) := by decide +kernel
theorem dX4_kinds_60 : decode cX4_kinds 60 = .ok (.if_icmp .ge 46, 3) := by decide +kernel
theorem dX4_kinds_63 : decode cX4_kinds 63 = .ok (.aload_n 0, 1) := by decide +kernel
theorem dX4_kinds_64 : decode cX4_kinds 64 = .ok (.iload 5, 2) := by decide +kernel
theorem dX4_kinds_66 : decode cX4_kinds 66 = .ok (.aload_n 0, 1) := by decide +kernel
theorem dX4_kinds_67 : decode cX4_kinds 67 = .ok (.getfield 42, 3) := by decide +kernel
theorem dX4_kinds_70 : decode cX4_kinds 70 = .ok (.getfield 219, 3) := by decide +kernel
theorem dX4_kinds_73 : decode cX4_kinds 73 = .ok (.iload_n 1, 1) := by decide +kernel
theorem dX4_kinds_74 : decode cX4_kinds 74 = .ok (.iaload, 1) := by decide +kernel
theorem dX4_kinds_75 : decode cX4_kinds 75 = .ok (.aload_n 0, 1) := by decide +kernel
theorem dX4_kinds_76 : decode cX4_kinds 76 = .ok (.getfield 42, 3) := by decide +kernel
theorem dX4_kinds_79 : decode cX4_kinds 79 = .ok (.getfield 160, 3) := by decide +kernel
theorem dX4_kinds_82 : decode cX4_kinds 82 = .ok (.iload_n 1, 1) := by decide +kernel
theorem dX4_kinds_83 : decode cX4_kinds 83 = .ok (.iaload, 1) := by decide +kernel
theorem dX4_kinds_84 : decode cX4_kinds 84 = .ok (.iload_n 2, 1) := by decide +kernel
theorem dX4_kinds_85 : decode cX4_kinds 85 = .ok (.invokevirtual 222, 3) := by decide +kernel
theorem dX4_kinds_88 : decode cX4_kinds 88 = .ok (.ifCond .eq 12, 3) := by decide +kernel
theorem dX4_kinds_91 : decode cX4_kinds 91 = .ok (.iload 4, 2) := by decide +kernel
theorem dX4_kinds_93 : decode cX4_kinds 93 = .ok (.iconst 1, 1) := by decide +kernel
theorem dX4_kinds_94 : decode cX4_kinds 94 = .ok (.iload 5, 2) := by decide +kernel
theorem dX4_kinds_96 : decode cX4_kinds 96 = .ok (.ishl, 1) := by decide +kernel
theorem dX4_kinds_97 : decode cX4_kinds 97 = .ok (.ior, 1) := by decide +kernel
theorem dX4_kinds_98 : decode cX4_kinds 98 = .ok (.istore 4, 2) := by decide +kernel
theorem dX4_kinds_100 : decode cX4_kinds 100 = .ok (.iinc 5 1, 3) := by decide +kernel
theorem dX4_kinds_103 : decode cX4_kinds 103 = .ok (.goto (-47), 3) := by decide +kernel
theorem dX4_kinds_106 : decode cX4_kinds 106 = .ok (.iload 4, 2) := by decide +kernel
theorem dX4_kinds_108 : decode cX4_kinds 108 = .ok (.ireturn, 1) := by decide +kernel
theorem dX4_night_0 : decode cX4_night 0 = .ok (.aload_n 0, 1) := by decide +kernel
theorem dX4_night_1 : decode cX4_night 1 = .ok (.getfield 42, 3) := by decide +kernel
theorem dX4_night_4 : decode cX4_night 4 = .ok (.iload_n 1, 1) := by decide +kernel
theorem dX4_night_5 : decode cX4_night 5 = .ok (.invokevirtual 121, 3) := by decide +kernel
theorem dX4_night_8 : decode cX4_night 8 = .ok (.ifCond .eq 33, 3) := by decide +kernel
theorem dX4_night_11 : decode cX4_night 11 = .ok (.iload_n 2, 1) := by decide +kernel
theorem dX4_night_12 : decode cX4_night 12 = .ok (.invokestatic 138, 3) := by decide +kernel
theorem dX4_night_15 : decode cX4_night 15 = .ok (.ifCond .eq 26, 3) := by decide +kernel
theorem dX4_night_18 : decode cX4_night 18 = .ok (.iload_n 3, 1) := by decide +kernel
theorem dX4_night_19 : decode cX4_night 19 = .ok (.invokestatic 138, 3) := by decide +kernel
theorem dX4_night_22 : decode cX4_night 22 = .ok (.ifCond .eq 19, 3) := by decide +kernel
theorem dX4_night_25 : decode cX4_night 25 = .ok (.iload_n 2, 1) := by decide +kernel
theorem dX4_night_26 : decode cX4_night 26 = .ok (.iload_n 3, 1) := by decide +kernel
theorem dX4_night_27 : decode cX4_night 27 = .ok (.if_icmp .eq 14, 3) := by decide +kernel
theorem dX4_night_30 : decode cX4_night 30 = .ok (.iload 4, 2) := by decide +kernel
theorem dX4_night_32 : decode cX4_night 32 = .ok (.ifCond .lt 9, 3) := by decide +kernel
theorem dX4_night_35 : decode cX4_night 35 = .ok (.iload 4, 2) := by decide +kernel
theorem dX4_night_37 : decode cX4_night 37 = .ok (.iconst 3, 1) := by decide +kernel
theorem dX4_night_38 : decode cX4_night 38 = .ok (.if_icmp .le 5, 3) := by decide +kernel
theorem dX4_night_41 : decode cX4_night 41 = .ok (.iconst (-1), 1) := by decide +kernel
theorem dX4_night_42 : decode cX4_night 42 = .ok (.ireturn, 1) := by decide +kernel
theorem dX4_night_43 : decode cX4_night 43 = .ok (.aload_n 0, 1) := by decide +kernel
theorem dX4_night_44 : decode cX4_night 44 = .ok (.getfield 42, 3) := by decide +kernel
theorem dX4_night_47 : decode cX4_night 47 = .ok (.iload_n 1, 1) := by decide +kernel
theorem dX4_night_48 : decode cX4_night 48 = .ok (.invokevirtual 184, 3) := by decide +kernel
theorem dX4_night_51 : decode cX4_night 51 = .ok (.ifCond .eq 6, 3) := by decide +kernel
theorem dX4_night_54 : decode cX4_night 54 = .ok (.bipush (-4), 2) := by decide +kernel
theorem dX4_night_56 : decode cX4_night 56 = .ok (.ireturn, 1) := by decide +kernel
theorem dX4_night_57 : decode cX4_night 57 = .ok (.aload_n 0, 1) := by decide +kernel
theorem dX4_night_58 : decode cX4_night 58 = .ok (.aload_n 0, 1) := by decide +kernel
theorem dX4_night_59 : decode cX4_night 59 = .ok (.getfield 42, 3) := by decide +kernel
theorem dX4_night_62 : decode cX4_night 62 = .ok (.getfield 160, 3) := by decide +kernel
theorem dX4_night_65 : decode cX4_night 65 = .ok (.iload_n 1, 1) := by decide +kernel
theorem dX4_night_66 : decode cX4_night 66 = .ok (.iaload, 1) := by decide +kernel
theorem dX4_night_67 : decode cX4_night 67 = .ok (.iload_n 2, 1) := by decide +kernel
theorem dX4_night_68 : decode cX4_night 68 = .ok (.iload_n 3, 1) := by decide +kernel
theorem dX4_night_69 : decode cX4_night 69 = .ok (.iconst 2, 1) := by decide +kernel
theorem dX4_night_70 : decode cX4_night 70 = .ok (.iload 4, 2) := by decide +kernel
theorem dX4_night_72 : decode cX4_night 72 = .ok (.imul, 1) := by decide +kernel
theorem dX4_night_73 : decode cX4_night 73 = .ok (.invokestatic 226, 3) := by decide +kernel
theorem dX4_night_76 : decode cX4_night 76 = .ok (.invokevirtual 91, 3) := by decide +kernel
theorem dX4_night_79 : decode cX4_night 79 = .ok (.ireturn, 1) := by decide +kernel
theorem dX4_odds_0 : decode cX4_odds 0 = .ok (.iload_n 2, 1) := by decide +kernel
theorem dX4_odds_1 : decode cX4_odds 1 = .ok (.invokestatic 138, 3) := by decide +kernel
theorem dX4_odds_4 : decode cX4_odds 4 = .ok (.ifCond .eq 14, 3) := by decide +kernel
theorem dX4_odds_7 : decode cX4_odds 7 = .ok (.aload_n 0, 1) := by decide +kernel
theorem dX4_odds_8 : decode cX4_odds 8 = .ok (.iload_n 1, 1) := by decide +kernel
theorem dX4_odds_9 : decode cX4_odds 9 = .ok (.iload_n 3, 1) := by decide +kernel
theorem dX4_odds_10 : decode cX4_odds 10 = .ok (.iload 4, 2) := by decide +kernel
theorem dX4_odds_12 : decode cX4_odds 12 = .ok (.invokevirtual 230, 3) := by decide +kernel
theorem dX4_odds_15 : decode cX4_odds 15 = .ok (.ifCond .ne 5, 3) := by decide +kernel
theorem dX4_odds_18 : decode cX4_odds 18 = .ok (.iconst (-1), 1) := by decide +kernel
theorem dX4_odds_19 : decode cX4_odds 19 = .ok (.ireturn, 1) := by decide +kernel
theorem dX4_odds_20 : decode cX4_odds 20 = .ok (.aload_n 0, 1) := by decide +kernel
theorem dX4_odds_21 : decode cX4_odds 21 = .ok (.getfield 42, 3) := by decide +kernel
theorem dX4_odds_24 : decode cX4_odds 24 = .ok (.iload_n 1, 1) := by decide +kernel
theorem dX4_odds_25 : decode cX4_odds 25 = .ok (.invokevirtual 184, 3) := by decide +kernel
theorem dX4_odds_28 : decode cX4_odds 28 = .ok (.ifCond .eq 6, 3) := by decide +kernel
theorem dX4_odds_31 : decode cX4_odds 31 = .ok (.bipush (-4), 2) := by decide +kernel
theorem dX4_odds_33 : decode cX4_odds 33 = .ok (.ireturn, 1) := by decide +kernel
theorem dX4_odds_34 : decode cX4_odds 34 = .ok (.aload_n 0, 1) := by decide +kernel
theorem dX4_odds_35 : decode cX4_odds 35 = .ok (.aload_n 0, 1) := by decide +kernel
theorem dX4_odds_36 : decode cX4_odds 36 = .ok (.getfield 42, 3) := by decide +kernel
theorem dX4_odds_39 : decode cX4_odds 39 = .ok (.iload_n 1, 1) := by decide +kernel
theorem dX4_odds_40 : decode cX4_odds 40 = .ok (.aload_n 0, 1) := by decide +kernel
theorem dX4_odds_41 : decode cX4_odds 41 = .ok (.getfield 42, 3) := by decide +kernel
theorem dX4_odds_44 : decode cX4_odds 44 = .ok (.getfield 160, 3) := by decide +kernel
theorem dX4_odds_47 : decode cX4_odds 47 = .ok (.iload_n 1, 1) := by decide +kernel
theorem dX4_odds_48 : decode cX4_odds 48 = .ok (.iaload, 1) := by decide +kernel
theorem dX4_odds_49 : decode cX4_odds 49 = .ok (.iload_n 3, 1) := by decide +kernel
theorem dX4_odds_50 : decode cX4_odds 50 = .ok (.iload 4, 2) := by decide +kernel
theorem dX4_odds_52 : decode cX4_odds 52 = .ok (.iload_n 2, 1) := by decide +kernel
theorem dX4_odds_53 : decode cX4_odds 53 = .ok (.aload_n 0, 1) := by decide +kernel
theorem dX4_odds_54 : decode cX4_odds 54 = .ok (.getfield 42, 3) := by decide +kernel
theorem dX4_odds_57 : decode cX4_odds 57 = .ok (.getfield 151, 3) := by decide +kernel
theorem dX4_odds_60 : decode cX4_odds 60 = .ok (.invokevirtual 233, 3) := by decide +kernel
theorem dX4_odds_63 : decode cX4_odds 63 = .ok (.iload_n 3, 1) := by decide +kernel
theorem dX4_odds_64 : decode cX4_odds 64 = .ok (.invokestatic 237, 3) := by decide +kernel
theorem dX4_odds_67 : decode cX4_odds 67 = .ok (.invokevirtual 241, 3) := by decide +kernel
theorem dX4_odds_70 : decode cX4_odds 70 = .ok (.ireturn, 1) := by decide +kernel
theorem dX4_mid_0 : decode cX4_mid 0 = .ok (.aload_n 0, 1) := by decide +kernel
theorem dX4_mid_1 : decode cX4_mid 1 = .ok (.iload_n 1, 1) := by decide +kernel
theorem dX4_mid_2 : decode cX4_mid 2 = .ok (.iload_n 2, 1) := by decide +kernel
theorem dX4_mid_3 : decode cX4_mid 3 = .ok (.iload_n 3, 1) := by decide +kernel
theorem dX4_mid_4 : decode cX4_mid 4 = .ok (.invokevirtual 230, 3) := by decide +kernel
theorem dX4_mid_7 : decode cX4_mid 7 = .ok (.ifCond .ne 5, 3) := by decide +kernel
theorem dX4_mid_10 : decode cX4_mid 10 = .ok (.iconst (-1), 1) := by decide +kernel
theorem dX4_mid_11 : decode cX4_mid 11 = .ok (.ireturn, 1) := by decide +kernel
theorem dX4_mid_12 : decode cX4_mid 12 = .ok (.aload_n 0, 1) := by decide +kernel
theorem dX4_mid_13 : decode cX4_mid 13 = .ok (.getfield 42, 3) := by decide +kernel
theorem dX4_mid_16 : decode cX4_mid 16 = .ok (.iload_n 1, 1) := by decide +kernel
theorem dX4_mid_17 : decode cX4_mid 17 = .ok (.invokevirtual 184, 3) := by decide +kernel
theorem dX4_mid_20 : decode cX4_mid 20 = .ok (.ifCond .eq 6, 3) := by decide +kernel
theorem dX4_mid_23 : decode cX4_mid 23 = .ok (.bipush (-4), 2) := by decide +kernel
theorem dX4_mid_25 : decode cX4_mid 25 = .ok (.ireturn, 1) := by decide +kernel
theorem dX4_mid_26 : decode cX4_mid 26 = .ok (.aload_n 0, 1) := by decide +kernel
theorem dX4_mid_27 : decode cX4_mid 27 = .ok (.aload_n 0, 1) := by decide +kernel
theorem dX4_mid_28 : decode cX4_mid 28 = .ok (.getfield 42, 3) := by decide +kernel
theorem dX4_mid_31 : decode cX4_mid 31 = .ok (.iload_n 1, 1) := by decide +kernel
theorem dX4_mid_32 : decode cX4_mid 32 = .ok (.aload_n 0, 1) := by decide +kernel
theorem dX4_mid_33 : decode cX4_mid 33 = .ok (.getfield 42, 3) := by decide +kernel
theorem dX4_mid_36 : decode cX4_mid 36 = .ok (.getfield 160, 3) := by decide +kernel
theorem dX4_mid_39 : decode cX4_mid 39 = .ok (.iload_n 1, 1) := by decide +kernel
theorem dX4_mid_40 : decode cX4_mid 40 = .ok (.iaload, 1) := by decide +kernel
theorem dX4_mid_41 : decode cX4_mid 41 = .ok (.iload_n 2, 1) := by decide +kernel
theorem dX4_mid_42 : decode cX4_mid 42 = .ok (.iload_n 3, 1) := by decide +kernel
theorem dX4_mid_43 : decode cX4_mid 43 = .ok (.bipush (-9), 2) := by decide +kernel
theorem dX4_mid_45 : decode cX4_mid 45 = .ok (.aload_n 0, 1) := by decide +kernel
theorem dX4_mid_46 : decode cX4_mid 46 = .ok (.getfield 42, 3) := by decide +kernel
theorem dX4_mid_49 : decode cX4_mid 49 = .ok (.getfield 151, 3) := by decide +kernel
theorem dX4_mid_52 : decode cX4_mid 52 = .ok (.invokevirtual 233, 3) := by decide +kernel
theorem dX4_mid_55 : decode cX4_mid 55 = .ok (.iload_n 2, 1) := by decide +kernel
theorem dX4_mid_56 : decode cX4_mid 56 = .ok (.invokestatic 237, 3) := by decide +kernel
theorem dX4_mid_59 : decode cX4_mid 59 = .ok (.invokevirtual 241, 3) := by decide +kernel
theorem dX4_mid_62 : decode cX4_mid 62 = .ok (.ireturn, 1) := by decide +kernel
theorem dX4_lots_0 : decode cX4_lots 0 = .ok (.iload_n 1, 1) := by decide +kernel
theorem dX4_lots_1 : decode cX4_lots 1 = .ok (.iconst 1, 1) := by decide +kernel
theorem dX4_lots_2 : decode cX4_lots 2 = .ok (.if_icmp .lt 23, 3) := by decide +kernel
theorem dX4_lots_5 : decode cX4_lots 5 = .ok (.iload_n 1, 1) := by decide +kernel
theorem dX4_lots_6 : decode cX4_lots 6 = .ok (.bipush 20, 2) := by decide +kernel
theorem dX4_lots_8 : decode cX4_lots 8 = .ok (.if_icmp .gt 17, 3) := by decide +kernel
theorem dX4_lots_11 : decode cX4_lots 11 = .ok (.iload_n 2, 1) := by decide +kernel
theorem dX4_lots_12 : decode cX4_lots 12 = .ok (.iconst 1, 1) := by decide +kernel
theorem dX4_lots_13 : decode cX4_lots 13 = .ok (.if_icmp .lt 12, 3) := by decide +kernel
theorem dX4_lots_16 : decode cX4_lots 16 = .ok (.iload_n 2, 1) := by decide +kernel
theorem dX4_lots_17 : decode cX4_lots 17 = .ok (.i2l, 1) := by decide +kernel
theorem dX4_lots_18 : decode cX4_lots 18 = .ok (.ldc2_w 245, 3) := by decide +kernel
theorem dX4_lots_21 : decode cX4_lots 21 = .ok (.lcmp, 1) := by decide +kernel
theorem dX4_lots_22 : decode cX4_lots 22 = .ok (.ifCond .lt 5, 3) := by decide +kernel
theorem dX4_lots_25 : decode cX4_lots 25 = .ok (.iconst (-1), 1) := by decide +kernel
theorem dX4_lots_26 : decode cX4_lots 26 = .ok (.ireturn, 1) := by decide +kernel
theorem dX4_lots_27 : decode cX4_lots 27 = .ok (.aload_n 0, 1) := by decide +kernel
theorem dX4_lots_28 : decode cX4_lots 28 = .ok (.getfield 42, 3) := by decide +kernel
theorem dX4_lots_31 : decode cX4_lots 31 = .ok (.getfield 118, 3) := by decide +kernel
theorem dX4_lots_34 : decode cX4_lots 34 = .ok (.ifCond .ne 6, 3) := by decide +kernel
theorem dX4_lots_37 : decode cX4_lots 37 = .ok (.bipush (-4), 2) := by decide +kernel
theorem dX4_lots_39 : decode cX4_lots 39 = .ok (.ireturn, 1) := by decide +kernel
theorem dX4_lots_40 : decode cX4_lots 40 = .ok (.aload_n 0, 1) := by decide +kernel
theorem dX4_lots_41 : decode cX4_lots 41 = .ok (.getfield 42, 3) := by decide +kernel
theorem dX4_lots_44 : decode cX4_lots 44 = .ok (.getfield 144, 3) := by decide +kernel
theorem dX4_lots_47 : decode cX4_lots 47 = .ok (.iload_n 1, 1) := by decide +kernel
theorem dX4_lots_48 : decode cX4_lots 48 = .ok (.iadd, 1) := by decide +kernel
theorem dX4_lots_49 : decode cX4_lots 49 = .ok (.bipush 40, 2) := by decide +kernel
theorem dX4_lots_51 : decode cX4_lots 51 = .ok (.if_icmp .le 6, 3) := by decide +kernel
theorem dX4_lots_54 : decode cX4_lots 54 = .ok (.bipush (-2), 2) := by decide +kernel
theorem dX4_lots_56 : decode cX4_lots 56 = .ok (.ireturn, 1) := by decide +kernel
theorem dX4_lots_57 : decode cX4_lots 57 = .ok (.iload_n 2, 1) := by decide +kernel
theorem dX4_lots_58 : decode cX4_lots 58 = .ok (.i2l, 1) := by decide +kernel
theorem dX4_lots_59 : decode cX4_lots 59 = .ok (.lstore_n 3, 1) := by decide +kernel
theorem dX4_lots_60 : decode cX4_lots 60 = .ok (.iconst 0, 1) := by decide +kernel
theorem dX4_lots_61 : decode cX4_lots 61 = .ok (.istore 5, 2) := by decide +kernel
theorem dX4_lots_63 : decode cX4_lots 63 = .ok (.iload 5, 2) := by decide +kernel
theorem dX4_lots_65 : decode cX4_lots 65 = .ok (.iload_n 1, 1) := by decide +kernel
theorem dX4_lots_66 : decode cX4_lots 66 = .ok (.if_icmp .ge 27, 3) := by decide +kernel
theorem dX4_lots_69 : decode cX4_lots 69 = .ok (.lload_n 3, 1) := by decide +kernel
theorem dX4_lots_70 : decode cX4_lots 70 = .ok (.ldc2_w 247, 3) := by decide +kernel
theorem dX4_lots_73 : decode cX4_lots 73 = .ok (.lmul, 1) := by decide +kernel
theorem dX4_lots_74 : decode cX4_lots 74 = .ok (.ldc2_w 245, 3) := by decide +kernel
theorem dX4_lots_77 : decode cX4_lots 77 = .ok (.lrem, 1) := by decide +kernel
theorem dX4_lots_78 : decode cX4_lots 78 = .ok (.lstore_n 3, 1) := by decide +kernel
theorem dX4_lots_79 : decode cX4_lots 79 = .ok (.aload_n 0, 1) := by decide +kernel
theorem dX4_lots_80 : decode cX4_lots 80 = .ok (.getfield 42, 3) := by decide +kernel
theorem dX4_lots_83 : decode cX4_lots 83 = .ok (.lload_n 3, 1) := by decide +kernel
theorem dX4_lots_84 : decode cX4_lots 84 = .ok (.invokevirtual 249, 3) := by decide +kernel
theorem dX4_lots_87 : decode cX4_lots 87 = .ok (.iinc 5 1, 3) := by decide +kernel
theorem dX4_lots_90 : decode cX4_lots 90 = .ok (.goto (-27), 3) := by decide +kernel
theorem dX4_lots_93 : decode cX4_lots 93 = .ok (.aload_n 0, 1) := by decide +kernel
theorem dX4_lots_94 : decode cX4_lots 94 = .ok (.getfield 42, 3) := by decide +kernel
theorem dX4_lots_97 : decode cX4_lots 97 = .ok (.getfield 154, 3) := by decide +kernel
theorem dX4_lots_100 : decode cX4_lots 100 = .ok (.ireturn, 1) := by decide +kernel
theorem dX4_asked_0 : decode cX4_asked 0 = .ok (.aload_n 0, 1) := by decide +kernel
theorem dX4_asked_1 : decode cX4_asked 1 = .ok (.getfield 67, 3) := by decide +kernel
theorem dX4_asked_4 : decode cX4_asked 4 = .ok (.ireturn, 1) := by decide +kernel
theorem dX4_upper_0 : decode cX4_upper 0 = .ok (.aload_n 0, 1) := by decide +kernel
theorem dX4_upper_1 : decode cX4_upper 1 = .ok (.getfield 70, 3) := by decide +kernel
theorem dX4_upper_4 : decode cX4_upper 4 = .ok (.lreturn, 1) := by decide +kernel
theorem dX4_lower_0 : decode cX4_lower 0 = .ok (.aload_n 0, 1) := by decide +kernel
theorem dX4_lower_1 : decode cX4_lower 1 = .ok (.getfield 74, 3) := by decide +kernel
theorem dX4_lower_4 : decode cX4_lower 4 = .ok (.lreturn, 1) := by decide +kernel
theorem dX4_count_0 : decode cX4_count 0 = .ok (.iload_n 1, 1) := by decide +kernel
theorem dX4_count_1 : decode cX4_count 1 = .ok (.tableswitch 149 0 10 #[59, 67, 75, 83, 91, 99, 107, 116, 125, 133, 141], 59) := by decide +kernel
theorem dX4_count_60 : decode cX4_count 60 = .ok (.aload_n 0, 1) := by decide +kernel
theorem dX4_count_61 : decode cX4_count 61 = .ok (.getfield 42, 3) := by decide +kernel
theorem dX4_count_64 : decode cX4_count 64 = .ok (.getfield 118, 3) := by decide +kernel
theorem dX4_count_67 : decode cX4_count 67 = .ok (.ireturn, 1) := by decide +kernel
theorem dX4_count_68 : decode cX4_count 68 = .ok (.aload_n 0, 1) := by decide +kernel
theorem dX4_count_69 : decode cX4_count 69 = .ok (.getfield 42, 3) := by decide +kernel
theorem dX4_count_72 : decode cX4_count 72 = .ok (.getfield 151, 3) := by decide +kernel
theorem dX4_count_75 : decode cX4_count 75 = .ok (.ireturn, 1) := by decide +kernel
theorem dX4_count_76 : decode cX4_count 76 = .ok (.aload_n 0, 1) := by decide +kernel
theorem dX4_count_77 : decode cX4_count 77 = .ok (.getfield 42, 3) := by decide +kernel
theorem dX4_count_80 : decode cX4_count 80 = .ok (.getfield 144, 3) := by decide +kernel
theorem dX4_count_83 : decode cX4_count 83 = .ok (.ireturn, 1) := by decide +kernel
theorem dX4_count_84 : decode cX4_count 84 = .ok (.aload_n 0, 1) := by decide +kernel
theorem dX4_count_85 : decode cX4_count 85 = .ok (.getfield 42, 3) := by decide +kernel
theorem dX4_count_88 : decode cX4_count 88 = .ok (.getfield 154, 3) := by decide +kernel
theorem dX4_count_91 : decode cX4_count 91 = .ok (.ireturn, 1) := by decide +kernel
theorem dX4_count_92 : decode cX4_count 92 = .ok (.aload_n 0, 1) := by decide +kernel
theorem dX4_count_93 : decode cX4_count 93 = .ok (.getfield 42, 3) := by decide +kernel
theorem dX4_count_96 : decode cX4_count 96 = .ok (.getfield 253, 3) := by decide +kernel
theorem dX4_count_99 : decode cX4_count 99 = .ok (.ireturn, 1) := by decide +kernel
theorem dX4_count_100 : decode cX4_count 100 = .ok (.aload_n 0, 1) := by decide +kernel
theorem dX4_count_101 : decode cX4_count 101 = .ok (.getfield 42, 3) := by decide +kernel
theorem dX4_count_104 : decode cX4_count 104 = .ok (.invokevirtual 256, 3) := by decide +kernel
theorem dX4_count_107 : decode cX4_count 107 = .ok (.ireturn, 1) := by decide +kernel
theorem dX4_count_108 : decode cX4_count 108 = .ok (.aload_n 0, 1) := by decide +kernel
theorem dX4_count_109 : decode cX4_count 109 = .ok (.getfield 42, 3) := by decide +kernel
theorem dX4_count_112 : decode cX4_count 112 = .ok (.iconst 1, 1) := by decide +kernel
theorem dX4_count_113 : decode cX4_count 113 = .ok (.invokevirtual 260, 3) := by decide +kernel
theorem dX4_count_116 : decode cX4_count 116 = .ok (.ireturn, 1) := by decide +kernel
theorem dX4_count_117 : decode cX4_count 117 = .ok (.aload_n 0, 1) := by decide +kernel
theorem dX4_count_118 : decode cX4_count 118 = .ok (.getfield 42, 3) := by decide +kernel
theorem dX4_count_121 : decode cX4_count 121 = .ok (.iconst 2, 1) := by decide +kernel
theorem dX4_count_122 : decode cX4_count 122 = .ok (.invokevirtual 260, 3) := by decide +kernel
theorem dX4_count_125 : decode cX4_count 125 = .ok (.ireturn, 1) := by decide +kernel
theorem dX4_count_126 : decode cX4_count 126 = .ok (.aload_n 0, 1) := by decide +kernel
theorem dX4_count_127 : decode cX4_count 127 = .ok (.getfield 14, 3) := by decide +kernel
theorem dX4_count_130 : decode cX4_count 130 = .ok (.invokestatic 263, 3) := by decide +kernel
theorem dX4_count_133 : decode cX4_count 133 = .ok (.ireturn, 1) := by decide +kernel
theorem dX4_count_134 : decode cX4_count 134 = .ok (.aload_n 0, 1) := by decide +kernel
theorem dX4_count_135 : decode cX4_count 135 = .ok (.getfield 23, 3) := by decide +kernel
theorem dX4_count_138 : decode cX4_count 138 = .ok (.invokestatic 263, 3) := by decide +kernel
theorem dX4_count_141 : decode cX4_count 141 = .ok (.ireturn, 1) := by decide +kernel
theorem dX4_count_142 : decode cX4_count 142 = .ok (.aload_n 0, 1) := by decide +kernel
theorem dX4_count_143 : decode cX4_count 143 = .ok (.getfield 29, 3) := by decide +kernel
theorem dX4_count_146 : decode cX4_count 146 = .ok (.invokestatic 263, 3) := by decide +kernel
theorem dX4_count_149 : decode cX4_count 149 = .ok (.ireturn, 1) := by decide +kernel
theorem dX4_count_150 : decode cX4_count 150 = .ok (.iconst (-1), 1) := by decide +kernel
theorem dX4_count_151 : decode cX4_count 151 = .ok (.ireturn, 1) := by decide +kernel
theorem dX4_finding_0 : decode cX4_finding 0 = .ok (.aload_n 0, 1) := by decide +kernel
theorem dX4_finding_1 : decode cX4_finding 1 = .ok (.getfield 63, 3) := by decide +kernel
theorem dX4_finding_4 : decode cX4_finding 4 = .ok (.ireturn, 1) := by decide +kernel
theorem dX4_findings_0 : decode cX4_findings 0 = .ok (.iload_n 1, 1) := by decide +kernel
theorem dX4_findings_1 : decode cX4_findings 1 = .ok (.iconst 1, 1) := by decide +kernel
theorem dX4_findings_2 : decode cX4_findings 2 = .ok (.if_icmp .lt 8, 3) := by decide +kernel
theorem dX4_findings_5 : decode cX4_findings 5 = .ok (.iload_n 1, 1) := by decide +kernel
theorem dX4_findings_6 : decode cX4_findings 6 = .ok (.iconst 5, 1) := by decide +kernel
theorem dX4_findings_7 : decode cX4_findings 7 = .ok (.if_icmp .le 5, 3) := by decide +kernel
theorem dX4_findings_10 : decode cX4_findings 10 = .ok (.iconst (-1), 1) := by decide +kernel
theorem dX4_findings_11 : decode cX4_findings 11 = .ok (.ireturn, 1) := by decide +kernel
theorem dX4_findings_12 : decode cX4_findings 12 = .ok (.aload_n 0, 1) := by decide +kernel
theorem dX4_findings_13 : decode cX4_findings 13 = .ok (.getfield 60, 3) := by decide +kernel
theorem dX4_findings_16 : decode cX4_findings 16 = .ok (.iload_n 1, 1) := by decide +kernel
theorem dX4_findings_17 : decode cX4_findings 17 = .ok (.iaload, 1) := by decide +kernel
theorem dX4_findings_18 : decode cX4_findings 18 = .ok (.ireturn, 1) := by decide +kernel
theorem dX4_digest_0 : decode cX4_digest 0 = .ok (.ldc2_w 267, 3) := by decide +kernel
theorem dX4_digest_3 : decode cX4_digest 3 = .ok (.lstore_n 1, 1) := by decide +kernel
theorem dX4_digest_4 : decode cX4_digest 4 = .ok (.iconst 0, 1) := by decide +kernel
theorem dX4_digest_5 : decode cX4_digest 5 = .ok (.istore_n 3, 1) := by decide +kernel
theorem dX4_digest_6 : decode cX4_digest 6 = .ok (.iload_n 3, 1) := by decide +kernel
theorem dX4_digest_7 : decode cX4_digest 7 = .ok (.bipush 11, 2) := by decide +kernel
theorem dX4_digest_9 : decode cX4_digest 9 = .ok (.if_icmp .ge 22, 3) := by decide +kernel
theorem dX4_digest_12 : decode cX4_digest 12 = .ok (.ldc2_w 269, 3) := by decide +kernel
theorem dX4_digest_15 : decode cX4_digest 15 = .ok (.lload_n 1, 1) := by decide +kernel
theorem dX4_digest_16 : decode cX4_digest 16 = .ok (.lmul, 1) := by decide +kernel
theorem dX4_digest_17 : decode cX4_digest 17 = .ok (.aload_n 0, 1) := by decide +kernel
theorem dX4_digest_18 : decode cX4_digest 18 = .ok (.iload_n 3, 1) := by decide +kernel
theorem dX4_digest_19 : decode cX4_digest 19 = .ok (.invokevirtual 271, 3) := by decide +kernel
theorem dX4_digest_22 : decode cX4_digest 22 = .ok (.i2l, 1) := by decide +kernel
theorem dX4_digest_23 : decode cX4_digest 23 = .ok (.ladd, 1) := by decide +kernel
theorem dX4_digest_24 : decode cX4_digest 24 = .ok (.lstore_n 1, 1) := by decide +kernel
theorem dX4_digest_25 : decode cX4_digest 25 = .ok (.iinc 3 1, 3) := by decide +kernel
theorem dX4_digest_28 : decode cX4_digest 28 = .ok (.goto (-22), 3) := by decide +kernel
theorem dX4_digest_31 : decode cX4_digest 31 = .ok (.iconst 0, 1) := by decide +kernel
theorem dX4_digest_32 : decode cX4_digest 32 = .ok (.istore_n 3, 1) := by decide +kernel
theorem dX4_digest_33 : decode cX4_digest 33 = .ok (.iload_n 3, 1) := by decide +kernel
theorem dX4_digest_34 : decode cX4_digest 34 = .ok (.aload_n 0, 1) := by decide +kernel
theorem dX4_digest_35 : decode cX4_digest 35 = .ok (.getfield 42, 3) := by decide +kernel
theorem dX4_digest_38 : decode cX4_digest 38 = .ok (.getfield 118, 3) := by decide +kernel
theorem dX4_digest_41 : decode cX4_digest 41 = .ok (.if_icmp .ge 42, 3) := by decide +kernel
theorem dX4_digest_44 : decode cX4_digest 44 = .ok (.iconst 0, 1) := by decide +kernel
theorem dX4_digest_45 : decode cX4_digest 45 = .ok (.istore 4, 2) := by decide +kernel
theorem dX4_digest_47 : decode cX4_digest 47 = .ok (.iload 4, 2) := by decide +kernel
theorem dX4_digest_49 : decode cX4_digest 49 = .ok (.iconst 5, 1) := by decide +kernel
theorem dX4_digest_50 : decode cX4_digest 50 = .ok (.if_icmp .ge 27, 3) := by decide +kernel
theorem dX4_digest_53 : decode cX4_digest 53 = .ok (.ldc2_w 269, 3) := by decide +kernel
theorem dX4_digest_56 : decode cX4_digest 56 = .ok (.lload_n 1, 1) := by decide +kernel
theorem dX4_digest_57 : decode cX4_digest 57 = .ok (.lmul, 1) := by decide +kernel
theorem dX4_digest_58 : decode cX4_digest 58 = .ok (.aload_n 0, 1) := by decide +kernel
theorem dX4_digest_59 : decode cX4_digest 59 = .ok (.getfield 42, 3) := by decide +kernel
theorem dX4_digest_62 : decode cX4_digest 62 = .ok (.iload_n 3, 1) := by decide +kernel
theorem dX4_digest_63 : decode cX4_digest 63 = .ok (.iload 4, 2) := by decide +kernel
theorem dX4_digest_65 : decode cX4_digest 65 = .ok (.invokevirtual 124, 3) := by decide +kernel
theorem dX4_digest_68 : decode cX4_digest 68 = .ok (.i2l, 1) := by decide +kernel
theorem dX4_digest_69 : decode cX4_digest 69 = .ok (.ladd, 1) := by decide +kernel
theorem dX4_digest_70 : decode cX4_digest 70 = .ok (.lstore_n 1, 1) := by decide +kernel
theorem dX4_digest_71 : decode cX4_digest 71 = .ok (.iinc 4 1, 3) := by decide +kernel
theorem dX4_digest_74 : decode cX4_digest 74 = .ok (.goto (-27), 3) := by decide +kernel
theorem dX4_digest_77 : decode cX4_digest 77 = .ok (.iinc 3 1, 3) := by decide +kernel
theorem dX4_digest_80 : decode cX4_digest 80 = .ok (.goto (-47), 3) := by decide +kernel
theorem dX4_digest_83 : decode cX4_digest 83 = .ok (.iconst 0, 1) := by decide +kernel
theorem dX4_digest_84 : decode cX4_digest 84 = .ok (.istore_n 3, 1) := by decide +kernel
theorem dX4_digest_85 : decode cX4_digest 85 = .ok (.iload_n 3, 1) := by decide +kernel
theorem dX4_digest_86 : decode cX4_digest 86 = .ok (.iconst 3, 1) := by decide +kernel
theorem dX4_digest_87 : decode cX4_digest 87 = .ok (.if_icmp .ge 23, 3) := by decide +kernel
theorem dX4_digest_90 : decode cX4_digest 90 = .ok (.ldc2_w 269, 3) := by decide +kernel
theorem dX4_digest_93 : decode cX4_digest 93 = .ok (.lload_n 1, 1) := by decide +kernel
theorem dX4_digest_94 : decode cX4_digest 94 = .ok (.lmul, 1) := by decide +kernel
theorem dX4_digest_95 : decode cX4_digest 95 = .ok (.aload_n 0, 1) := by decide +kernel
theorem dX4_digest_96 : decode cX4_digest 96 = .ok (.getfield 29, 3) := by decide +kernel
theorem dX4_digest_99 : decode cX4_digest 99 = .ok (.iload_n 3, 1) := by decide +kernel
theorem dX4_digest_100 : decode cX4_digest 100 = .ok (.iaload, 1) := by decide +kernel
theorem dX4_digest_101 : decode cX4_digest 101 = .ok (.i2l, 1) := by decide +kernel
theorem dX4_digest_102 : decode cX4_digest 102 = .ok (.ladd, 1) := by decide +kernel
theorem dX4_digest_103 : decode cX4_digest 103 = .ok (.lstore_n 1, 1) := by decide +kernel
theorem dX4_digest_104 : decode cX4_digest 104 = .ok (.iinc 3 1, 3) := by decide +kernel
theorem dX4_digest_107 : decode cX4_digest 107 = .ok (.goto (-22), 3) := by decide +kernel
theorem dX4_digest_110 : decode cX4_digest 110 = .ok (.iconst 0, 1) := by decide +kernel
theorem dX4_digest_111 : decode cX4_digest 111 = .ok (.istore_n 3, 1) := by decide +kernel
theorem dX4_digest_112 : decode cX4_digest 112 = .ok (.iload_n 3, 1) := by decide +kernel
theorem dX4_digest_113 : decode cX4_digest 113 = .ok (.bipush 6, 2) := by decide +kernel
theorem dX4_digest_115 : decode cX4_digest 115 = .ok (.if_icmp .ge 60, 3) := by decide +kernel
theorem dX4_digest_118 : decode cX4_digest 118 = .ok (.ldc2_w 269, 3) := by decide +kernel
theorem dX4_digest_121 : decode cX4_digest 121 = .ok (.lload_n 1, 1) := by decide +kernel
theorem dX4_digest_122 : decode cX4_digest 122 = .ok (.lmul, 1) := by decide +kernel
theorem dX4_digest_123 : decode cX4_digest 123 = .ok (.aload_n 0, 1) := by decide +kernel
theorem dX4_digest_124 : decode cX4_digest 124 = .ok (.getfield 14, 3) := by decide +kernel
theorem dX4_digest_127 : decode cX4_digest 127 = .ok (.iload_n 3, 1) := by decide +kernel
theorem dX4_digest_128 : decode cX4_digest 128 = .ok (.iaload, 1) := by decide +kernel
theorem dX4_digest_129 : decode cX4_digest 129 = .ok (.i2l, 1) := by decide +kernel
theorem dX4_digest_130 : decode cX4_digest 130 = .ok (.ladd, 1) := by decide +kernel
theorem dX4_digest_131 : decode cX4_digest 131 = .ok (.lstore_n 1, 1) := by decide +kernel
theorem dX4_digest_132 : decode cX4_digest 132 = .ok (.iconst 0, 1) := by decide +kernel
theorem dX4_digest_133 : decode cX4_digest 133 = .ok (.istore 4, 2) := by decide +kernel
theorem dX4_digest_135 : decode cX4_digest 135 = .ok (.iload 4, 2) := by decide +kernel
theorem dX4_digest_137 : decode cX4_digest 137 = .ok (.aload_n 0, 1) := by decide +kernel
theorem dX4_digest_138 : decode cX4_digest 138 = .ok (.getfield 14, 3) := by decide +kernel
theorem dX4_digest_141 : decode cX4_digest 141 = .ok (.iload_n 3, 1) := by decide +kernel
theorem dX4_digest_142 : decode cX4_digest 142 = .ok (.iaload, 1) := by decide +kernel
theorem dX4_digest_143 : decode cX4_digest 143 = .ok (.if_icmp .ge 26, 3) := by decide +kernel
theorem dX4_digest_146 : decode cX4_digest 146 = .ok (.ldc2_w 269, 3) := by decide +kernel
theorem dX4_digest_149 : decode cX4_digest 149 = .ok (.lload_n 1, 1) := by decide +kernel
theorem dX4_digest_150 : decode cX4_digest 150 = .ok (.lmul, 1) := by decide +kernel
theorem dX4_digest_151 : decode cX4_digest 151 = .ok (.aload_n 0, 1) := by decide +kernel
theorem dX4_digest_152 : decode cX4_digest 152 = .ok (.getfield 11, 3) := by decide +kernel
theorem dX4_digest_155 : decode cX4_digest 155 = .ok (.iload_n 3, 1) := by decide +kernel
theorem dX4_digest_156 : decode cX4_digest 156 = .ok (.aaload, 1) := by decide +kernel
theorem dX4_digest_157 : decode cX4_digest 157 = .ok (.iload 4, 2) := by decide +kernel
theorem dX4_digest_159 : decode cX4_digest 159 = .ok (.iaload, 1) := by decide +kernel
theorem dX4_digest_160 : decode cX4_digest 160 = .ok (.i2l, 1) := by decide +kernel
theorem dX4_digest_161 : decode cX4_digest 161 = .ok (.ladd, 1) := by decide +kernel
theorem dX4_digest_162 : decode cX4_digest 162 = .ok (.lstore_n 1, 1) := by decide +kernel
theorem dX4_digest_163 : decode cX4_digest 163 = .ok (.iinc 4 1, 3) := by decide +kernel
theorem dX4_digest_166 : decode cX4_digest 166 = .ok (.goto (-31), 3) := by decide +kernel
theorem dX4_digest_169 : decode cX4_digest 169 = .ok (.iinc 3 1, 3) := by decide +kernel
theorem dX4_digest_172 : decode cX4_digest 172 = .ok (.goto (-60), 3) := by decide +kernel
theorem dX4_digest_175 : decode cX4_digest 175 = .ok (.iconst 0, 1) := by decide +kernel
theorem dX4_digest_176 : decode cX4_digest 176 = .ok (.istore_n 3, 1) := by decide +kernel
theorem dX4_digest_177 : decode cX4_digest 177 = .ok (.iload_n 3, 1) := by decide +kernel
theorem dX4_digest_178 : decode cX4_digest 178 = .ok (.iconst 4, 1) := by decide +kernel
theorem dX4_digest_179 : decode cX4_digest 179 = .ok (.if_icmp .ge 60, 3) := by decide +kernel
theorem dX4_digest_182 : decode cX4_digest 182 = .ok (.ldc2_w 269, 3) := by decide +kernel
theorem dX4_digest_185 : decode cX4_digest 185 = .ok (.lload_n 1, 1) := by decide +kernel
theorem dX4_digest_186 : decode cX4_digest 186 = .ok (.lmul, 1) := by decide +kernel
theorem dX4_digest_187 : decode cX4_digest 187 = .ok (.aload_n 0, 1) := by decide +kernel
theorem dX4_digest_188 : decode cX4_digest 188 = .ok (.getfield 23, 3) := by decide +kernel
theorem dX4_digest_191 : decode cX4_digest 191 = .ok (.iload_n 3, 1) := by decide +kernel
theorem dX4_digest_192 : decode cX4_digest 192 = .ok (.iaload, 1) := by decide +kernel
theorem dX4_digest_193 : decode cX4_digest 193 = .ok (.i2l, 1) := by decide +kernel
theorem dX4_digest_194 : decode cX4_digest 194 = .ok (.ladd, 1) := by decide +kernel
theorem dX4_digest_195 : decode cX4_digest 195 = .ok (.lstore_n 1, 1) := by decide +kernel
theorem dX4_digest_196 : decode cX4_digest 196 = .ok (.iconst 0, 1) := by decide +kernel
theorem dX4_digest_197 : decode cX4_digest 197 = .ok (.istore 4, 2) := by decide +kernel
theorem dX4_digest_199 : decode cX4_digest 199 = .ok (.iload 4, 2) := by decide +kernel
theorem dX4_digest_201 : decode cX4_digest 201 = .ok (.aload_n 0, 1) := by decide +kernel
theorem dX4_digest_202 : decode cX4_digest 202 = .ok (.getfield 23, 3) := by decide +kernel
theorem dX4_digest_205 : decode cX4_digest 205 = .ok (.iload_n 3, 1) := by decide +kernel
theorem dX4_digest_206 : decode cX4_digest 206 = .ok (.iaload, 1) := by decide +kernel
theorem dX4_digest_207 : decode cX4_digest 207 = .ok (.if_icmp .ge 26, 3) := by decide +kernel
theorem dX4_digest_210 : decode cX4_digest 210 = .ok (.ldc2_w 269, 3) := by decide +kernel
theorem dX4_digest_213 : decode cX4_digest 213 = .ok (.lload_n 1, 1) := by decide +kernel
theorem dX4_digest_214 : decode cX4_digest 214 = .ok (.lmul, 1) := by decide +kernel
theorem dX4_digest_215 : decode cX4_digest 215 = .ok (.aload_n 0, 1) := by decide +kernel
theorem dX4_digest_216 : decode cX4_digest 216 = .ok (.getfield 20, 3) := by decide +kernel
theorem dX4_digest_219 : decode cX4_digest 219 = .ok (.iload_n 3, 1) := by decide +kernel
theorem dX4_digest_220 : decode cX4_digest 220 = .ok (.aaload, 1) := by decide +kernel
theorem dX4_digest_221 : decode cX4_digest 221 = .ok (.iload 4, 2) := by decide +kernel
theorem dX4_digest_223 : decode cX4_digest 223 = .ok (.baload, 1) := by decide +kernel
theorem dX4_digest_224 : decode cX4_digest 224 = .ok (.i2l, 1) := by decide +kernel
theorem dX4_digest_225 : decode cX4_digest 225 = .ok (.ladd, 1) := by decide +kernel
theorem dX4_digest_226 : decode cX4_digest 226 = .ok (.lstore_n 1, 1) := by decide +kernel
theorem dX4_digest_227 : decode cX4_digest 227 = .ok (.iinc 4 1, 3) := by decide +kernel
theorem dX4_digest_230 : decode cX4_digest 230 = .ok (.goto (-31), 3) := by decide +kernel
theorem dX4_digest_233 : decode cX4_digest 233 = .ok (.iinc 3 1, 3) := by decide +kernel
theorem dX4_digest_236 : decode cX4_digest 236 = .ok (.goto (-59), 3) := by decide +kernel
theorem dX4_digest_239 : decode cX4_digest 239 = .ok (.lload_n 1, 1) := by decide +kernel
theorem dX4_digest_240 : decode cX4_digest 240 = .ok (.lreturn, 1) := by decide +kernel
theorem dX4_found_0 : decode cX4_found 0 = .ok (.aload_n 0, 1) := by decide +kernel
theorem dX4_found_1 : decode cX4_found 1 = .ok (.iload_n 1, 1) := by decide +kernel
theorem dX4_found_2 : decode cX4_found 2 = .ok (.putfield 63, 3) := by decide +kernel
theorem dX4_found_5 : decode cX4_found 5 = .ok (.aload_n 0, 1) := by decide +kernel
theorem dX4_found_6 : decode cX4_found 6 = .ok (.getfield 60, 3) := by decide +kernel
theorem dX4_found_9 : decode cX4_found 9 = .ok (.iload_n 1, 1) := by decide +kernel
theorem dX4_found_10 : decode cX4_found 10 = .ok (.dup2, 1) := by decide +kernel
theorem dX4_found_11 : decode cX4_found 11 = .ok (.iaload, 1) := by decide +kernel
theorem dX4_found_12 : decode cX4_found 12 = .ok (.iconst 1, 1) := by decide +kernel
theorem dX4_found_13 : decode cX4_found 13 = .ok (.iadd, 1) := by decide +kernel
theorem dX4_found_14 : decode cX4_found 14 = .ok (.iastore, 1) := by decide +kernel
theorem dX4_found_15 : decode cX4_found 15 = .ok (.bipush (-3), 2) := by decide +kernel
theorem dX4_found_17 : decode cX4_found 17 = .ok (.ireturn, 1) := by decide +kernel
theorem dX4_tell_0 : decode cX4_tell 0 = .ok (.aload_n 0, 1) := by decide +kernel
theorem dX4_tell_1 : decode cX4_tell 1 = .ok (.iload_n 1, 1) := by decide +kernel
theorem dX4_tell_2 : decode cX4_tell 2 = .ok (.putfield 67, 3) := by decide +kernel
theorem dX4_tell_5 : decode cX4_tell 5 = .ok (.iconst 1, 1) := by decide +kernel
theorem dX4_tell_6 : decode cX4_tell 6 = .ok (.ireturn, 1) := by decide +kernel
theorem dX4_tellRatio_0 : decode cX4_tellRatio 0 = .ok (.lload_n 1, 1) := by decide +kernel
theorem dX4_tellRatio_1 : decode cX4_tellRatio 1 = .ok (.lload_n 3, 1) := by decide +kernel
theorem dX4_tellRatio_2 : decode cX4_tellRatio 2 = .ok (.invokestatic 274, 3) := by decide +kernel
theorem dX4_tellRatio_5 : decode cX4_tellRatio 5 = .ok (.lstore 5, 2) := by decide +kernel
theorem dX4_tellRatio_7 : decode cX4_tellRatio 7 = .ok (.aload_n 0, 1) := by decide +kernel
theorem dX4_tellRatio_8 : decode cX4_tellRatio 8 = .ok (.lload 5, 2) := by decide +kernel
theorem dX4_tellRatio_10 : decode cX4_tellRatio 10 = .ok (.lconst 0, 1) := by decide +kernel
theorem dX4_tellRatio_11 : decode cX4_tellRatio 11 = .ok (.lcmp, 1) := by decide +kernel
theorem dX4_tellRatio_12 : decode cX4_tellRatio 12 = .ok (.ifCond .le 10, 3) := by decide +kernel
theorem dX4_tellRatio_15 : decode cX4_tellRatio 15 = .ok (.lload_n 1, 1) := by decide +kernel
theorem dX4_tellRatio_16 : decode cX4_tellRatio 16 = .ok (.lload 5, 2) := by decide +kernel
theorem dX4_tellRatio_18 : decode cX4_tellRatio 18 = .ok (.ldiv, 1) := by decide +kernel
theorem dX4_tellRatio_19 : decode cX4_tellRatio 19 = .ok (.goto 4, 3) := by decide +kernel
theorem dX4_tellRatio_22 : decode cX4_tellRatio 22 = .ok (.lload_n 1, 1) := by decide +kernel
theorem dX4_tellRatio_23 : decode cX4_tellRatio 23 = .ok (.putfield 70, 3) := by decide +kernel
theorem dX4_tellRatio_26 : decode cX4_tellRatio 26 = .ok (.aload_n 0, 1) := by decide +kernel
theorem dX4_tellRatio_27 : decode cX4_tellRatio 27 = .ok (.lload 5, 2) := by decide +kernel
theorem dX4_tellRatio_29 : decode cX4_tellRatio 29 = .ok (.lconst 0, 1) := by decide +kernel
theorem dX4_tellRatio_30 : decode cX4_tellRatio 30 = .ok (.lcmp, 1) := by decide +kernel
theorem dX4_tellRatio_31 : decode cX4_tellRatio 31 = .ok (.ifCond .le 10, 3) := by decide +kernel
theorem dX4_tellRatio_34 : decode cX4_tellRatio 34 = .ok (.lload_n 3, 1) := by decide +kernel
theorem dX4_tellRatio_35 : decode cX4_tellRatio 35 = .ok (.lload 5, 2) := by decide +kernel
theorem dX4_tellRatio_37 : decode cX4_tellRatio 37 = .ok (.ldiv, 1) := by decide +kernel
theorem dX4_tellRatio_38 : decode cX4_tellRatio 38 = .ok (.goto 4, 3) := by decide +kernel
theorem dX4_tellRatio_41 : decode cX4_tellRatio 41 = .ok (.lload_n 3, 1) := by decide +kernel
theorem dX4_tellRatio_42 : decode cX4_tellRatio 42 = .ok (.putfield 74, 3) := by decide +kernel
theorem dX4_tellRatio_45 : decode cX4_tellRatio 45 = .ok (.iconst 1, 1) := by decide +kernel
theorem dX4_tellRatio_46 : decode cX4_tellRatio 46 = .ok (.ireturn, 1) := by decide +kernel
theorem dX4_greatestDivisor_0 : decode cX4_greatestDivisor 0 = .ok (.lload_n 0, 1) := by decide +kernel
theorem dX4_greatestDivisor_1 : decode cX4_greatestDivisor 1 = .ok (.lstore 4, 2) := by decide +kernel
theorem dX4_greatestDivisor_3 : decode cX4_greatestDivisor 3 = .ok (.lload_n 2, 1) := by decide +kernel
theorem dX4_greatestDivisor_4 : decode cX4_greatestDivisor 4 = .ok (.lstore 6, 2) := by decide +kernel
theorem dX4_greatestDivisor_6 : decode cX4_greatestDivisor 6 = .ok (.iconst 0, 1) := by decide +kernel
theorem dX4_greatestDivisor_7 : decode cX4_greatestDivisor 7 = .ok (.istore 8, 2) := by decide +kernel
theorem dX4_greatestDivisor_9 : decode cX4_greatestDivisor 9 = .ok (.iload 8, 2) := by decide +kernel
theorem dX4_greatestDivisor_11 : decode cX4_greatestDivisor 11 = .ok (.bipush 64, 2) := by decide +kernel
theorem dX4_greatestDivisor_13 : decode cX4_greatestDivisor 13 = .ok (.if_icmp .ge 31, 3) := by decide +kernel
theorem dX4_greatestDivisor_16 : decode cX4_greatestDivisor 16 = .ok (.lload 6, 2) := by decide +kernel
theorem dX4_greatestDivisor_18 : decode cX4_greatestDivisor 18 = .ok (.lconst 0, 1) := by decide +kernel
theorem dX4_greatestDivisor_19 : decode cX4_greatestDivisor 19 = .ok (.lcmp, 1) := by decide +kernel
theorem dX4_greatestDivisor_20 : decode cX4_greatestDivisor 20 = .ok (.ifCond .eq 24, 3) := by decide +kernel
theorem dX4_greatestDivisor_23 : decode cX4_greatestDivisor 23 = .ok (.lload 4, 2) := by decide +kernel
theorem dX4_greatestDivisor_25 : decode cX4_greatestDivisor 25 = .ok (.lload 6, 2) := by decide +kernel
theorem dX4_greatestDivisor_27 : decode cX4_greatestDivisor 27 = .ok (.lrem, 1) := by decide +kernel
theorem dX4_greatestDivisor_28 : decode cX4_greatestDivisor 28 = .ok (.lstore 9, 2) := by decide +kernel
theorem dX4_greatestDivisor_30 : decode cX4_greatestDivisor 30 = .ok (.lload 6, 2) := by decide +kernel
theorem dX4_greatestDivisor_32 : decode cX4_greatestDivisor 32 = .ok (.lstore 4, 2) := by decide +kernel
theorem dX4_greatestDivisor_34 : decode cX4_greatestDivisor 34 = .ok (.lload 9, 2) := by decide +kernel
theorem dX4_greatestDivisor_36 : decode cX4_greatestDivisor 36 = .ok (.lstore 6, 2) := by decide +kernel
theorem dX4_greatestDivisor_38 : decode cX4_greatestDivisor 38 = .ok (.iinc 8 1, 3) := by decide +kernel
theorem dX4_greatestDivisor_41 : decode cX4_greatestDivisor 41 = .ok (.goto (-32), 3) := by decide +kernel
theorem dX4_greatestDivisor_44 : decode cX4_greatestDivisor 44 = .ok (.lload 4, 2) := by decide +kernel
theorem dX4_greatestDivisor_46 : decode cX4_greatestDivisor 46 = .ok (.lreturn, 1) := by decide +kernel
theorem dX4_twelveTimes_0 : decode cX4_twelveTimes 0 = .ok (.lconst 1, 1) := by decide +kernel
theorem dX4_twelveTimes_1 : decode cX4_twelveTimes 1 = .ok (.lstore_n 1, 1) := by decide +kernel
theorem dX4_twelveTimes_2 : decode cX4_twelveTimes 2 = .ok (.iconst 0, 1) := by decide +kernel
theorem dX4_twelveTimes_3 : decode cX4_twelveTimes 3 = .ok (.istore_n 3, 1) := by decide +kernel
theorem dX4_twelveTimes_4 : decode cX4_twelveTimes 4 = .ok (.iload_n 3, 1) := by decide +kernel
theorem dX4_twelveTimes_5 : decode cX4_twelveTimes 5 = .ok (.iload_n 0, 1) := by decide +kernel
theorem dX4_twelveTimes_6 : decode cX4_twelveTimes 6 = .ok (.if_icmp .ge 15, 3) := by decide +kernel
theorem dX4_twelveTimes_9 : decode cX4_twelveTimes 9 = .ok (.lload_n 1, 1) := by decide +kernel
theorem dX4_twelveTimes_10 : decode cX4_twelveTimes 10 = .ok (.ldc2_w 278, 3) := by decide +kernel
theorem dX4_twelveTimes_13 : decode cX4_twelveTimes 13 = .ok (.lmul, 1) := by decide +kernel
theorem dX4_twelveTimes_14 : decode cX4_twelveTimes 14 = .ok (.lstore_n 1, 1) := by decide +kernel
theorem dX4_twelveTimes_15 : decode cX4_twelveTimes 15 = .ok (.iinc 3 1, 3) := by decide +kernel
theorem dX4_twelveTimes_18 : decode cX4_twelveTimes 18 = .ok (.goto (-14), 3) := by decide +kernel
theorem dX4_twelveTimes_21 : decode cX4_twelveTimes 21 = .ok (.lload_n 1, 1) := by decide +kernel
theorem dX4_twelveTimes_22 : decode cX4_twelveTimes 22 = .ok (.lreturn, 1) := by decide +kernel
theorem dX4_isRow_0 : decode cX4_isRow 0 = .ok (.iload_n 0, 1) := by decide +kernel
theorem dX4_isRow_1 : decode cX4_isRow 1 = .ok (.ifCond .lt 13, 3) := by decide +kernel
theorem dX4_isRow_4 : decode cX4_isRow 4 = .ok (.iload_n 0, 1) := by decide +kernel
theorem dX4_isRow_5 : decode cX4_isRow 5 = .ok (.bipush 6, 2) := by decide +kernel
theorem dX4_isRow_7 : decode cX4_isRow 7 = .ok (.if_icmp .ge 7, 3) := by decide +kernel
theorem dX4_isRow_10 : decode cX4_isRow 10 = .ok (.iconst 1, 1) := by decide +kernel
theorem dX4_isRow_11 : decode cX4_isRow 11 = .ok (.goto 4, 3) := by decide +kernel
theorem dX4_isRow_14 : decode cX4_isRow 14 = .ok (.iconst 0, 1) := by decide +kernel
theorem dX4_isRow_15 : decode cX4_isRow 15 = .ok (.ireturn, 1) := by decide +kernel
theorem dX4_isText_0 : decode cX4_isText 0 = .ok (.iload_n 0, 1) := by decide +kernel
theorem dX4_isText_1 : decode cX4_isText 1 = .ok (.ifCond .lt 12, 3) := by decide +kernel
theorem dX4_isText_4 : decode cX4_isText 4 = .ok (.iload_n 0, 1) := by decide +kernel
theorem dX4_isText_5 : decode cX4_isText 5 = .ok (.iconst 4, 1) := by decide +kernel
theorem dX4_isText_6 : decode cX4_isText 6 = .ok (.if_icmp .ge 7, 3) := by decide +kernel
theorem dX4_isText_9 : decode cX4_isText 9 = .ok (.iconst 1, 1) := by decide +kernel
theorem dX4_isText_10 : decode cX4_isText 10 = .ok (.goto 4, 3) := by decide +kernel
theorem dX4_isText_13 : decode cX4_isText 13 = .ok (.iconst 0, 1) := by decide +kernel
theorem dX4_isText_14 : decode cX4_isText 14 = .ok (.ireturn, 1) := by decide +kernel
theorem dX4_isKeptPlace_0 : decode cX4_isKeptPlace 0 = .ok (.iload_n 0, 1) := by decide +kernel
theorem dX4_isKeptPlace_1 : decode cX4_isKeptPlace 1 = .ok (.ifCond .lt 12, 3) := by decide +kernel
theorem dX4_isKeptPlace_4 : decode cX4_isKeptPlace 4 = .ok (.iload_n 0, 1) := by decide +kernel
theorem dX4_isKeptPlace_5 : decode cX4_isKeptPlace 5 = .ok (.iconst 3, 1) := by decide +kernel
theorem dX4_isKeptPlace_6 : decode cX4_isKeptPlace 6 = .ok (.if_icmp .ge 7, 3) := by decide +kernel
theorem dX4_isKeptPlace_9 : decode cX4_isKeptPlace 9 = .ok (.iconst 1, 1) := by decide +kernel
theorem dX4_isKeptPlace_10 : decode cX4_isKeptPlace 10 = .ok (.goto 4, 3) := by decide +kernel
theorem dX4_isKeptPlace_13 : decode cX4_isKeptPlace 13 = .ok (.iconst 0, 1) := by decide +kernel
theorem dX4_isKeptPlace_14 : decode cX4_isKeptPlace 14 = .ok (.ireturn, 1) := by decide +kernel
theorem dX4_isCell_0 : decode cX4_isCell 0 = .ok (.iload_n 0, 1) := by decide +kernel
theorem dX4_isCell_1 : decode cX4_isCell 1 = .ok (.ifCond .lt 13, 3) := by decide +kernel
theorem dX4_isCell_4 : decode cX4_isCell 4 = .ok (.iload_n 0, 1) := by decide +kernel
theorem dX4_isCell_5 : decode cX4_isCell 5 = .ok (.bipush 8, 2) := by decide +kernel
theorem dX4_isCell_7 : decode cX4_isCell 7 = .ok (.if_icmp .ge 7, 3) := by decide +kernel
theorem dX4_isCell_10 : decode cX4_isCell 10 = .ok (.iconst 1, 1) := by decide +kernel
theorem dX4_isCell_11 : decode cX4_isCell 11 = .ok (.goto 4, 3) := by decide +kernel
theorem dX4_isCell_14 : decode cX4_isCell 14 = .ok (.iconst 0, 1) := by decide +kernel
theorem dX4_isCell_15 : decode cX4_isCell 15 = .ok (.ireturn, 1) := by decide +kernel
theorem dX4_isChance_0 : decode cX4_isChance 0 = .ok (.aload_n 0, 1) := by decide +kernel
theorem dX4_isChance_1 : decode cX4_isChance 1 = .ok (.getfield 42, 3) := by decide +kernel
theorem dX4_isChance_4 : decode cX4_isChance 4 = .ok (.iload_n 1, 1) := by decide +kernel
theorem dX4_isChance_5 : decode cX4_isChance 5 = .ok (.invokevirtual 121, 3) := by decide +kernel
theorem dX4_isChance_8 : decode cX4_isChance 8 = .ok (.ifCond .eq 27, 3) := by decide +kernel
theorem dX4_isChance_11 : decode cX4_isChance 11 = .ok (.iload_n 2, 1) := by decide +kernel
theorem dX4_isChance_12 : decode cX4_isChance 12 = .ok (.ifCond .lt 23, 3) := by decide +kernel
theorem dX4_isChance_15 : decode cX4_isChance 15 = .ok (.iload_n 2, 1) := by decide +kernel
theorem dX4_isChance_16 : decode cX4_isChance 16 = .ok (.bipush 6, 2) := by decide +kernel
theorem dX4_isChance_18 : decode cX4_isChance 18 = .ok (.if_icmp .gt 17, 3) := by decide +kernel
theorem dX4_isChance_21 : decode cX4_isChance 21 = .ok (.iload_n 3, 1) := by decide +kernel
theorem dX4_isChance_22 : decode cX4_isChance 22 = .ok (.ifCond .lt 13, 3) := by decide +kernel
theorem dX4_isChance_25 : decode cX4_isChance 25 = .ok (.iload_n 3, 1) := by decide +kernel
theorem dX4_isChance_26 : decode cX4_isChance 26 = .ok (.bipush 12, 2) := by decide +kernel
theorem dX4_isChance_28 : decode cX4_isChance 28 = .ok (.if_icmp .gt 7, 3) := by decide +kernel
theorem dX4_isChance_31 : decode cX4_isChance 31 = .ok (.iconst 1, 1) := by decide +kernel
theorem dX4_isChance_32 : decode cX4_isChance 32 = .ok (.goto 4, 3) := by decide +kernel
theorem dX4_isChance_35 : decode cX4_isChance 35 = .ok (.iconst 0, 1) := by decide +kernel
theorem dX4_isChance_36 : decode cX4_isChance 36 = .ok (.ireturn, 1) := by decide +kernel
theorem dX4_hasSpan_0 : decode cX4_hasSpan 0 = .ok (.iload_n 1, 1) := by decide +kernel
theorem dX4_hasSpan_1 : decode cX4_hasSpan 1 = .ok (.ifCond .lt 19, 3) := by decide +kernel
theorem dX4_hasSpan_4 : decode cX4_hasSpan 4 = .ok (.iload_n 1, 1) := by decide +kernel
theorem dX4_hasSpan_5 : decode cX4_hasSpan 5 = .ok (.iload_n 0, 1) := by decide +kernel
theorem dX4_hasSpan_6 : decode cX4_hasSpan 6 = .ok (.if_icmp .gt 14, 3) := by decide +kernel
theorem dX4_hasSpan_9 : decode cX4_hasSpan 9 = .ok (.iload_n 2, 1) := by decide +kernel
theorem dX4_hasSpan_10 : decode cX4_hasSpan 10 = .ok (.iload_n 0, 1) := by decide +kernel
theorem dX4_hasSpan_11 : decode cX4_hasSpan 11 = .ok (.iload_n 1, 1) := by decide +kernel
theorem dX4_hasSpan_12 : decode cX4_hasSpan 12 = .ok (.isub, 1) := by decide +kernel
theorem dX4_hasSpan_13 : decode cX4_hasSpan 13 = .ok (.if_icmp .gt 7, 3) := by decide +kernel
theorem dX4_hasSpan_16 : decode cX4_hasSpan 16 = .ok (.iconst 1, 1) := by decide +kernel
theorem dX4_hasSpan_17 : decode cX4_hasSpan 17 = .ok (.goto 4, 3) := by decide +kernel
theorem dX4_hasSpan_20 : decode cX4_hasSpan 20 = .ok (.iconst 0, 1) := by decide +kernel
theorem dX4_hasSpan_21 : decode cX4_hasSpan 21 = .ok (.ireturn, 1) := by decide +kernel
theorem dX4_presentIn_0 : decode cX4_presentIn 0 = .ok (.iconst 0, 1) := by decide +kernel
theorem dX4_presentIn_1 : decode cX4_presentIn 1 = .ok (.istore_n 1, 1) := by decide +kernel
theorem dX4_presentIn_2 : decode cX4_presentIn 2 = .ok (.iconst 0, 1) := by decide +kernel
theorem dX4_presentIn_3 : decode cX4_presentIn 3 = .ok (.istore_n 2, 1) := by decide +kernel
theorem dX4_presentIn_4 : decode cX4_presentIn 4 = .ok (.iload_n 2, 1) := by decide +kernel
theorem dX4_presentIn_5 : decode cX4_presentIn 5 = .ok (.aload_n 0, 1) := by decide +kernel
theorem dX4_presentIn_6 : decode cX4_presentIn 6 = .ok (.arraylength, 1) := by decide +kernel
theorem dX4_presentIn_7 : decode cX4_presentIn 7 = .ok (.if_icmp .ge 19, 3) := by decide +kernel
theorem dX4_presentIn_10 : decode cX4_presentIn 10 = .ok (.aload_n 0, 1) := by decide +kernel
theorem dX4_presentIn_11 : decode cX4_presentIn 11 = .ok (.iload_n 2, 1) := by decide +kernel
theorem dX4_presentIn_12 : decode cX4_presentIn 12 = .ok (.iaload, 1) := by decide +kernel
theorem dX4_presentIn_13 : decode cX4_presentIn 13 = .ok (.iconst (-1), 1) := by decide +kernel
theorem dX4_presentIn_14 : decode cX4_presentIn 14 = .ok (.if_icmp .eq 6, 3) := by decide +kernel
theorem dX4_presentIn_17 : decode cX4_presentIn 17 = .ok (.iinc 1 1, 3) := by decide +kernel
theorem dX4_presentIn_20 : decode cX4_presentIn 20 = .ok (.iinc 2 1, 3) := by decide +kernel
theorem dX4_presentIn_23 : decode cX4_presentIn 23 = .ok (.goto (-19), 3) := by decide +kernel
theorem dX4_presentIn_26 : decode cX4_presentIn 26 = .ok (.iload_n 1, 1) := by decide +kernel
theorem dX4_presentIn_27 : decode cX4_presentIn 27 = .ok (.ireturn, 1) := by decide +kernel
theorem dX4_isOfKind_0 : decode cX4_isOfKind 0 = .ok (.iload_n 1, 1) := by decide +kernel
theorem dX4_isOfKind_1 : decode cX4_isOfKind 1 = .ok (.ifCond .eq 28, 3) := by decide +kernel
theorem dX4_isOfKind_4 : decode cX4_isOfKind 4 = .ok (.iload_n 0, 1) := by decide +kernel
theorem dX4_isOfKind_5 : decode cX4_isOfKind 5 = .ok (.iload_n 1, 1) := by decide +kernel
theorem dX4_isOfKind_6 : decode cX4_isOfKind 6 = .ok (.if_icmp .eq 23, 3) := by decide +kernel
theorem dX4_isOfKind_9 : decode cX4_isOfKind 9 = .ok (.iload_n 0, 1) := by decide +kernel
theorem dX4_isOfKind_10 : decode cX4_isOfKind 10 = .ok (.iconst 4, 1) := by decide +kernel
theorem dX4_isOfKind_11 : decode cX4_isOfKind 11 = .ok (.if_icmp .ne 8, 3) := by decide +kernel
theorem dX4_isOfKind_14 : decode cX4_isOfKind 14 = .ok (.iload_n 1, 1) := by decide +kernel
theorem dX4_isOfKind_15 : decode cX4_isOfKind 15 = .ok (.iconst 1, 1) := by decide +kernel
theorem dX4_isOfKind_16 : decode cX4_isOfKind 16 = .ok (.if_icmp .eq 13, 3) := by decide +kernel
theorem dX4_isOfKind_19 : decode cX4_isOfKind 19 = .ok (.iload_n 0, 1) := by decide +kernel
theorem dX4_isOfKind_20 : decode cX4_isOfKind 20 = .ok (.iconst 5, 1) := by decide +kernel
theorem dX4_isOfKind_21 : decode cX4_isOfKind 21 = .ok (.if_icmp .ne 12, 3) := by decide +kernel
theorem dX4_isOfKind_24 : decode cX4_isOfKind 24 = .ok (.iload_n 1, 1) := by decide +kernel
theorem dX4_isOfKind_25 : decode cX4_isOfKind 25 = .ok (.iconst 2, 1) := by decide +kernel
theorem dX4_isOfKind_26 : decode cX4_isOfKind 26 = .ok (.if_icmp .ne 7, 3) := by decide +kernel
theorem dX4_isOfKind_29 : decode cX4_isOfKind 29 = .ok (.iconst 1, 1) := by decide +kernel
theorem dX4_isOfKind_30 : decode cX4_isOfKind 30 = .ok (.goto 4, 3) := by decide +kernel
theorem dX4_isOfKind_33 : decode cX4_isOfKind 33 = .ok (.iconst 0, 1) := by decide +kernel
theorem dX4_isOfKind_34 : decode cX4_isOfKind 34 = .ok (.ireturn, 1) := by decide +kernel
theorem dX4_pairsFinding_0 : decode cX4_pairsFinding 0 = .ok (.aload_n 0, 1) := by decide +kernel
theorem dX4_pairsFinding_1 : decode cX4_pairsFinding 1 = .ok (.getfield 14, 3) := by decide +kernel
theorem dX4_pairsFinding_4 : decode cX4_pairsFinding 4 = .ok (.iload_n 1, 1) := by decide +kernel
theorem dX4_pairsFinding_5 : decode cX4_pairsFinding 5 = .ok (.iaload, 1) := by decide +kernel
theorem dX4_pairsFinding_6 : decode cX4_pairsFinding 6 = .ok (.istore_n 2, 1) := by decide +kernel
theorem dX4_pairsFinding_7 : decode cX4_pairsFinding 7 = .ok (.iload_n 2, 1) := by decide +kernel
theorem dX4_pairsFinding_8 : decode cX4_pairsFinding 8 = .ok (.iconst (-1), 1) := by decide +kernel
theorem dX4_pairsFinding_9 : decode cX4_pairsFinding 9 = .ok (.if_icmp .ne 5, 3) := by decide +kernel
theorem dX4_pairsFinding_12 : decode cX4_pairsFinding 12 = .ok (.iconst 1, 1) := by decide +kernel
theorem dX4_pairsFinding_13 : decode cX4_pairsFinding 13 = .ok (.ireturn, 1) := by decide +kernel
theorem dX4_pairsFinding_14 : decode cX4_pairsFinding 14 = .ok (.iload_n 2, 1) := by decide +kernel
theorem dX4_pairsFinding_15 : decode cX4_pairsFinding 15 = .ok (.bipush 12, 2) := by decide +kernel
theorem dX4_pairsFinding_17 : decode cX4_pairsFinding 17 = .ok (.if_icmp .gt 9, 3) := by decide +kernel
theorem dX4_pairsFinding_20 : decode cX4_pairsFinding 20 = .ok (.iload_n 2, 1) := by decide +kernel
theorem dX4_pairsFinding_21 : decode cX4_pairsFinding 21 = .ok (.iconst 2, 1) := by decide +kernel
theorem dX4_pairsFinding_22 : decode cX4_pairsFinding 22 = .ok (.irem, 1) := by decide +kernel
theorem dX4_pairsFinding_23 : decode cX4_pairsFinding 23 = .ok (.ifCond .eq 5, 3) := by decide +kernel
theorem dX4_pairsFinding_26 : decode cX4_pairsFinding 26 = .ok (.iconst 5, 1) := by decide +kernel
theorem dX4_pairsFinding_27 : decode cX4_pairsFinding 27 = .ok (.ireturn, 1) := by decide +kernel
theorem dX4_pairsFinding_28 : decode cX4_pairsFinding 28 = .ok (.iconst 0, 1) := by decide +kernel
theorem dX4_pairsFinding_29 : decode cX4_pairsFinding 29 = .ok (.istore_n 3, 1) := by decide +kernel
theorem dX4_pairsFinding_30 : decode cX4_pairsFinding 30 = .ok (.iload_n 3, 1) := by decide +kernel
theorem dX4_pairsFinding_31 : decode cX4_pairsFinding 31 = .ok (.iconst 1, 1) := by decide +kernel
theorem dX4_pairsFinding_32 : decode cX4_pairsFinding 32 = .ok (.iadd, 1) := by decide +kernel
theorem dX4_pairsFinding_33 : decode cX4_pairsFinding 33 = .ok (.iload_n 2, 1) := by decide +kernel
theorem dX4_pairsFinding_34 : decode cX4_pairsFinding 34 = .ok (.if_icmp .ge 51, 3) := by decide +kernel
theorem dX4_pairsFinding_37 : decode cX4_pairsFinding 37 = .ok (.aload_n 0, 1) := by decide +kernel
theorem dX4_pairsFinding_38 : decode cX4_pairsFinding 38 = .ok (.getfield 11, 3) := by decide +kernel
theorem dX4_pairsFinding_41 : decode cX4_pairsFinding 41 = .ok (.iload_n 1, 1) := by decide +kernel
theorem dX4_pairsFinding_42 : decode cX4_pairsFinding 42 = .ok (.aaload, 1) := by decide +kernel
theorem dX4_pairsFinding_43 : decode cX4_pairsFinding 43 = .ok (.iload_n 3, 1) := by decide +kernel
theorem dX4_pairsFinding_44 : decode cX4_pairsFinding 44 = .ok (.iaload, 1) := by decide +kernel
theorem dX4_pairsFinding_45 : decode cX4_pairsFinding 45 = .ok (.ifCond .lt 32, 3) := by decide +kernel
theorem dX4_pairsFinding_48 : decode cX4_pairsFinding 48 = .ok (.aload_n 0, 1) := by decide +kernel
theorem dX4_pairsFinding_49 : decode cX4_pairsFinding 49 = .ok (.getfield 11, 3) := by decide +kernel
theorem dX4_pairsFinding_52 : decode cX4_pairsFinding 52 = .ok (.iload_n 1, 1) := by decide +kernel
theorem dX4_pairsFinding_53 : decode cX4_pairsFinding 53 = .ok (.aaload, 1) := by decide +kernel
theorem dX4_pairsFinding_54 : decode cX4_pairsFinding 54 = .ok (.iload_n 3, 1) := by decide +kernel
theorem dX4_pairsFinding_55 : decode cX4_pairsFinding 55 = .ok (.iaload, 1) := by decide +kernel
theorem dX4_pairsFinding_56 : decode cX4_pairsFinding 56 = .ok (.bipush 20, 2) := by decide +kernel
theorem dX4_pairsFinding_58 : decode cX4_pairsFinding 58 = .ok (.if_icmp .gt 19, 3) := by decide +kernel
theorem dX4_pairsFinding_61 : decode cX4_pairsFinding 61 = .ok (.aload_n 0, 1) := by decide +kernel
theorem dX4_pairsFinding_62 : decode cX4_pairsFinding 62 = .ok (.getfield 11, 3) := by decide +kernel
theorem dX4_pairsFinding_65 : decode cX4_pairsFinding 65 = .ok (.iload_n 1, 1) := by decide +kernel
theorem dX4_pairsFinding_66 : decode cX4_pairsFinding 66 = .ok (.aaload, 1) := by decide +kernel
theorem dX4_pairsFinding_67 : decode cX4_pairsFinding 67 = .ok (.iload_n 3, 1) := by decide +kernel
theorem dX4_pairsFinding_68 : decode cX4_pairsFinding 68 = .ok (.iconst 1, 1) := by decide +kernel
theorem dX4_pairsFinding_69 : decode cX4_pairsFinding 69 = .ok (.iadd, 1) := by decide +kernel
theorem dX4_pairsFinding_70 : decode cX4_pairsFinding 70 = .ok (.iaload, 1) := by decide +kernel
theorem dX4_pairsFinding_71 : decode cX4_pairsFinding 71 = .ok (.invokestatic 138, 3) := by decide +kernel
theorem dX4_pairsFinding_74 : decode cX4_pairsFinding 74 = .ok (.ifCond .ne 5, 3) := by decide +kernel
theorem dX4_pairsFinding_77 : decode cX4_pairsFinding 77 = .ok (.iconst 3, 1) := by decide +kernel
theorem dX4_pairsFinding_78 : decode cX4_pairsFinding 78 = .ok (.ireturn, 1) := by decide +kernel
theorem dX4_pairsFinding_79 : decode cX4_pairsFinding 79 = .ok (.iinc 3 2, 3) := by decide +kernel
theorem dX4_pairsFinding_82 : decode cX4_pairsFinding 82 = .ok (.goto (-52), 3) := by decide +kernel
theorem dX4_pairsFinding_85 : decode cX4_pairsFinding 85 = .ok (.iconst 0, 1) := by decide +kernel
theorem dX4_pairsFinding_86 : decode cX4_pairsFinding 86 = .ok (.ireturn, 1) := by decide +kernel
theorem dX4_fitsPairs_0 : decode cX4_fitsPairs 0 = .ok (.iconst 0, 1) := by decide +kernel
theorem dX4_fitsPairs_1 : decode cX4_fitsPairs 1 = .ok (.istore 5, 2) := by decide +kernel
theorem dX4_fitsPairs_3 : decode cX4_fitsPairs 3 = .ok (.iload 5, 2) := by decide +kernel
theorem dX4_fitsPairs_5 : decode cX4_fitsPairs 5 = .ok (.iconst 1, 1) := by decide +kernel
theorem dX4_fitsPairs_6 : decode cX4_fitsPairs 6 = .ok (.iadd, 1) := by decide +kernel
theorem dX4_fitsPairs_7 : decode cX4_fitsPairs 7 = .ok (.aload_n 0, 1) := by decide +kernel
theorem dX4_fitsPairs_8 : decode cX4_fitsPairs 8 = .ok (.getfield 14, 3) := by decide +kernel
theorem dX4_fitsPairs_11 : decode cX4_fitsPairs 11 = .ok (.iload 4, 2) := by decide +kernel
theorem dX4_fitsPairs_13 : decode cX4_fitsPairs 13 = .ok (.iaload, 1) := by decide +kernel
theorem dX4_fitsPairs_14 : decode cX4_fitsPairs 14 = .ok (.if_icmp .ge 46, 3) := by decide +kernel
theorem dX4_fitsPairs_17 : decode cX4_fitsPairs 17 = .ok (.aload_n 0, 1) := by decide +kernel
theorem dX4_fitsPairs_18 : decode cX4_fitsPairs 18 = .ok (.getfield 42, 3) := by decide +kernel
theorem dX4_fitsPairs_21 : decode cX4_fitsPairs 21 = .ok (.iload_n 1, 1) := by decide +kernel
theorem dX4_fitsPairs_22 : decode cX4_fitsPairs 22 = .ok (.iload_n 2, 1) := by decide +kernel
theorem dX4_fitsPairs_23 : decode cX4_fitsPairs 23 = .ok (.iload_n 3, 1) := by decide +kernel
theorem dX4_fitsPairs_24 : decode cX4_fitsPairs 24 = .ok (.aload_n 0, 1) := by decide +kernel
theorem dX4_fitsPairs_25 : decode cX4_fitsPairs 25 = .ok (.getfield 11, 3) := by decide +kernel
theorem dX4_fitsPairs_28 : decode cX4_fitsPairs 28 = .ok (.iload 4, 2) := by decide +kernel
theorem dX4_fitsPairs_30 : decode cX4_fitsPairs 30 = .ok (.aaload, 1) := by decide +kernel
theorem dX4_fitsPairs_31 : decode cX4_fitsPairs 31 = .ok (.iload 5, 2) := by decide +kernel
theorem dX4_fitsPairs_33 : decode cX4_fitsPairs 33 = .ok (.iaload, 1) := by decide +kernel
theorem dX4_fitsPairs_34 : decode cX4_fitsPairs 34 = .ok (.invokevirtual 280, 3) := by decide +kernel
theorem dX4_fitsPairs_37 : decode cX4_fitsPairs 37 = .ok (.aload_n 0, 1) := by decide +kernel
theorem dX4_fitsPairs_38 : decode cX4_fitsPairs 38 = .ok (.getfield 11, 3) := by decide +kernel
theorem dX4_fitsPairs_41 : decode cX4_fitsPairs 41 = .ok (.iload 4, 2) := by decide +kernel
theorem dX4_fitsPairs_43 : decode cX4_fitsPairs 43 = .ok (.aaload, 1) := by decide +kernel
theorem dX4_fitsPairs_44 : decode cX4_fitsPairs 44 = .ok (.iload 5, 2) := by decide +kernel
theorem dX4_fitsPairs_46 : decode cX4_fitsPairs 46 = .ok (.iconst 1, 1) := by decide +kernel
theorem dX4_fitsPairs_47 : decode cX4_fitsPairs 47 = .ok (.iadd, 1) := by decide +kernel
theorem dX4_fitsPairs_48 : decode cX4_fitsPairs 48 = .ok (.iaload, 1) := by decide +kernel
theorem dX4_fitsPairs_49 : decode cX4_fitsPairs 49 = .ok (.if_icmp .eq 5, 3) := by decide +kernel
theorem dX4_fitsPairs_52 : decode cX4_fitsPairs 52 = .ok (.iconst 0, 1) := by decide +kernel
theorem dX4_fitsPairs_53 : decode cX4_fitsPairs 53 = .ok (.ireturn, 1) := by decide +kernel
theorem dX4_fitsPairs_54 : decode cX4_fitsPairs 54 = .ok (.iinc 5 2, 3) := by decide +kernel
theorem dX4_fitsPairs_57 : decode cX4_fitsPairs 57 = .ok (.goto (-54), 3) := by decide +kernel
theorem dX4_fitsPairs_60 : decode cX4_fitsPairs 60 = .ok (.iconst 1, 1) := by decide +kernel
theorem dX4_fitsPairs_61 : decode cX4_fitsPairs 61 = .ok (.ireturn, 1) := by decide +kernel
theorem dX4_stepsHome_0 : decode cX4_stepsHome 0 = .ok (.iconst 0, 1) := by decide +kernel
theorem dX4_stepsHome_1 : decode cX4_stepsHome 1 = .ok (.istore_n 3, 1) := by decide +kernel
theorem dX4_stepsHome_2 : decode cX4_stepsHome 2 = .ok (.iconst 0, 1) := by decide +kernel
theorem dX4_stepsHome_3 : decode cX4_stepsHome 3 = .ok (.istore 4, 2) := by decide +kernel
theorem dX4_stepsHome_5 : decode cX4_stepsHome 5 = .ok (.iload 4, 2) := by decide +kernel
theorem dX4_stepsHome_7 : decode cX4_stepsHome 7 = .ok (.aload_n 0, 1) := by decide +kernel
theorem dX4_stepsHome_8 : decode cX4_stepsHome 8 = .ok (.getfield 42, 3) := by decide +kernel
theorem dX4_stepsHome_11 : decode cX4_stepsHome 11 = .ok (.getfield 118, 3) := by decide +kernel
theorem dX4_stepsHome_14 : decode cX4_stepsHome 14 = .ok (.if_icmp .ge 58, 3) := by decide +kernel
theorem dX4_stepsHome_17 : decode cX4_stepsHome 17 = .ok (.iload 4, 2) := by decide +kernel
theorem dX4_stepsHome_19 : decode cX4_stepsHome 19 = .ok (.iload_n 1, 1) := by decide +kernel
theorem dX4_stepsHome_20 : decode cX4_stepsHome 20 = .ok (.if_icmp .eq 46, 3) := by decide +kernel
theorem dX4_stepsHome_23 : decode cX4_stepsHome 23 = .ok (.iload 4, 2) := by decide +kernel
theorem dX4_stepsHome_25 : decode cX4_stepsHome 25 = .ok (.iload_n 2, 1) := by decide +kernel
theorem dX4_stepsHome_26 : decode cX4_stepsHome 26 = .ok (.if_icmp .eq 40, 3) := by decide +kernel
theorem dX4_stepsHome_29 : decode cX4_stepsHome 29 = .ok (.aload_n 0, 1) := by decide +kernel
theorem dX4_stepsHome_30 : decode cX4_stepsHome 30 = .ok (.getfield 42, 3) := by decide +kernel
theorem dX4_stepsHome_33 : decode cX4_stepsHome 33 = .ok (.iload 4, 2) := by decide +kernel
theorem dX4_stepsHome_35 : decode cX4_stepsHome 35 = .ok (.invokevirtual 184, 3) := by decide +kernel
theorem dX4_stepsHome_38 : decode cX4_stepsHome 38 = .ok (.ifCond .eq 6, 3) := by decide +kernel
theorem dX4_stepsHome_41 : decode cX4_stepsHome 41 = .ok (.goto 25, 3) := by decide +kernel
theorem dX4_stepsHome_44 : decode cX4_stepsHome 44 = .ok (.iload_n 3, 1) := by decide +kernel
theorem dX4_stepsHome_45 : decode cX4_stepsHome 45 = .ok (.iconst 1, 1) := by decide +kernel
theorem dX4_stepsHome_46 : decode cX4_stepsHome 46 = .ok (.iload 4, 2) := by decide +kernel
theorem dX4_stepsHome_48 : decode cX4_stepsHome 48 = .ok (.iconst 2, 1) := by decide +kernel
theorem dX4_stepsHome_49 : decode cX4_stepsHome 49 = .ok (.irem, 1) := by decide +kernel
theorem dX4_stepsHome_50 : decode cX4_stepsHome 50 = .ok (.aload_n 0, 1) := by decide +kernel
theorem dX4_stepsHome_51 : decode cX4_stepsHome 51 = .ok (.getfield 42, 3) := by decide +kernel
theorem dX4_stepsHome_54 : decode cX4_stepsHome 54 = .ok (.getfield 160, 3) := by decide +kernel
theorem dX4_stepsHome_57 : decode cX4_stepsHome 57 = .ok (.iload 4, 2) := by decide +kernel
theorem dX4_stepsHome_59 : decode cX4_stepsHome 59 = .ok (.iaload, 1) := by decide +kernel
theorem dX4_stepsHome_60 : decode cX4_stepsHome 60 = .ok (.invokestatic 283, 3) := by decide +kernel
theorem dX4_stepsHome_63 : decode cX4_stepsHome 63 = .ok (.ishl, 1) := by decide +kernel
theorem dX4_stepsHome_64 : decode cX4_stepsHome 64 = .ok (.ior, 1) := by decide +kernel
theorem dX4_stepsHome_65 : decode cX4_stepsHome 65 = .ok (.istore_n 3, 1) := by decide +kernel
theorem dX4_stepsHome_66 : decode cX4_stepsHome 66 = .ok (.iinc 4 1, 3) := by decide +kernel
theorem dX4_stepsHome_69 : decode cX4_stepsHome 69 = .ok (.goto (-64), 3) := by decide +kernel
theorem dX4_stepsHome_72 : decode cX4_stepsHome 72 = .ok (.iload_n 1, 1) := by decide +kernel
theorem dX4_stepsHome_73 : decode cX4_stepsHome 73 = .ok (.iconst 2, 1) := by decide +kernel
theorem dX4_stepsHome_74 : decode cX4_stepsHome 74 = .ok (.irem, 1) := by decide +kernel
theorem dX4_stepsHome_75 : decode cX4_stepsHome 75 = .ok (.aload_n 0, 1) := by decide +kernel
theorem dX4_stepsHome_76 : decode cX4_stepsHome 76 = .ok (.getfield 42, 3) := by decide +kernel
theorem dX4_stepsHome_79 : decode cX4_stepsHome 79 = .ok (.getfield 160, 3) := by decide +kernel
theorem dX4_stepsHome_82 : decode cX4_stepsHome 82 = .ok (.iload_n 1, 1) := by decide +kernel
theorem dX4_stepsHome_83 : decode cX4_stepsHome 83 = .ok (.iaload, 1) := by decide +kernel
theorem dX4_stepsHome_84 : decode cX4_stepsHome 84 = .ok (.invokestatic 283, 3) := by decide +kernel
theorem dX4_stepsHome_87 : decode cX4_stepsHome 87 = .ok (.istore 4, 2) := by decide +kernel
theorem dX4_stepsHome_89 : decode cX4_stepsHome 89 = .ok (.iconst 0, 1) := by decide +kernel
theorem dX4_stepsHome_90 : decode cX4_stepsHome 90 = .ok (.aload_n 0, 1) := by decide +kernel
theorem dX4_stepsHome_91 : decode cX4_stepsHome 91 = .ok (.getfield 42, 3) := by decide +kernel
theorem dX4_stepsHome_94 : decode cX4_stepsHome 94 = .ok (.getfield 166, 3) := by decide +kernel
theorem dX4_stepsHome_97 : decode cX4_stepsHome 97 = .ok (.iload_n 1, 1) := by decide +kernel
theorem dX4_stepsHome_98 : decode cX4_stepsHome 98 = .ok (.iaload, 1) := by decide +kernel
theorem dX4_stepsHome_99 : decode cX4_stepsHome 99 = .ok (.invokestatic 283, 3) := by decide +kernel
theorem dX4_stepsHome_102 : decode cX4_stepsHome 102 = .ok (.istore 5, 2) := by decide +kernel
theorem dX4_stepsHome_104 : decode cX4_stepsHome 104 = .ok (.iload 4, 2) := by decide +kernel
theorem dX4_stepsHome_106 : decode cX4_stepsHome 106 = .ok (.iload 5, 2) := by decide +kernel
theorem dX4_stepsHome_108 : decode cX4_stepsHome 108 = .ok (.iconst 1, 1) := by decide +kernel
theorem dX4_stepsHome_109 : decode cX4_stepsHome 109 = .ok (.iload_n 3, 1) := by decide +kernel
theorem dX4_stepsHome_110 : decode cX4_stepsHome 110 = .ok (.invokestatic 286, 3) := by decide +kernel
theorem dX4_stepsHome_113 : decode cX4_stepsHome 113 = .ok (.istore 6, 2) := by decide +kernel
theorem dX4_stepsHome_115 : decode cX4_stepsHome 115 = .ok (.iload 4, 2) := by decide +kernel
theorem dX4_stepsHome_117 : decode cX4_stepsHome 117 = .ok (.iload 5, 2) := by decide +kernel
theorem dX4_stepsHome_119 : decode cX4_stepsHome 119 = .ok (.iconst (-1), 1) := by decide +kernel
theorem dX4_stepsHome_120 : decode cX4_stepsHome 120 = .ok (.iload_n 3, 1) := by decide +kernel
theorem dX4_stepsHome_121 : decode cX4_stepsHome 121 = .ok (.invokestatic 286, 3) := by decide +kernel
theorem dX4_stepsHome_124 : decode cX4_stepsHome 124 = .ok (.istore 7, 2) := by decide +kernel
theorem dX4_stepsHome_126 : decode cX4_stepsHome 126 = .ok (.iload 6, 2) := by decide +kernel
theorem dX4_stepsHome_128 : decode cX4_stepsHome 128 = .ok (.bipush (-9), 2) := by decide +kernel
theorem dX4_stepsHome_130 : decode cX4_stepsHome 130 = .ok (.if_icmp .ne 6, 3) := by decide +kernel
theorem dX4_stepsHome_133 : decode cX4_stepsHome 133 = .ok (.iload 7, 2) := by decide +kernel
theorem dX4_stepsHome_135 : decode cX4_stepsHome 135 = .ok (.ireturn, 1) := by decide +kernel
theorem dX4_stepsHome_136 : decode cX4_stepsHome 136 = .ok (.iload 7, 2) := by decide +kernel
theorem dX4_stepsHome_138 : decode cX4_stepsHome 138 = .ok (.bipush (-9), 2) := by decide +kernel
theorem dX4_stepsHome_140 : decode cX4_stepsHome 140 = .ok (.if_icmp .ne 6, 3) := by decide +kernel
theorem dX4_stepsHome_143 : decode cX4_stepsHome 143 = .ok (.iload 6, 2) := by decide +kernel
theorem dX4_stepsHome_145 : decode cX4_stepsHome 145 = .ok (.ireturn, 1) := by decide +kernel
theorem dX4_stepsHome_146 : decode cX4_stepsHome 146 = .ok (.iload 6, 2) := by decide +kernel
theorem dX4_stepsHome_148 : decode cX4_stepsHome 148 = .ok (.iload 7, 2) := by decide +kernel
theorem dX4_stepsHome_150 : decode cX4_stepsHome 150 = .ok (.invokestatic 289, 3) := by decide +kernel
theorem dX4_stepsHome_153 : decode cX4_stepsHome 153 = .ok (.ireturn, 1) := by decide +kernel
theorem dX4_streetPlace_0 : decode cX4_streetPlace 0 = .ok (.iload_n 0, 1) := by decide +kernel
theorem dX4_streetPlace_1 : decode cX4_streetPlace 1 = .ok (.ifCond .ne 7, 3) := by decide +kernel
theorem dX4_streetPlace_4 : decode cX4_streetPlace 4 = .ok (.iload_n 1, 1) := by decide +kernel
theorem dX4_streetPlace_5 : decode cX4_streetPlace 5 = .ok (.goto 7, 3) := by decide +kernel
theorem dX4_streetPlace_8 : decode cX4_streetPlace 8 = .ok (.bipush 15, 2) := by decide +kernel
theorem dX4_streetPlace_10 : decode cX4_streetPlace 10 = .ok (.iload_n 1, 1) := by decide +kernel
theorem dX4_streetPlace_11 : decode cX4_streetPlace 11 = .ok (.isub, 1) := by decide +kernel
theorem dX4_streetPlace_12 : decode cX4_streetPlace 12 = .ok (.ireturn, 1) := by decide +kernel
theorem dX4_stepsAround_0 : decode cX4_stepsAround 0 = .ok (.iload_n 0, 1) := by decide +kernel
theorem dX4_stepsAround_1 : decode cX4_stepsAround 1 = .ok (.istore 4, 2) := by decide +kernel
theorem dX4_stepsAround_3 : decode cX4_stepsAround 3 = .ok (.iconst 0, 1) := by decide +kernel
theorem dX4_stepsAround_4 : decode cX4_stepsAround 4 = .ok (.istore 5, 2) := by decide +kernel
theorem dX4_stepsAround_6 : decode cX4_stepsAround 6 = .ok (.iload 5, 2) := by decide +kernel
theorem dX4_stepsAround_8 : decode cX4_stepsAround 8 = .ok (.bipush 16, 2) := by decide +kernel
theorem dX4_stepsAround_10 : decode cX4_stepsAround 10 = .ok (.if_icmp .ge 41, 3) := by decide +kernel
theorem dX4_stepsAround_13 : decode cX4_stepsAround 13 = .ok (.iload 4, 2) := by decide +kernel
theorem dX4_stepsAround_15 : decode cX4_stepsAround 15 = .ok (.iload_n 1, 1) := by decide +kernel
theorem dX4_stepsAround_16 : decode cX4_stepsAround 16 = .ok (.if_icmp .ne 6, 3) := by decide +kernel
theorem dX4_stepsAround_19 : decode cX4_stepsAround 19 = .ok (.iload 5, 2) := by decide +kernel
theorem dX4_stepsAround_21 : decode cX4_stepsAround 21 = .ok (.ireturn, 1) := by decide +kernel
theorem dX4_stepsAround_22 : decode cX4_stepsAround 22 = .ok (.iload 4, 2) := by decide +kernel
theorem dX4_stepsAround_24 : decode cX4_stepsAround 24 = .ok (.iload_n 2, 1) := by decide +kernel
theorem dX4_stepsAround_25 : decode cX4_stepsAround 25 = .ok (.iadd, 1) := by decide +kernel
theorem dX4_stepsAround_26 : decode cX4_stepsAround 26 = .ok (.bipush 16, 2) := by decide +kernel
theorem dX4_stepsAround_28 : decode cX4_stepsAround 28 = .ok (.invokestatic 292, 3) := by decide +kernel
theorem dX4_stepsAround_31 : decode cX4_stepsAround 31 = .ok (.istore 4, 2) := by decide +kernel
theorem dX4_stepsAround_33 : decode cX4_stepsAround 33 = .ok (.iload_n 3, 1) := by decide +kernel
theorem dX4_stepsAround_34 : decode cX4_stepsAround 34 = .ok (.iload 4, 2) := by decide +kernel
theorem dX4_stepsAround_36 : decode cX4_stepsAround 36 = .ok (.ishr, 1) := by decide +kernel
theorem dX4_stepsAround_37 : decode cX4_stepsAround 37 = .ok (.iconst 1, 1) := by decide +kernel
theorem dX4_stepsAround_38 : decode cX4_stepsAround 38 = .ok (.iand, 1) := by decide +kernel
theorem dX4_stepsAround_39 : decode cX4_stepsAround 39 = .ok (.ifCond .eq 6, 3) := by decide +kernel
theorem dX4_stepsAround_42 : decode cX4_stepsAround 42 = .ok (.bipush (-9), 2) := by decide +kernel
theorem dX4_stepsAround_44 : decode cX4_stepsAround 44 = .ok (.ireturn, 1) := by decide +kernel
theorem dX4_stepsAround_45 : decode cX4_stepsAround 45 = .ok (.iinc 5 1, 3) := by decide +kernel
theorem dX4_stepsAround_48 : decode cX4_stepsAround 48 = .ok (.goto (-42), 3) := by decide +kernel
theorem dX4_stepsAround_51 : decode cX4_stepsAround 51 = .ok (.bipush (-9), 2) := by decide +kernel
theorem dX4_stepsAround_53 : decode cX4_stepsAround 53 = .ok (.ireturn, 1) := by decide +kernel
theorem dX4_outcome_0 : decode cX4_outcome 0 = .ok (.iload_n 3, 1) := by decide +kernel
theorem dX4_outcome_1 : decode cX4_outcome 1 = .ok (.ifCond .gt 17, 3) := by decide +kernel
theorem dX4_outcome_4 : decode cX4_outcome 4 = .ok (.iload_n 0, 1) := by decide +kernel
theorem dX4_outcome_5 : decode cX4_outcome 5 = .ok (.iload_n 1, 1) := by decide +kernel
theorem dX4_outcome_6 : decode cX4_outcome 6 = .ok (.isub, 1) := by decide +kernel
theorem dX4_outcome_7 : decode cX4_outcome 7 = .ok (.invokestatic 169, 3) := by decide +kernel
theorem dX4_outcome_10 : decode cX4_outcome 10 = .ok (.iload_n 0, 1) := by decide +kernel
theorem dX4_outcome_11 : decode cX4_outcome 11 = .ok (.iload_n 2, 1) := by decide +kernel
theorem dX4_outcome_12 : decode cX4_outcome 12 = .ok (.isub, 1) := by decide +kernel
theorem dX4_outcome_13 : decode cX4_outcome 13 = .ok (.invokestatic 169, 3) := by decide +kernel
theorem dX4_outcome_16 : decode cX4_outcome 16 = .ok (.isub, 1) := by decide +kernel
theorem dX4_outcome_17 : decode cX4_outcome 17 = .ok (.ireturn, 1) := by decide +kernel
theorem dX4_outcome_18 : decode cX4_outcome 18 = .ok (.iload_n 3, 1) := by decide +kernel
theorem dX4_outcome_19 : decode cX4_outcome 19 = .ok (.iconst 2, 1) := by decide +kernel
theorem dX4_outcome_20 : decode cX4_outcome 20 = .ok (.irem, 1) := by decide +kernel
theorem dX4_outcome_21 : decode cX4_outcome 21 = .ok (.ifCond .ne 7, 3) := by decide +kernel
theorem dX4_outcome_24 : decode cX4_outcome 24 = .ok (.iconst 1, 1) := by decide +kernel
theorem dX4_outcome_25 : decode cX4_outcome 25 = .ok (.goto 4, 3) := by decide +kernel
theorem dX4_outcome_28 : decode cX4_outcome 28 = .ok (.iconst 0, 1) := by decide +kernel
theorem dX4_outcome_29 : decode cX4_outcome 29 = .ok (.istore 4, 2) := by decide +kernel
theorem dX4_outcome_31 : decode cX4_outcome 31 = .ok (.iload_n 0, 1) := by decide +kernel
theorem dX4_outcome_32 : decode cX4_outcome 32 = .ok (.iload_n 1, 1) := by decide +kernel
theorem dX4_outcome_33 : decode cX4_outcome 33 = .ok (.iload_n 2, 1) := by decide +kernel
theorem dX4_outcome_34 : decode cX4_outcome 34 = .ok (.iload_n 3, 1) := by decide +kernel
theorem dX4_outcome_35 : decode cX4_outcome 35 = .ok (.iconst 1, 1) := by decide +kernel
theorem dX4_outcome_36 : decode cX4_outcome 36 = .ok (.isub, 1) := by decide +kernel
theorem dX4_outcome_37 : decode cX4_outcome 37 = .ok (.invokestatic 226, 3) := by decide +kernel
theorem dX4_outcome_40 : decode cX4_outcome 40 = .ok (.istore 5, 2) := by decide +kernel
theorem dX4_outcome_42 : decode cX4_outcome 42 = .ok (.iconst (-1), 1) := by decide +kernel
theorem dX4_outcome_43 : decode cX4_outcome 43 = .ok (.istore 6, 2) := by decide +kernel
theorem dX4_outcome_45 : decode cX4_outcome 45 = .ok (.iload 6, 2) := by decide +kernel
theorem dX4_outcome_47 : decode cX4_outcome 47 = .ok (.iconst 1, 1) := by decide +kernel
theorem dX4_outcome_48 : decode cX4_outcome 48 = .ok (.if_icmp .gt 60, 3) := by decide +kernel
theorem dX4_outcome_51 : decode cX4_outcome 51 = .ok (.iload_n 0, 1) := by decide +kernel
theorem dX4_outcome_52 : decode cX4_outcome 52 = .ok (.iload 6, 2) := by decide +kernel
theorem dX4_outcome_54 : decode cX4_outcome 54 = .ok (.iadd, 1) := by decide +kernel
theorem dX4_outcome_55 : decode cX4_outcome 55 = .ok (.invokestatic 138, 3) := by decide +kernel
theorem dX4_outcome_58 : decode cX4_outcome 58 = .ok (.ifCond .ne 6, 3) := by decide +kernel
theorem dX4_outcome_61 : decode cX4_outcome 61 = .ok (.goto 41, 3) := by decide +kernel
theorem dX4_outcome_64 : decode cX4_outcome 64 = .ok (.iload_n 0, 1) := by decide +kernel
theorem dX4_outcome_65 : decode cX4_outcome 65 = .ok (.iload 6, 2) := by decide +kernel
theorem dX4_outcome_67 : decode cX4_outcome 67 = .ok (.iadd, 1) := by decide +kernel
theorem dX4_outcome_68 : decode cX4_outcome 68 = .ok (.iload_n 1, 1) := by decide +kernel
theorem dX4_outcome_69 : decode cX4_outcome 69 = .ok (.iload_n 2, 1) := by decide +kernel
theorem dX4_outcome_70 : decode cX4_outcome 70 = .ok (.iload_n 3, 1) := by decide +kernel
theorem dX4_outcome_71 : decode cX4_outcome 71 = .ok (.iconst 1, 1) := by decide +kernel
theorem dX4_outcome_72 : decode cX4_outcome 72 = .ok (.isub, 1) := by decide +kernel
theorem dX4_outcome_73 : decode cX4_outcome 73 = .ok (.invokestatic 226, 3) := by decide +kernel
theorem dX4_outcome_76 : decode cX4_outcome 76 = .ok (.istore 7, 2) := by decide +kernel
theorem dX4_outcome_78 : decode cX4_outcome 78 = .ok (.iload 4, 2) := by decide +kernel
theorem dX4_outcome_80 : decode cX4_outcome 80 = .ok (.ifCond .eq 13, 3) := by decide +kernel
theorem dX4_outcome_83 : decode cX4_outcome 83 = .ok (.iload 5, 2) := by decide +kernel
theorem dX4_outcome_85 : decode cX4_outcome 85 = .ok (.iload 7, 2) := by decide +kernel
theorem dX4_outcome_87 : decode cX4_outcome 87 = .ok (.invokestatic 295, 3) := by decide +kernel
theorem dX4_outcome_90 : decode cX4_outcome 90 = .ok (.goto 10, 3) := by decide +kernel
theorem dX4_outcome_93 : decode cX4_outcome 93 = .ok (.iload 5, 2) := by decide +kernel
theorem dX4_outcome_95 : decode cX4_outcome 95 = .ok (.iload 7, 2) := by decide +kernel
theorem dX4_outcome_97 : decode cX4_outcome 97 = .ok (.invokestatic 289, 3) := by decide +kernel
theorem dX4_outcome_100 : decode cX4_outcome 100 = .ok (.istore 5, 2) := by decide +kernel
theorem dX4_outcome_102 : decode cX4_outcome 102 = .ok (.iinc 6 2, 3) := by decide +kernel
theorem dX4_outcome_105 : decode cX4_outcome 105 = .ok (.goto (-60), 3) := by decide +kernel
theorem dX4_outcome_108 : decode cX4_outcome 108 = .ok (.iload 5, 2) := by decide +kernel
theorem dX4_outcome_110 : decode cX4_outcome 110 = .ok (.ireturn, 1) := by decide +kernel
theorem dX5_init_0 : decode cX5_init 0 = .ok (.aload_n 0, 1) := by decide +kernel
theorem dX5_init_1 : decode cX5_init 1 = .ok (.invokespecial 1, 3) := by decide +kernel
theorem dX5_init_4 : decode cX5_init 4 = .ok (.aload_n 0, 1) := by decide +kernel
theorem dX5_init_5 : decode cX5_init 5 = .ok (.bipush 6, 2) := by decide +kernel
theorem dX5_init_7 : decode cX5_init 7 = .ok (.newarray .int, 2) := by decide +kernel
theorem dX5_init_9 : decode cX5_init 9 = .ok (.putfield 7, 3) := by decide +kernel
theorem dX5_init_12 : decode cX5_init 12 = .ok (.aload_n 0, 1) := by decide +kernel
theorem dX5_init_13 : decode cX5_init 13 = .ok (.sipush 240, 3) := by decide +kernel
theorem dX5_init_16 : decode cX5_init 16 = .ok (.newarray .int, 2) := by decide +kernel
theorem dX5_init_18 : decode cX5_init 18 = .ok (.putfield 13, 3) := by decide +kernel
theorem dX5_init_21 : decode cX5_init 21 = .ok (.aload_n 0, 1) := by decide +kernel
theorem dX5_init_22 : decode cX5_init 22 = .ok (.iconst 4, 1) := by decide +kernel
theorem dX5_init_23 : decode cX5_init 23 = .ok (.newarray .int, 2) := by decide +kernel
theorem dX5_init_25 : decode cX5_init 25 = .ok (.putfield 16, 3) := by decide +kernel
theorem dX5_init_28 : decode cX5_init 28 = .ok (.aload_n 0, 1) := by decide +kernel
theorem dX5_init_29 : decode cX5_init 29 = .ok (.sipush 240, 3) := by decide +kernel
theorem dX5_init_32 : decode cX5_init 32 = .ok (.newarray .int, 2) := by decide +kernel
theorem dX5_init_34 : decode cX5_init 34 = .ok (.putfield 19, 3) := by decide +kernel
theorem dX5_init_37 : decode cX5_init 37 = .ok (.aload_n 0, 1) := by decide +kernel
theorem dX5_init_38 : decode cX5_init 38 = .ok (.bipush 6, 2) := by decide +kernel
theorem dX5_init_40 : decode cX5_init 40 = .ok (.newarray .int, 2) := by decide +kernel
theorem dX5_init_42 : decode cX5_init 42 = .ok (.putfield 22, 3) := by decide +kernel
theorem dX5_init_45 : decode cX5_init 45 = .ok (.aload_n 0, 1) := by decide +kernel
theorem dX5_init_46 : decode cX5_init 46 = .ok (.bipush 6, 2) := by decide +kernel
theorem dX5_init_48 : decode cX5_init 48 = .ok (.newarray .int, 2) := by decide +kernel
theorem dX5_init_50 : decode cX5_init 50 = .ok (.putfield 25, 3) := by decide +kernel
theorem dX5_init_53 : decode cX5_init 53 = .ok (.aload_n 0, 1) := by decide +kernel
theorem dX5_init_54 : decode cX5_init 54 = .ok (.bipush 6, 2) := by decide +kernel
theorem dX5_init_56 : decode cX5_init 56 = .ok (.newarray .int, 2) := by decide +kernel
theorem dX5_init_58 : decode cX5_init 58 = .ok (.putfield 28, 3) := by decide +kernel
theorem dX5_init_61 : decode cX5_init 61 = .ok (.aload_n 0, 1) := by decide +kernel
theorem dX5_init_62 : decode cX5_init 62 = .ok (.bipush 8, 2) := by decide +kernel
theorem dX5_init_64 : decode cX5_init 64 = .ok (.newarray .int, 2) := by decide +kernel
theorem dX5_init_66 : decode cX5_init 66 = .ok (.putfield 31, 3) := by decide +kernel
theorem dX5_init_69 : decode cX5_init 69 = .ok (.aload_n 0, 1) := by decide +kernel
theorem dX5_init_70 : decode cX5_init 70 = .ok (.sipush 320, 3) := by decide +kernel
theorem dX5_init_73 : decode cX5_init 73 = .ok (.newarray .int, 2) := by decide +kernel
theorem dX5_init_75 : decode cX5_init 75 = .ok (.putfield 34, 3) := by decide +kernel
theorem dX5_init_78 : decode cX5_init 78 = .ok (.aload_n 0, 1) := by decide +kernel
theorem dX5_init_79 : decode cX5_init 79 = .ok (.sipush 987, 3) := by decide +kernel
theorem dX5_init_82 : decode cX5_init 82 = .ok (.newarray .int, 2) := by decide +kernel
theorem dX5_init_84 : decode cX5_init 84 = .ok (.putfield 37, 3) := by decide +kernel
theorem dX5_init_87 : decode cX5_init 87 = .ok (.aload_n 0, 1) := by decide +kernel
theorem dX5_init_88 : decode cX5_init 88 = .ok (.iconst 3, 1) := by decide +kernel
theorem dX5_init_89 : decode cX5_init 89 = .ok (.newarray .boolean, 2) := by decide +kernel
theorem dX5_init_91 : decode cX5_init 91 = .ok (.putfield 40, 3) := by decide +kernel
theorem dX5_init_94 : decode cX5_init 94 = .ok (.aload_n 0, 1) := by decide +kernel
theorem dX5_init_95 : decode cX5_init 95 = .ok (.lconst 1, 1) := by decide +kernel
theorem dX5_init_96 : decode cX5_init 96 = .ok (.putfield 44, 3) := by decide +kernel
theorem dX5_init_99 : decode cX5_init 99 = .ok (.aload_n 0, 1) := by decide +kernel
theorem dX5_init_100 : decode cX5_init 100 = .ok (.bipush 6, 2) := by decide +kernel
theorem dX5_init_102 : decode cX5_init 102 = .ok (.newarray .int, 2) := by decide +kernel
theorem dX5_init_104 : decode cX5_init 104 = .ok (.putfield 48, 3) := by decide +kernel
theorem dX5_init_107 : decode cX5_init 107 = .ok (.aload_n 0, 1) := by decide +kernel
theorem dX5_init_108 : decode cX5_init 108 = .ok (.bipush 24, 2) := by decide +kernel
theorem dX5_init_110 : decode cX5_init 110 = .ok (.newarray .int, 2) := by decide +kernel
theorem dX5_init_112 : decode cX5_init 112 = .ok (.putfield 51, 3) := by decide +kernel
theorem dX5_init_115 : decode cX5_init 115 = .ok (.aload_n 0, 1) := by decide +kernel
theorem dX5_init_116 : decode cX5_init 116 = .ok (.bipush 6, 2) := by decide +kernel
theorem dX5_init_118 : decode cX5_init 118 = .ok (.newarray .int, 2) := by decide +kernel
theorem dX5_init_120 : decode cX5_init 120 = .ok (.putfield 54, 3) := by decide +kernel
theorem dX5_init_123 : decode cX5_init 123 = .ok (.aload_n 0, 1) := by decide +kernel
theorem dX5_init_124 : decode cX5_init 124 = .ok (.bipush 6, 2) := by decide +kernel
theorem dX5_init_126 : decode cX5_init 126 = .ok (.newarray .int, 2) := by decide +kernel
theorem dX5_init_128 : decode cX5_init 128 = .ok (.putfield 57, 3) := by decide +kernel
theorem dX5_init_131 : decode cX5_init 131 = .ok (.aload_n 0, 1) := by decide +kernel
theorem dX5_init_132 : decode cX5_init 132 = .ok (.bipush 6, 2) := by decide +kernel
theorem dX5_init_134 : decode cX5_init 134 = .ok (.newarray .int, 2) := by decide +kernel
theorem dX5_init_136 : decode cX5_init 136 = .ok (.putfield 60, 3) := by decide +kernel
theorem dX5_init_139 : decode cX5_init 139 = .ok (.aload_n 0, 1) := by decide +kernel
theorem dX5_init_140 : decode cX5_init 140 = .ok (.bipush 10, 2) := by decide +kernel
theorem dX5_init_142 : decode cX5_init 142 = .ok (.newarray .int, 2) := by decide +kernel
theorem dX5_init_144 : decode cX5_init 144 = .ok (.putfield 63, 3) := by decide +kernel
theorem dX5_init_147 : decode cX5_init 147 = .ok (.aload_n 0, 1) := by decide +kernel
theorem dX5_init_148 : decode cX5_init 148 = .ok (.bipush 16, 2) := by decide +kernel
theorem dX5_init_150 : decode cX5_init 150 = .ok (.newarray .int, 2) := by decide +kernel
theorem dX5_init_152 : decode cX5_init 152 = .ok (.putfield 66, 3) := by decide +kernel
theorem dX5_init_155 : decode cX5_init 155 = .ok (.aload_n 0, 1) := by decide +kernel
theorem dX5_init_156 : decode cX5_init 156 = .ok (.bipush 8, 2) := by decide +kernel
theorem dX5_init_158 : decode cX5_init 158 = .ok (.newarray .int, 2) := by decide +kernel
theorem dX5_init_160 : decode cX5_init 160 = .ok (.putfield 69, 3) := by decide +kernel
theorem dX5_init_163 : decode cX5_init 163 = .ok (.aload_n 0, 1) := by decide +kernel
theorem dX5_init_164 : decode cX5_init 164 = .ok (.bipush 8, 2) := by decide +kernel
theorem dX5_init_166 : decode cX5_init 166 = .ok (.newarray .int, 2) := by decide +kernel
theorem dX5_init_168 : decode cX5_init 168 = .ok (.putfield 72, 3) := by decide +kernel
theorem dX5_init_171 : decode cX5_init 171 = .ok (.iconst 0, 1) := by decide +kernel
theorem dX5_init_172 : decode cX5_init 172 = .ok (.istore_n 1, 1) := by decide +kernel
theorem dX5_init_173 : decode cX5_init 173 = .ok (.iload_n 1, 1) := by decide +kernel
theorem dX5_init_174 : decode cX5_init 174 = .ok (.bipush 6, 2) := by decide +kernel
theorem dX5_init_176 : decode cX5_init 176 = .ok (.if_icmp .ge 16, 3) := by decide +kernel
theorem dX5_init_179 : decode cX5_init 179 = .ok (.aload_n 0, 1) := by decide +kernel
theorem dX5_init_180 : decode cX5_init 180 = .ok (.getfield 7, 3) := by decide +kernel
theorem dX5_init_183 : decode cX5_init 183 = .ok (.iload_n 1, 1) := by decide +kernel
theorem dX5_init_184 : decode cX5_init 184 = .ok (.iconst (-1), 1) := by decide +kernel
theorem dX5_init_185 : decode cX5_init 185 = .ok (.iastore, 1) := by decide +kernel
theorem dX5_init_186 : decode cX5_init 186 = .ok (.iinc 1 1, 3) := by decide +kernel
theorem dX5_init_189 : decode cX5_init 189 = .ok (.goto (-16), 3) := by decide +kernel
theorem dX5_init_192 : decode cX5_init 192 = .ok (.iconst 0, 1) := by decide +kernel
theorem dX5_init_193 : decode cX5_init 193 = .ok (.istore_n 1, 1) := by decide +kernel
theorem dX5_init_194 : decode cX5_init 194 = .ok (.iload_n 1, 1) := by decide +kernel
theorem dX5_init_195 : decode cX5_init 195 = .ok (.iconst 4, 1) := by decide +kernel
theorem dX5_init_196 : decode cX5_init 196 = .ok (.if_icmp .ge 16, 3) := by decide +kernel
theorem dX5_init_199 : decode cX5_init 199 = .ok (.aload_n 0, 1) := by decide +kernel
theorem dX5_init_200 : decode cX5_init 200 = .ok (.getfield 16, 3) := by decide +kernel
theorem dX5_init_203 : decode cX5_init 203 = .ok (.iload_n 1, 1) := by decide +kernel
theorem dX5_init_204 : decode cX5_init 204 = .ok (.iconst (-1), 1) := by decide +kernel
theorem dX5_init_205 : decode cX5_init 205 = .ok (.iastore, 1) := by decide +kernel
theorem dX5_init_206 : decode cX5_init 206 = .ok (.iinc 1 1, 3) := by decide +kernel
theorem dX5_init_209 : decode cX5_init 209 = .ok (.goto (-15), 3) := by decide +kernel
theorem dX5_init_212 : decode cX5_init 212 = .ok (.return_, 1) := by decide +kernel
theorem dX5_in_0 : decode cX5_in 0 = .ok (.lload_n 0, 1) := by decide +kernel
theorem dX5_in_1 : decode cX5_in 1 = .ok (.lload_n 2, 1) := by decide +kernel
theorem dX5_in_2 : decode cX5_in 2 = .ok (.lcmp, 1) := by decide +kernel
theorem dX5_in_3 : decode cX5_in 3 = .ok (.ifCond .lt 14, 3) := by decide +kernel
theorem dX5_in_6 : decode cX5_in 6 = .ok (.lload_n 0, 1) := by decide +kernel
theorem dX5_in_7 : decode cX5_in 7 = .ok (.lload 4, 2) := by decide +kernel
theorem dX5_in_9 : decode cX5_in 9 = .ok (.lcmp, 1) := by decide +kernel
theorem dX5_in_10 : decode cX5_in 10 = .ok (.ifCond .gt 7, 3) := by decide +kernel
theorem dX5_in_13 : decode cX5_in 13 = .ok (.iconst 1, 1) := by decide +kernel
theorem dX5_in_14 : decode cX5_in 14 = .ok (.goto 4, 3) := by decide +kernel
theorem dX5_in_17 : decode cX5_in 17 = .ok (.iconst 0, 1) := by decide +kernel
theorem dX5_in_18 : decode cX5_in 18 = .ok (.ireturn, 1) := by decide +kernel
theorem dX5_has_0 : decode cX5_has 0 = .ok (.iload_n 0, 1) := by decide +kernel
theorem dX5_has_1 : decode cX5_has 1 = .ok (.iload_n 1, 1) := by decide +kernel
theorem dX5_has_2 : decode cX5_has 2 = .ok (.ishr, 1) := by decide +kernel
theorem dX5_has_3 : decode cX5_has 3 = .ok (.iconst 1, 1) := by decide +kernel
theorem dX5_has_4 : decode cX5_has 4 = .ok (.iand, 1) := by decide +kernel
theorem dX5_has_5 : decode cX5_has 5 = .ok (.iconst 1, 1) := by decide +kernel
theorem dX5_has_6 : decode cX5_has 6 = .ok (.if_icmp .ne 7, 3) := by decide +kernel
theorem dX5_has_9 : decode cX5_has 9 = .ok (.iconst 1, 1) := by decide +kernel
theorem dX5_has_10 : decode cX5_has 10 = .ok (.goto 4, 3) := by decide +kernel
theorem dX5_has_13 : decode cX5_has 13 = .ok (.iconst 0, 1) := by decide +kernel
theorem dX5_has_14 : decode cX5_has 14 = .ok (.ireturn, 1) := by decide +kernel
theorem dX5_bits_0 : decode cX5_bits 0 = .ok (.iconst 0, 1) := by decide +kernel
theorem dX5_bits_1 : decode cX5_bits 1 = .ok (.istore_n 1, 1) := by decide +kernel
theorem dX5_bits_2 : decode cX5_bits 2 = .ok (.iload_n 0, 1) := by decide +kernel
theorem dX5_bits_3 : decode cX5_bits 3 = .ok (.istore_n 2, 1) := by decide +kernel
theorem dX5_bits_4 : decode cX5_bits 4 = .ok (.iload_n 2, 1) := by decide +kernel
theorem dX5_bits_5 : decode cX5_bits 5 = .ok (.ifCond .eq 15, 3) := by decide +kernel
theorem dX5_bits_8 : decode cX5_bits 8 = .ok (.iinc 1 1, 3) := by decide +kernel
theorem dX5_bits_11 : decode cX5_bits 11 = .ok (.iload_n 2, 1) := by decide +kernel
theorem dX5_bits_12 : decode cX5_bits 12 = .ok (.iload_n 2, 1) := by decide +kernel
theorem dX5_bits_13 : decode cX5_bits 13 = .ok (.iconst 1, 1) := by decide +kernel
theorem dX5_bits_14 : decode cX5_bits 14 = .ok (.isub, 1) := by decide +kernel
theorem dX5_bits_15 : decode cX5_bits 15 = .ok (.iand, 1) := by decide +kernel
theorem dX5_bits_16 : decode cX5_bits 16 = .ok (.istore_n 2, 1) := by decide +kernel
theorem dX5_bits_17 : decode cX5_bits 17 = .ok (.goto (-13), 3) := by decide +kernel
theorem dX5_bits_20 : decode cX5_bits 20 = .ok (.iload_n 1, 1) := by decide +kernel
theorem dX5_bits_21 : decode cX5_bits 21 = .ok (.ireturn, 1) := by decide +kernel
theorem dX5_found_0 : decode cX5_found 0 = .ok (.aload_n 0, 1) := by decide +kernel
theorem dX5_found_1 : decode cX5_found 1 = .ok (.iload_n 1, 1) := by decide +kernel
theorem dX5_found_2 : decode cX5_found 2 = .ok (.putfield 75, 3) := by decide +kernel
theorem dX5_found_5 : decode cX5_found 5 = .ok (.aload_n 0, 1) := by decide +kernel
theorem dX5_found_6 : decode cX5_found 6 = .ok (.getfield 48, 3) := by decide +kernel
theorem dX5_found_9 : decode cX5_found 9 = .ok (.iload_n 1, 1) := by decide +kernel
theorem dX5_found_10 : decode cX5_found 10 = .ok (.dup2, 1) := by decide +kernel
theorem dX5_found_11 : decode cX5_found 11 = .ok (.iaload, 1) := by decide +kernel
theorem dX5_found_12 : decode cX5_found 12 = .ok (.iconst 1, 1) := by decide +kernel
theorem dX5_found_13 : decode cX5_found 13 = .ok (.iadd, 1) := by decide +kernel
theorem dX5_found_14 : decode cX5_found 14 = .ok (.iastore, 1) := by decide +kernel
theorem dX5_found_15 : decode cX5_found 15 = .ok (.bipush (-3), 2) := by decide +kernel
theorem dX5_found_17 : decode cX5_found 17 = .ok (.ireturn, 1) := by decide +kernel
theorem dX5_tell_0 : decode cX5_tell 0 = .ok (.aload_n 0, 1) := by decide +kernel
theorem dX5_tell_1 : decode cX5_tell 1 = .ok (.iload_n 1, 1) := by decide +kernel
theorem dX5_tell_2 : decode cX5_tell 2 = .ok (.putfield 79, 3) := by decide +kernel
theorem dX5_tell_5 : decode cX5_tell 5 = .ok (.iconst 1, 1) := by decide +kernel
theorem dX5_tell_6 : decode cX5_tell 6 = .ok (.ireturn, 1) := by decide +kernel
theorem dX5_answer_0 : decode cX5_answer 0 = .ok (.aload_n 0, 1) := by decide +kernel
theorem dX5_answer_1 : decode cX5_answer 1 = .ok (.iload_n 2, 1) := by decide +kernel
theorem dX5_answer_2 : decode cX5_answer 2 = .ok (.putfield 79, 3) := by decide +kernel
theorem dX5_answer_5 : decode cX5_answer 5 = .ok (.iload_n 1, 1) := by decide +kernel
theorem dX5_answer_6 : decode cX5_answer 6 = .ok (.ireturn, 1) := by decide +kernel
theorem dX5_isRow_0 : decode cX5_isRow 0 = .ok (.iload_n 0, 1) := by decide +kernel
theorem dX5_isRow_1 : decode cX5_isRow 1 = .ok (.i2l, 1) := by decide +kernel
theorem dX5_isRow_2 : decode cX5_isRow 2 = .ok (.lconst 0, 1) := by decide +kernel
theorem dX5_isRow_3 : decode cX5_isRow 3 = .ok (.ldc2_w 82, 3) := by decide +kernel
theorem dX5_isRow_6 : decode cX5_isRow 6 = .ok (.invokestatic 84, 3) := by decide +kernel
theorem dX5_isRow_9 : decode cX5_isRow 9 = .ok (.ireturn, 1) := by decide +kernel
theorem dX5_isText_0 : decode cX5_isText 0 = .ok (.iload_n 0, 1) := by decide +kernel
theorem dX5_isText_1 : decode cX5_isText 1 = .ok (.i2l, 1) := by decide +kernel
theorem dX5_isText_2 : decode cX5_isText 2 = .ok (.lconst 0, 1) := by decide +kernel
theorem dX5_isText_3 : decode cX5_isText 3 = .ok (.ldc2_w 88, 3) := by decide +kernel
theorem dX5_isText_6 : decode cX5_isText 6 = .ok (.invokestatic 84, 3) := by decide +kernel
theorem dX5_isText_9 : decode cX5_isText 9 = .ok (.ireturn, 1) := by decide +kernel
theorem dX5_row_0 : decode cX5_row 0 = .ok (.iload_n 1, 1) := by decide +kernel
theorem dX5_row_1 : decode cX5_row 1 = .ok (.invokestatic 90, 3) := by decide +kernel
theorem dX5_row_4 : decode cX5_row 4 = .ok (.ifCond .eq 9, 3) := by decide +kernel
theorem dX5_row_7 : decode cX5_row 7 = .ok (.iload_n 2, 1) := by decide +kernel
theorem dX5_row_8 : decode cX5_row 8 = .ok (.bipush 40, 2) := by decide +kernel
theorem dX5_row_10 : decode cX5_row 10 = .ok (.if_icmp .le 5, 3) := by decide +kernel
theorem dX5_row_13 : decode cX5_row 13 = .ok (.iconst (-1), 1) := by decide +kernel
theorem dX5_row_14 : decode cX5_row 14 = .ok (.ireturn, 1) := by decide +kernel
theorem dX5_row_15 : decode cX5_row 15 = .ok (.iload_n 2, 1) := by decide +kernel
theorem dX5_row_16 : decode cX5_row 16 = .ok (.ifCond .ge 9, 3) := by decide +kernel
theorem dX5_row_19 : decode cX5_row 19 = .ok (.aload_n 0, 1) := by decide +kernel
theorem dX5_row_20 : decode cX5_row 20 = .ok (.iconst 5, 1) := by decide +kernel
theorem dX5_row_21 : decode cX5_row 21 = .ok (.invokevirtual 94, 3) := by decide +kernel
theorem dX5_row_24 : decode cX5_row 24 = .ok (.ireturn, 1) := by decide +kernel
theorem dX5_row_25 : decode cX5_row 25 = .ok (.aload_n 0, 1) := by decide +kernel
theorem dX5_row_26 : decode cX5_row 26 = .ok (.getfield 7, 3) := by decide +kernel
theorem dX5_row_29 : decode cX5_row 29 = .ok (.iload_n 1, 1) := by decide +kernel
theorem dX5_row_30 : decode cX5_row 30 = .ok (.iload_n 2, 1) := by decide +kernel
theorem dX5_row_31 : decode cX5_row 31 = .ok (.iastore, 1) := by decide +kernel
theorem dX5_row_32 : decode cX5_row 32 = .ok (.iconst 0, 1) := by decide +kernel
theorem dX5_row_33 : decode cX5_row 33 = .ok (.istore_n 3, 1) := by decide +kernel
theorem dX5_row_34 : decode cX5_row 34 = .ok (.iload_n 3, 1) := by decide +kernel
theorem dX5_row_35 : decode cX5_row 35 = .ok (.bipush 40, 2) := by decide +kernel
theorem dX5_row_37 : decode cX5_row 37 = .ok (.if_icmp .ge 21, 3) := by decide +kernel
theorem dX5_row_40 : decode cX5_row 40 = .ok (.aload_n 0, 1) := by decide +kernel
theorem dX5_row_41 : decode cX5_row 41 = .ok (.getfield 13, 3) := by decide +kernel
theorem dX5_row_44 : decode cX5_row 44 = .ok (.bipush 40, 2) := by decide +kernel
theorem dX5_row_46 : decode cX5_row 46 = .ok (.iload_n 1, 1) := by decide +kernel
theorem dX5_row_47 : decode cX5_row 47 = .ok (.imul, 1) := by decide +kernel
theorem dX5_row_48 : decode cX5_row 48 = .ok (.iload_n 3, 1) := by decide +kernel
theorem dX5_row_49 : decode cX5_row 49 = .ok (.iadd, 1) := by decide +kernel
theorem dX5_row_50 : decode cX5_row 50 = .ok (.iconst 0, 1) := by decide +kernel
theorem dX5_row_51 : decode cX5_row 51 = .ok (.iastore, 1) := by decide +kernel
theorem dX5_row_52 : decode cX5_row 52 = .ok (.iinc 3 1, 3) := by decide +kernel
theorem dX5_row_55 : decode cX5_row 55 = .ok (.goto (-21), 3) := by decide +kernel
theorem dX5_row_58 : decode cX5_row 58 = .ok (.iload_n 2, 1) := by decide +kernel
theorem dX5_row_59 : decode cX5_row 59 = .ok (.ireturn, 1) := by decide +kernel
theorem dX5_lay_0 : decode cX5_lay 0 = .ok (.iload_n 1, 1) := by decide +kernel
theorem dX5_lay_1 : decode cX5_lay 1 = .ok (.invokestatic 90, 3) := by decide +kernel
theorem dX5_lay_4 : decode cX5_lay 4 = .ok (.ifCond .ne 5, 3) := by decide +kernel
theorem dX5_lay_7 : decode cX5_lay 7 = .ok (.iconst (-1), 1) := by decide +kernel
theorem dX5_lay_8 : decode cX5_lay 8 = .ok (.ireturn, 1) := by decide +kernel
theorem dX5_lay_9 : decode cX5_lay 9 = .ok (.aload_n 0, 1) := by decide +kernel
theorem dX5_lay_10 : decode cX5_lay 10 = .ok (.getfield 7, 3) := by decide +kernel
theorem dX5_lay_13 : decode cX5_lay 13 = .ok (.iload_n 1, 1) := by decide +kernel
theorem dX5_lay_14 : decode cX5_lay 14 = .ok (.iaload, 1) := by decide +kernel
theorem dX5_lay_15 : decode cX5_lay 15 = .ok (.ifCond .ge 9, 3) := by decide +kernel
theorem dX5_lay_18 : decode cX5_lay 18 = .ok (.aload_n 0, 1) := by decide +kernel
theorem dX5_lay_19 : decode cX5_lay 19 = .ok (.iconst 1, 1) := by decide +kernel
theorem dX5_lay_20 : decode cX5_lay 20 = .ok (.invokevirtual 94, 3) := by decide +kernel
theorem dX5_lay_23 : decode cX5_lay 23 = .ok (.ireturn, 1) := by decide +kernel
theorem dX5_lay_24 : decode cX5_lay 24 = .ok (.iload_n 2, 1) := by decide +kernel
theorem dX5_lay_25 : decode cX5_lay 25 = .ok (.i2l, 1) := by decide +kernel
theorem dX5_lay_26 : decode cX5_lay 26 = .ok (.lconst 0, 1) := by decide +kernel
theorem dX5_lay_27 : decode cX5_lay 27 = .ok (.aload_n 0, 1) := by decide +kernel
theorem dX5_lay_28 : decode cX5_lay 28 = .ok (.getfield 7, 3) := by decide +kernel
theorem dX5_lay_31 : decode cX5_lay 31 = .ok (.iload_n 1, 1) := by decide +kernel
theorem dX5_lay_32 : decode cX5_lay 32 = .ok (.iaload, 1) := by decide +kernel
theorem dX5_lay_33 : decode cX5_lay 33 = .ok (.iconst 1, 1) := by decide +kernel
theorem dX5_lay_34 : decode cX5_lay 34 = .ok (.isub, 1) := by decide +kernel
theorem dX5_lay_35 : decode cX5_lay 35 = .ok (.i2l, 1) := by decide +kernel
theorem dX5_lay_36 : decode cX5_lay 36 = .ok (.invokestatic 84, 3) := by decide +kernel
theorem dX5_lay_39 : decode cX5_lay 39 = .ok (.ifCond .ne 9, 3) := by decide +kernel
theorem dX5_lay_42 : decode cX5_lay 42 = .ok (.aload_n 0, 1) := by decide +kernel
theorem dX5_lay_43 : decode cX5_lay 43 = .ok (.iconst 2, 1) := by decide +kernel
theorem dX5_lay_44 : decode cX5_lay 44 = .ok (.invokevirtual 94, 3) := by decide +kernel
theorem dX5_lay_47 : decode cX5_lay 47 = .ok (.ireturn, 1) := by decide +kernel
theorem dX5_lay_48 : decode cX5_lay 48 = .ok (.aload_n 0, 1) := by decide +kernel
theorem dX5_lay_49 : decode cX5_lay 49 = .ok (.getfield 13, 3) := by decide +kernel
theorem dX5_lay_52 : decode cX5_lay 52 = .ok (.bipush 40, 2) := by decide +kernel
theorem dX5_lay_54 : decode cX5_lay 54 = .ok (.iload_n 1, 1) := by decide +kernel
theorem dX5_lay_55 : decode cX5_lay 55 = .ok (.imul, 1) := by decide +kernel
theorem dX5_lay_56 : decode cX5_lay 56 = .ok (.iload_n 2, 1) := by decide +kernel
theorem dX5_lay_57 : decode cX5_lay 57 = .ok (.iadd, 1) := by decide +kernel
theorem dX5_lay_58 : decode cX5_lay 58 = .ok (.iaload, 1) := by decide +kernel
theorem dX5_lay_59 : decode cX5_lay 59 = .ok (.istore 4, 2) := by decide +kernel
theorem dX5_lay_61 : decode cX5_lay 61 = .ok (.aload_n 0, 1) := by decide +kernel
theorem dX5_lay_62 : decode cX5_lay 62 = .ok (.getfield 13, 3) := by decide +kernel
theorem dX5_lay_65 : decode cX5_lay 65 = .ok (.bipush 40, 2) := by decide +kernel
theorem dX5_lay_67 : decode cX5_lay 67 = .ok (.iload_n 1, 1) := by decide +kernel
theorem dX5_lay_68 : decode cX5_lay 68 = .ok (.imul, 1) := by decide +kernel
theorem dX5_lay_69 : decode cX5_lay 69 = .ok (.iload_n 2, 1) := by decide +kernel
theorem dX5_lay_70 : decode cX5_lay 70 = .ok (.iadd, 1) := by decide +kernel
theorem dX5_lay_71 : decode cX5_lay 71 = .ok (.iload_n 3, 1) := by decide +kernel
theorem dX5_lay_72 : decode cX5_lay 72 = .ok (.iastore, 1) := by decide +kernel
theorem dX5_lay_73 : decode cX5_lay 73 = .ok (.aload_n 0, 1) := by decide +kernel
theorem dX5_lay_74 : decode cX5_lay 74 = .ok (.iload 4, 2) := by decide +kernel
theorem dX5_lay_76 : decode cX5_lay 76 = .ok (.invokevirtual 98, 3) := by decide +kernel
theorem dX5_lay_79 : decode cX5_lay 79 = .ok (.ireturn, 1) := by decide +kernel
theorem dX5_at_0 : decode cX5_at 0 = .ok (.iload_n 1, 1) := by decide +kernel
theorem dX5_at_1 : decode cX5_at 1 = .ok (.invokestatic 90, 3) := by decide +kernel
theorem dX5_at_4 : decode cX5_at 4 = .ok (.ifCond .ne 5, 3) := by decide +kernel
theorem dX5_at_7 : decode cX5_at 7 = .ok (.iconst (-1), 1) := by decide +kernel
theorem dX5_at_8 : decode cX5_at 8 = .ok (.ireturn, 1) := by decide +kernel
theorem dX5_at_9 : decode cX5_at 9 = .ok (.aload_n 0, 1) := by decide +kernel
theorem dX5_at_10 : decode cX5_at 10 = .ok (.getfield 7, 3) := by decide +kernel
theorem dX5_at_13 : decode cX5_at 13 = .ok (.iload_n 1, 1) := by decide +kernel
theorem dX5_at_14 : decode cX5_at 14 = .ok (.iaload, 1) := by decide +kernel
theorem dX5_at_15 : decode cX5_at 15 = .ok (.ifCond .ge 9, 3) := by decide +kernel
theorem dX5_at_18 : decode cX5_at 18 = .ok (.aload_n 0, 1) := by decide +kernel
theorem dX5_at_19 : decode cX5_at 19 = .ok (.iconst 1, 1) := by decide +kernel
theorem dX5_at_20 : decode cX5_at 20 = .ok (.invokevirtual 94, 3) := by decide +kernel
theorem dX5_at_23 : decode cX5_at 23 = .ok (.ireturn, 1) := by decide +kernel
theorem dX5_at_24 : decode cX5_at 24 = .ok (.iload_n 2, 1) := by decide +kernel
theorem dX5_at_25 : decode cX5_at 25 = .ok (.i2l, 1) := by decide +kernel
theorem dX5_at_26 : decode cX5_at 26 = .ok (.lconst 0, 1) := by decide +kernel
theorem dX5_at_27 : decode cX5_at 27 = .ok (.aload_n 0, 1) := by decide +kernel
theorem dX5_at_28 : decode cX5_at 28 = .ok (.getfield 7, 3) := by decide +kernel
theorem dX5_at_31 : decode cX5_at 31 = .ok (.iload_n 1, 1) := by decide +kernel
theorem dX5_at_32 : decode cX5_at 32 = .ok (.iaload, 1) := by decide +kernel
theorem dX5_at_33 : decode cX5_at 33 = .ok (.iconst 1, 1) := by decide +kernel
theorem dX5_at_34 : decode cX5_at 34 = .ok (.isub, 1) := by decide +kernel
theorem dX5_at_35 : decode cX5_at 35 = .ok (.i2l, 1) := by decide +kernel
theorem dX5_at_36 : decode cX5_at 36 = .ok (.invokestatic 84, 3) := by decide +kernel
theorem dX5_at_39 : decode cX5_at 39 = .ok (.ifCond .eq 21, 3) := by decide +kernel
theorem dX5_at_42 : decode cX5_at 42 = .ok (.aload_n 0, 1) := by decide +kernel
theorem dX5_at_43 : decode cX5_at 43 = .ok (.aload_n 0, 1) := by decide +kernel
theorem dX5_at_44 : decode cX5_at 44 = .ok (.getfield 13, 3) := by decide +kernel
theorem dX5_at_47 : decode cX5_at 47 = .ok (.bipush 40, 2) := by decide +kernel
theorem dX5_at_49 : decode cX5_at 49 = .ok (.iload_n 1, 1) := by decide +kernel
theorem dX5_at_50 : decode cX5_at 50 = .ok (.imul, 1) := by decide +kernel
theorem dX5_at_51 : decode cX5_at 51 = .ok (.iload_n 2, 1) := by decide +kernel
theorem dX5_at_52 : decode cX5_at 52 = .ok (.iadd, 1) := by decide +kernel
theorem dX5_at_53 : decode cX5_at 53 = .ok (.iaload, 1) := by decide +kernel
theorem dX5_at_54 : decode cX5_at 54 = .ok (.invokevirtual 98, 3) := by decide +kernel
theorem dX5_at_57 : decode cX5_at 57 = .ok (.goto 8, 3) := by decide +kernel
theorem dX5_at_60 : decode cX5_at 60 = .ok (.aload_n 0, 1) := by decide +kernel
theorem dX5_at_61 : decode cX5_at 61 = .ok (.iconst 2, 1) := by decide +kernel
theorem dX5_at_62 : decode cX5_at 62 = .ok (.invokevirtual 94, 3) := by decide +kernel
theorem dX5_at_65 : decode cX5_at 65 = .ok (.ireturn, 1) := by decide +kernel
theorem dX5_tear_0 : decode cX5_tear 0 = .ok (.iload_n 1, 1) := by decide +kernel
theorem dX5_tear_1 : decode cX5_tear 1 = .ok (.invokestatic 90, 3) := by decide +kernel
theorem dX5_tear_4 : decode cX5_tear 4 = .ok (.ifCond .ne 5, 3) := by decide +kernel
theorem dX5_tear_7 : decode cX5_tear 7 = .ok (.iconst (-1), 1) := by decide +kernel
theorem dX5_tear_8 : decode cX5_tear 8 = .ok (.ireturn, 1) := by decide +kernel
theorem dX5_tear_9 : decode cX5_tear 9 = .ok (.aload_n 0, 1) := by decide +kernel
theorem dX5_tear_10 : decode cX5_tear 10 = .ok (.getfield 7, 3) := by decide +kernel
theorem dX5_tear_13 : decode cX5_tear 13 = .ok (.iload_n 1, 1) := by decide +kernel
theorem dX5_tear_14 : decode cX5_tear 14 = .ok (.iaload, 1) := by decide +kernel
theorem dX5_tear_15 : decode cX5_tear 15 = .ok (.ifCond .ge 9, 3) := by decide +kernel
theorem dX5_tear_18 : decode cX5_tear 18 = .ok (.aload_n 0, 1) := by decide +kernel
theorem dX5_tear_19 : decode cX5_tear 19 = .ok (.iconst 1, 1) := by decide +kernel
theorem dX5_tear_20 : decode cX5_tear 20 = .ok (.invokevirtual 94, 3) := by decide +kernel
theorem dX5_tear_23 : decode cX5_tear 23 = .ok (.ireturn, 1) := by decide +kernel
theorem dX5_tear_24 : decode cX5_tear 24 = .ok (.aload_n 0, 1) := by decide +kernel
theorem dX5_tear_25 : decode cX5_tear 25 = .ok (.getfield 7, 3) := by decide +kernel
theorem dX5_tear_28 : decode cX5_tear 28 = .ok (.iload_n 1, 1) := by decide +kernel
theorem dX5_tear_29 : decode cX5_tear 29 = .ok (.iconst (-1), 1) := by decide +kernel
theorem dX5_tear_30 : decode cX5_tear 30 = .ok (.iastore, 1) := by decide +kernel
theorem dX5_tear_31 : decode cX5_tear 31 = .ok (.iconst 1, 1) := by decide +kernel
theorem dX5_tear_32 : decode cX5_tear 32 = .ok (.ireturn, 1) := by decide +kernel
theorem dX5_copy_0 : decode cX5_copy 0 = .ok (.iload_n 1, 1) := by decide +kernel
theorem dX5_copy_1 : decode cX5_copy 1 = .ok (.invokestatic 90, 3) := by decide +kernel
theorem dX5_copy_4 : decode cX5_copy 4 = .ok (.ifCond .eq 10, 3) := by decide +kernel
theorem dX5_copy_7 : decode cX5_copy 7 = .ok (.iload_n 3, 1) := by decide +kernel
theorem dX5_copy_8 : decode cX5_copy 8 = .ok (.invokestatic 90, 3) := by decide +kernel
theorem dX5_copy_11 : decode cX5_copy 11 = .ok (.ifCond .ne 5, 3) := by decide +kernel
theorem dX5_copy_14 : decode cX5_copy 14 = .ok (.iconst (-1), 1) := by decide +kernel
theorem dX5_copy_15 : decode cX5_copy 15 = .ok (.ireturn, 1) := by decide +kernel
theorem dX5_copy_16 : decode cX5_copy 16 = .ok (.iload 5, 2) := by decide +kernel
theorem dX5_copy_18 : decode cX5_copy 18 = .ok (.ifCond .ge 9, 3) := by decide +kernel
theorem dX5_copy_21 : decode cX5_copy 21 = .ok (.aload_n 0, 1) := by decide +kernel
theorem dX5_copy_22 : decode cX5_copy 22 = .ok (.iconst 5, 1) := by decide +kernel
theorem dX5_copy_23 : decode cX5_copy 23 = .ok (.invokevirtual 94, 3) := by decide +kernel
theorem dX5_copy_26 : decode cX5_copy 26 = .ok (.ireturn, 1) := by decide +kernel
theorem dX5_copy_27 : decode cX5_copy 27 = .ok (.aload_n 0, 1) := by decide +kernel
theorem dX5_copy_28 : decode cX5_copy 28 = .ok (.getfield 7, 3) := by decide +kernel
theorem dX5_copy_31 : decode cX5_copy 31 = .ok (.iload_n 1, 1) := by decide +kernel
theorem dX5_copy_32 : decode cX5_copy 32 = .ok (.iaload, 1) := by decide +kernel
theorem dX5_copy_33 : decode cX5_copy 33 = .ok (.ifCond .lt 12, 3) := by decide +kernel
theorem dX5_copy_36 : decode cX5_copy 36 = .ok (.aload_n 0, 1) := by decide +kernel
theorem dX5_copy_37 : decode cX5_copy 37 = .ok (.getfield 7, 3) := by decide +kernel
theorem dX5_copy_40 : decode cX5_copy 40 = .ok (.iload_n 3, 1) := by decide +kernel
theorem dX5_copy_41 : decode cX5_copy 41 = .ok (.iaload, 1) := by decide +kernel
theorem dX5_copy_42 : decode cX5_copy 42 = .ok (.ifCond .ge 9, 3) := by decide +kernel
theorem dX5_copy_45 : decode cX5_copy 45 = .ok (.aload_n 0, 1) := by decide +kernel
theorem dX5_copy_46 : decode cX5_copy 46 = .ok (.iconst 1, 1) := by decide +kernel
theorem dX5_copy_47 : decode cX5_copy 47 = .ok (.invokevirtual 94, 3) := by decide +kernel
theorem dX5_copy_50 : decode cX5_copy 50 = .ok (.ireturn, 1) := by decide +kernel
theorem dX5_copy_51 : decode cX5_copy 51 = .ok (.iload_n 2, 1) := by decide +kernel
theorem dX5_copy_52 : decode cX5_copy 52 = .ok (.ifCond .lt 43, 3) := by decide +kernel
theorem dX5_copy_55 : decode cX5_copy 55 = .ok (.iload 4, 2) := by decide +kernel
theorem dX5_copy_57 : decode cX5_copy 57 = .ok (.ifCond .lt 38, 3) := by decide +kernel
theorem dX5_copy_60 : decode cX5_copy 60 = .ok (.iload_n 2, 1) := by decide +kernel
theorem dX5_copy_61 : decode cX5_copy 61 = .ok (.i2l, 1) := by decide +kernel
theorem dX5_copy_62 : decode cX5_copy 62 = .ok (.iload 5, 2) := by decide +kernel
theorem dX5_copy_64 : decode cX5_copy 64 = .ok (.i2l, 1) := by decide +kernel
theorem dX5_copy_65 : decode cX5_copy 65 = .ok (.ladd, 1) := by decide +kernel
theorem dX5_copy_66 : decode cX5_copy 66 = .ok (.aload_n 0, 1) := by decide +kernel
theorem dX5_copy_67 : decode cX5_copy 67 = .ok (.getfield 7, 3) := by decide +kernel
theorem dX5_copy_70 : decode cX5_copy 70 = .ok (.iload_n 1, 1) := by decide +kernel
theorem dX5_copy_71 : decode cX5_copy 71 = .ok (.iaload, 1) := by decide +kernel
theorem dX5_copy_72 : decode cX5_copy 72 = .ok (.i2l, 1) := by decide +kernel
theorem dX5_copy_73 : decode cX5_copy 73 = .ok (.lcmp, 1) := by decide +kernel
theorem dX5_copy_74 : decode cX5_copy 74 = .ok (.ifCond .gt 21, 3) := by decide +kernel
theorem dX5_copy_77 : decode cX5_copy 77 = .ok (.iload 4, 2) := by decide +kernel
theorem dX5_copy_79 : decode cX5_copy 79 = .ok (.i2l, 1) := by decide +kernel
theorem dX5_copy_80 : decode cX5_copy 80 = .ok (.iload 5, 2) := by decide +kernel
theorem dX5_copy_82 : decode cX5_copy 82 = .ok (.i2l, 1) := by decide +kernel
theorem dX5_copy_83 : decode cX5_copy 83 = .ok (.ladd, 1) := by decide +kernel
theorem dX5_copy_84 : decode cX5_copy 84 = .ok (.aload_n 0, 1) := by decide +kernel
theorem dX5_copy_85 : decode cX5_copy 85 = .ok (.getfield 7, 3) := by decide +kernel
theorem dX5_copy_88 : decode cX5_copy 88 = .ok (.iload_n 3, 1) := by decide +kernel
theorem dX5_copy_89 : decode cX5_copy 89 = .ok (.iaload, 1) := by decide +kernel
theorem dX5_copy_90 : decode cX5_copy 90 = .ok (.i2l, 1) := by decide +kernel
theorem dX5_copy_91 : decode cX5_copy 91 = .ok (.lcmp, 1) := by decide +kernel
theorem dX5_copy_92 : decode cX5_copy 92 = .ok (.ifCond .le 9, 3) := by decide +kernel
theorem dX5_copy_95 : decode cX5_copy 95 = .ok (.aload_n 0, 1) := by decide +kernel
theorem dX5_copy_96 : decode cX5_copy 96 = .ok (.iconst 2, 1) := by decide +kernel
theorem dX5_copy_97 : decode cX5_copy 97 = .ok (.invokevirtual 94, 3) := by decide +kernel
theorem dX5_copy_100 : decode cX5_copy 100 = .ok (.ireturn, 1) := by decide +kernel
theorem dX5_copy_101 : decode cX5_copy 101 = .ok (.iconst 0, 1) := by decide +kernel
theorem dX5_copy_102 : decode cX5_copy 102 = .ok (.istore 6, 2) := by decide +kernel
theorem dX5_copy_104 : decode cX5_copy 104 = .ok (.iload 6, 2) := by decide +kernel
theorem dX5_copy_106 : decode cX5_copy 106 = .ok (.iload 5, 2) := by decide +kernel
theorem dX5_copy_108 : decode cX5_copy 108 = .ok (.if_icmp .ge 58, 3) := by decide +kernel
theorem dX5_copy_111 : decode cX5_copy 111 = .ok (.iload 4, 2) := by decide +kernel
theorem dX5_copy_113 : decode cX5_copy 113 = .ok (.iload_n 2, 1) := by decide +kernel
theorem dX5_copy_114 : decode cX5_copy 114 = .ok (.if_icmp .le 13, 3) := by decide +kernel
theorem dX5_copy_117 : decode cX5_copy 117 = .ok (.iload 5, 2) := by decide +kernel
theorem dX5_copy_119 : decode cX5_copy 119 = .ok (.iconst 1, 1) := by decide +kernel
theorem dX5_copy_120 : decode cX5_copy 120 = .ok (.isub, 1) := by decide +kernel
theorem dX5_copy_121 : decode cX5_copy 121 = .ok (.iload 6, 2) := by decide +kernel
theorem dX5_copy_123 : decode cX5_copy 123 = .ok (.isub, 1) := by decide +kernel
theorem dX5_copy_124 : decode cX5_copy 124 = .ok (.goto 5, 3) := by decide +kernel
theorem dX5_copy_127 : decode cX5_copy 127 = .ok (.iload 6, 2) := by decide +kernel
theorem dX5_copy_129 : decode cX5_copy 129 = .ok (.istore 7, 2) := by decide +kernel
theorem dX5_copy_131 : decode cX5_copy 131 = .ok (.aload_n 0, 1) := by decide +kernel
theorem dX5_copy_132 : decode cX5_copy 132 = .ok (.getfield 13, 3) := by decide +kernel
theorem dX5_copy_135 : decode cX5_copy 135 = .ok (.bipush 40, 2) := by decide +kernel
theorem dX5_copy_137 : decode cX5_copy 137 = .ok (.iload_n 3, 1) := by decide +kernel
theorem dX5_copy_138 : decode cX5_copy 138 = .ok (.imul, 1) := by decide +kernel
theorem dX5_copy_139 : decode cX5_copy 139 = .ok (.iload 4, 2) := by decide +kernel
theorem dX5_copy_141 : decode cX5_copy 141 = .ok (.iadd, 1) := by decide +kernel
theorem dX5_copy_142 : decode cX5_copy 142 = .ok (.iload 7, 2) := by decide +kernel
theorem dX5_copy_144 : decode cX5_copy 144 = .ok (.iadd, 1) := by decide +kernel
theorem dX5_copy_145 : decode cX5_copy 145 = .ok (.aload_n 0, 1) := by decide +kernel
theorem dX5_copy_146 : decode cX5_copy 146 = .ok (.getfield 13, 3) := by decide +kernel
theorem dX5_copy_149 : decode cX5_copy 149 = .ok (.bipush 40, 2) := by decide +kernel
theorem dX5_copy_151 : decode cX5_copy 151 = .ok (.iload_n 1, 1) := by decide +kernel
theorem dX5_copy_152 : decode cX5_copy 152 = .ok (.imul, 1) := by decide +kernel
theorem dX5_copy_153 : decode cX5_copy 153 = .ok (.iload_n 2, 1) := by decide +kernel
theorem dX5_copy_154 : decode cX5_copy 154 = .ok (.iadd, 1) := by decide +kernel
theorem dX5_copy_155 : decode cX5_copy 155 = .ok (.iload 7, 2) := by decide +kernel
theorem dX5_copy_157 : decode cX5_copy 157 = .ok (.iadd, 1) := by decide +kernel
theorem dX5_copy_158 : decode cX5_copy 158 = .ok (.iaload, 1) := by decide +kernel
theorem dX5_copy_159 : decode cX5_copy 159 = .ok (.iastore, 1) := by decide +kernel
theorem dX5_copy_160 : decode cX5_copy 160 = .ok (.iinc 6 1, 3) := by decide +kernel
theorem dX5_copy_163 : decode cX5_copy 163 = .ok (.goto (-59), 3) := by decide +kernel
theorem dX5_copy_166 : decode cX5_copy 166 = .ok (.iconst 1, 1) := by decide +kernel
theorem dX5_copy_167 : decode cX5_copy 167 = .ok (.ireturn, 1) := by decide +kernel
theorem dX5_mean_0 : decode cX5_mean 0 = .ok (.iload_n 1, 1) := by decide +kernel
theorem dX5_mean_1 : decode cX5_mean 1 = .ok (.invokestatic 90, 3) := by decide +kernel
theorem dX5_mean_4 : decode cX5_mean 4 = .ok (.ifCond .ne 5, 3) := by decide +kernel
theorem dX5_mean_7 : decode cX5_mean 7 = .ok (.iconst (-1), 1) := by decide +kernel
theorem dX5_mean_8 : decode cX5_mean 8 = .ok (.ireturn, 1) := by decide +kernel
theorem dX5_mean_9 : decode cX5_mean 9 = .ok (.aload_n 0, 1) := by decide +kernel
theorem dX5_mean_10 : decode cX5_mean 10 = .ok (.getfield 7, 3) := by decide +kernel
theorem dX5_mean_13 : decode cX5_mean 13 = .ok (.iload_n 1, 1) := by decide +kernel
theorem dX5_mean_14 : decode cX5_mean 14 = .ok (.iaload, 1) := by decide +kernel
theorem dX5_mean_15 : decode cX5_mean 15 = .ok (.ifCond .ge 9, 3) := by decide +kernel
theorem dX5_mean_18 : decode cX5_mean 18 = .ok (.aload_n 0, 1) := by decide +kernel
theorem dX5_mean_19 : decode cX5_mean 19 = .ok (.iconst 1, 1) := by decide +kernel
theorem dX5_mean_20 : decode cX5_mean 20 = .ok (.invokevirtual 94, 3) := by decide +kernel
theorem dX5_mean_23 : decode cX5_mean 23 = .ok (.ireturn, 1) := by decide +kernel
theorem dX5_mean_24 : decode cX5_mean 24 = .ok (.aload_n 0, 1) := by decide +kernel
theorem dX5_mean_25 : decode cX5_mean 25 = .ok (.getfield 7, 3) := by decide +kernel
theorem dX5_mean_28 : decode cX5_mean 28 = .ok (.iload_n 1, 1) := by decide +kernel
theorem dX5_mean_29 : decode cX5_mean 29 = .ok (.iaload, 1) := by decide +kernel
theorem dX5_mean_30 : decode cX5_mean 30 = .ok (.ifCond .ne 9, 3) := by decide +kernel
theorem dX5_mean_33 : decode cX5_mean 33 = .ok (.aload_n 0, 1) := by decide +kernel
theorem dX5_mean_34 : decode cX5_mean 34 = .ok (.iconst 4, 1) := by decide +kernel
theorem dX5_mean_35 : decode cX5_mean 35 = .ok (.invokevirtual 94, 3) := by decide +kernel
theorem dX5_mean_38 : decode cX5_mean 38 = .ok (.ireturn, 1) := by decide +kernel
theorem dX5_mean_39 : decode cX5_mean 39 = .ok (.lconst 0, 1) := by decide +kernel
theorem dX5_mean_40 : decode cX5_mean 40 = .ok (.lstore_n 2, 1) := by decide +kernel
theorem dX5_mean_41 : decode cX5_mean 41 = .ok (.iconst 0, 1) := by decide +kernel
theorem dX5_mean_42 : decode cX5_mean 42 = .ok (.istore 4, 2) := by decide +kernel
theorem dX5_mean_44 : decode cX5_mean 44 = .ok (.iload 4, 2) := by decide +kernel
theorem dX5_mean_46 : decode cX5_mean 46 = .ok (.aload_n 0, 1) := by decide +kernel
theorem dX5_mean_47 : decode cX5_mean 47 = .ok (.getfield 7, 3) := by decide +kernel
theorem dX5_mean_50 : decode cX5_mean 50 = .ok (.iload_n 1, 1) := by decide +kernel
theorem dX5_mean_51 : decode cX5_mean 51 = .ok (.iaload, 1) := by decide +kernel
theorem dX5_mean_52 : decode cX5_mean 52 = .ok (.if_icmp .ge 25, 3) := by decide +kernel
theorem dX5_mean_55 : decode cX5_mean 55 = .ok (.lload_n 2, 1) := by decide +kernel
theorem dX5_mean_56 : decode cX5_mean 56 = .ok (.aload_n 0, 1) := by decide +kernel
theorem dX5_mean_57 : decode cX5_mean 57 = .ok (.getfield 13, 3) := by decide +kernel
theorem dX5_mean_60 : decode cX5_mean 60 = .ok (.bipush 40, 2) := by decide +kernel
theorem dX5_mean_62 : decode cX5_mean 62 = .ok (.iload_n 1, 1) := by decide +kernel
theorem dX5_mean_63 : decode cX5_mean 63 = .ok (.imul, 1) := by decide +kernel
theorem dX5_mean_64 : decode cX5_mean 64 = .ok (.iload 4, 2) := by decide +kernel
theorem dX5_mean_66 : decode cX5_mean 66 = .ok (.iadd, 1) := by decide +kernel
theorem dX5_mean_67 : decode cX5_mean 67 = .ok (.iaload, 1) := by decide +kernel
theorem dX5_mean_68 : decode cX5_mean 68 = .ok (.i2l, 1) := by decide +kernel
theorem dX5_mean_69 : decode cX5_mean 69 = .ok (.ladd, 1) := by decide +kernel
theorem dX5_mean_70 : decode cX5_mean 70 = .ok (.lstore_n 2, 1) := by decide +kernel
theorem dX5_mean_71 : decode cX5_mean 71 = .ok (.iinc 4 1, 3) := by decide +kernel
theorem dX5_mean_74 : decode cX5_mean 74 = .ok (.goto (-30), 3) := by decide +kernel
theorem dX5_mean_77 : decode cX5_mean 77 = .ok (.aload_n 0, 1) := by decide +kernel
theorem dX5_mean_78 : decode cX5_mean 78 = .ok (.lload_n 2, 1) := by decide +kernel
theorem dX5_mean_79 : decode cX5_mean 79 = .ok (.aload_n 0, 1) := by decide +kernel
theorem dX5_mean_80 : decode cX5_mean 80 = .ok (.getfield 7, 3) := by decide +kernel
theorem dX5_mean_83 : decode cX5_mean 83 = .ok (.iload_n 1, 1) := by decide +kernel
theorem dX5_mean_84 : decode cX5_mean 84 = .ok (.iaload, 1) := by decide +kernel
theorem dX5_mean_85 : decode cX5_mean 85 = .ok (.i2l, 1) := by decide +kernel
theorem dX5_mean_86 : decode cX5_mean 86 = .ok (.ldiv, 1) := by decide +kernel
theorem dX5_mean_87 : decode cX5_mean 87 = .ok (.l2i, 1) := by decide +kernel
theorem dX5_mean_88 : decode cX5_mean 88 = .ok (.invokevirtual 98, 3) := by decide +kernel
theorem dX5_mean_91 : decode cX5_mean 91 = .ok (.ireturn, 1) := by decide +kernel
theorem dX5_text_0 : decode cX5_text 0 = .ok (.iload_n 1, 1) := by decide +kernel
theorem dX5_text_1 : decode cX5_text 1 = .ok (.invokestatic 101, 3) := by decide +kernel
theorem dX5_text_4 : decode cX5_text 4 = .ok (.ifCond .eq 9, 3) := by decide +kernel
theorem dX5_text_7 : decode cX5_text 7 = .ok (.iload_n 2, 1) := by decide +kernel
theorem dX5_text_8 : decode cX5_text 8 = .ok (.bipush 60, 2) := by decide +kernel
theorem dX5_text_10 : decode cX5_text 10 = .ok (.if_icmp .le 5, 3) := by decide +kernel
theorem dX5_text_13 : decode cX5_text 13 = .ok (.iconst (-1), 1) := by decide +kernel
theorem dX5_text_14 : decode cX5_text 14 = .ok (.ireturn, 1) := by decide +kernel
theorem dX5_text_15 : decode cX5_text 15 = .ok (.iload_n 2, 1) := by decide +kernel
theorem dX5_text_16 : decode cX5_text 16 = .ok (.ifCond .ge 9, 3) := by decide +kernel
theorem dX5_text_19 : decode cX5_text 19 = .ok (.aload_n 0, 1) := by decide +kernel
theorem dX5_text_20 : decode cX5_text 20 = .ok (.iconst 5, 1) := by decide +kernel
theorem dX5_text_21 : decode cX5_text 21 = .ok (.invokevirtual 94, 3) := by decide +kernel
theorem dX5_text_24 : decode cX5_text 24 = .ok (.ireturn, 1) := by decide +kernel
theorem dX5_text_25 : decode cX5_text 25 = .ok (.aload_n 0, 1) := by decide +kernel
theorem dX5_text_26 : decode cX5_text 26 = .ok (.getfield 16, 3) := by decide +kernel
theorem dX5_text_29 : decode cX5_text 29 = .ok (.iload_n 1, 1) := by decide +kernel
theorem dX5_text_30 : decode cX5_text 30 = .ok (.iload_n 2, 1) := by decide +kernel
theorem dX5_text_31 : decode cX5_text 31 = .ok (.iastore, 1) := by decide +kernel
theorem dX5_text_32 : decode cX5_text 32 = .ok (.iconst 0, 1) := by decide +kernel
theorem dX5_text_33 : decode cX5_text 33 = .ok (.istore_n 3, 1) := by decide +kernel
theorem dX5_text_34 : decode cX5_text 34 = .ok (.iload_n 3, 1) := by decide +kernel
theorem dX5_text_35 : decode cX5_text 35 = .ok (.bipush 60, 2) := by decide +kernel
theorem dX5_text_37 : decode cX5_text 37 = .ok (.if_icmp .ge 22, 3) := by decide +kernel
theorem dX5_text_40 : decode cX5_text 40 = .ok (.aload_n 0, 1) := by decide +kernel
theorem dX5_text_41 : decode cX5_text 41 = .ok (.getfield 19, 3) := by decide +kernel
theorem dX5_text_44 : decode cX5_text 44 = .ok (.bipush 60, 2) := by decide +kernel
theorem dX5_text_46 : decode cX5_text 46 = .ok (.iload_n 1, 1) := by decide +kernel
theorem dX5_text_47 : decode cX5_text 47 = .ok (.imul, 1) := by decide +kernel
theorem dX5_text_48 : decode cX5_text 48 = .ok (.iload_n 3, 1) := by decide +kernel
theorem dX5_text_49 : decode cX5_text 49 = .ok (.iadd, 1) := by decide +kernel
theorem dX5_text_50 : decode cX5_text 50 = .ok (.bipush 32, 2) := by decide +kernel
theorem dX5_text_52 : decode cX5_text 52 = .ok (.iastore, 1) := by decide +kernel
theorem dX5_text_53 : decode cX5_text 53 = .ok (.iinc 3 1, 3) := by decide +kernel
theorem dX5_text_56 : decode cX5_text 56 = .ok (.goto (-22), 3) := by decide +kernel
theorem dX5_text_59 : decode cX5_text 59 = .ok (.iload_n 2, 1) := by decide +kernel
theorem dX5_text_60 : decode cX5_text 60 = .ok (.ireturn, 1) := by decide +kernel
theorem dX5_put_0 : decode cX5_put 0 = .ok (.iload_n 1, 1) := by decide +kernel
theorem dX5_put_1 : decode cX5_put 1 = .ok (.invokestatic 101, 3) := by decide +kernel
theorem dX5_put_4 : decode cX5_put 4 = .ok (.ifCond .ne 5, 3) := by decide +kernel
theorem dX5_put_7 : decode cX5_put 7 = .ok (.iconst (-1), 1) := by decide +kernel
theorem dX5_put_8 : decode cX5_put 8 = .ok (.ireturn, 1) := by decide +kernel
theorem dX5_put_9 : decode cX5_put 9 = .ok (.aload_n 0, 1) := by decide +kernel
theorem dX5_put_10 : decode cX5_put 10 = .ok (.getfield 16, 3) := by decide +kernel
theorem dX5_put_13 : decode cX5_put 13 = .ok (.iload_n 1, 1) := by decide +kernel
theorem dX5_put_14 : decode cX5_put 14 = .ok (.iaload, 1) := by decide +kernel
theorem dX5_put_15 : decode cX5_put 15 = .ok (.ifCond .ge 9, 3) := by decide +kernel
theorem dX5_put_18 : decode cX5_put 18 = .ok (.aload_n 0, 1) := by decide +kernel
theorem dX5_put_19 : decode cX5_put 19 = .ok (.iconst 1, 1) := by decide +kernel
theorem dX5_put_20 : decode cX5_put 20 = .ok (.invokevirtual 94, 3) := by decide +kernel
theorem dX5_put_23 : decode cX5_put 23 = .ok (.ireturn, 1) := by decide +kernel
theorem dX5_put_24 : decode cX5_put 24 = .ok (.iload_n 2, 1) := by decide +kernel
theorem dX5_put_25 : decode cX5_put 25 = .ok (.i2l, 1) := by decide +kernel
theorem dX5_put_26 : decode cX5_put 26 = .ok (.lconst 0, 1) := by decide +kernel
theorem dX5_put_27 : decode cX5_put 27 = .ok (.aload_n 0, 1) := by decide +kernel
theorem dX5_put_28 : decode cX5_put 28 = .ok (.getfield 16, 3) := by decide +kernel
theorem dX5_put_31 : decode cX5_put 31 = .ok (.iload_n 1, 1) := by decide +kernel
theorem dX5_put_32 : decode cX5_put 32 = .ok (.iaload, 1) := by decide +kernel
theorem dX5_put_33 : decode cX5_put 33 = .ok (.iconst 1, 1) := by decide +kernel
theorem dX5_put_34 : decode cX5_put 34 = .ok (.isub, 1) := by decide +kernel
theorem dX5_put_35 : decode cX5_put 35 = .ok (.i2l, 1) := by decide +kernel
theorem dX5_put_36 : decode cX5_put 36 = .ok (.invokestatic 84, 3) := by decide +kernel
theorem dX5_put_39 : decode cX5_put 39 = .ok (.ifCond .ne 9, 3) := by decide +kernel
theorem dX5_put_42 : decode cX5_put 42 = .ok (.aload_n 0, 1) := by decide +kernel
theorem dX5_put_43 : decode cX5_put 43 = .ok (.iconst 2, 1) := by decide +kernel
theorem dX5_put_44 : decode cX5_put 44 = .ok (.invokevirtual 94, 3) := by decide +kernel
theorem dX5_put_47 : decode cX5_put 47 = .ok (.ireturn, 1) := by decide +kernel
theorem dX5_put_48 : decode cX5_put 48 = .ok (.aload_n 0, 1) := by decide +kernel
theorem dX5_put_49 : decode cX5_put 49 = .ok (.getfield 19, 3) := by decide +kernel
theorem dX5_put_52 : decode cX5_put 52 = .ok (.bipush 60, 2) := by decide +kernel
theorem dX5_put_54 : decode cX5_put 54 = .ok (.iload_n 1, 1) := by decide +kernel
theorem dX5_put_55 : decode cX5_put 55 = .ok (.imul, 1) := by decide +kernel
theorem dX5_put_56 : decode cX5_put 56 = .ok (.iload_n 2, 1) := by decide +kernel
theorem dX5_put_57 : decode cX5_put 57 = .ok (.iadd, 1) := by decide +kernel
theorem dX5_put_58 : decode cX5_put 58 = .ok (.iaload, 1) := by decide +kernel
theorem dX5_put_59 : decode cX5_put 59 = .ok (.istore 4, 2) := by decide +kernel
theorem dX5_put_61 : decode cX5_put 61 = .ok (.aload_n 0, 1) := by decide +kernel
theorem dX5_put_62 : decode cX5_put 62 = .ok (.getfield 19, 3) := by decide +kernel
theorem dX5_put_65 : decode cX5_put 65 = .ok (.bipush 60, 2) := by decide +kernel
theorem dX5_put_67 : decode cX5_put 67 = .ok (.iload_n 1, 1) := by decide +kernel
theorem dX5_put_68 : decode cX5_put 68 = .ok (.imul, 1) := by decide +kernel
theorem dX5_put_69 : decode cX5_put 69 = .ok (.iload_n 2, 1) := by decide +kernel
theorem dX5_put_70 : decode cX5_put 70 = .ok (.iadd, 1) := by decide +kernel
theorem dX5_put_71 : decode cX5_put 71 = .ok (.iload_n 3, 1) := by decide +kernel
theorem dX5_put_72 : decode cX5_put 72 = .ok (.i2b, 1) := by decide +kernel
theorem dX5_put_73 : decode cX5_put 73 = .ok (.iastore, 1) := by decide +kernel
theorem dX5_put_74 : decode cX5_put 74 = .ok (.iload 4, 2) := by decide +kernel
theorem dX5_put_76 : decode cX5_put 76 = .ok (.sipush 1000, 3) := by decide +kernel
theorem dX5_put_79 : decode cX5_put 79 = .ok (.iadd, 1) := by decide +kernel
theorem dX5_put_80 : decode cX5_put 80 = .ok (.ireturn, 1) := by decide +kernel
theorem dX5_byteAt_0 : decode cX5_byteAt 0 = .ok (.aload_n 0, 1) := by decide +kernel
theorem dX5_byteAt_1 : decode cX5_byteAt 1 = .ok (.getfield 104, 3) := by decide +kernel
theorem dX5_byteAt_4 : decode cX5_byteAt 4 = .ok (.aload_n 0, 1) := by decide +kernel
theorem dX5_byteAt_5 : decode cX5_byteAt 5 = .ok (.getfield 16, 3) := by decide +kernel
theorem dX5_byteAt_8 : decode cX5_byteAt 8 = .ok (.iload_n 1, 1) := by decide +kernel
theorem dX5_byteAt_9 : decode cX5_byteAt 9 = .ok (.iaload, 1) := by decide +kernel
theorem dX5_byteAt_10 : decode cX5_byteAt 10 = .ok (.if_icmp .ge 20, 3) := by decide +kernel
theorem dX5_byteAt_13 : decode cX5_byteAt 13 = .ok (.aload_n 0, 1) := by decide +kernel
theorem dX5_byteAt_14 : decode cX5_byteAt 14 = .ok (.getfield 19, 3) := by decide +kernel
theorem dX5_byteAt_17 : decode cX5_byteAt 17 = .ok (.bipush 60, 2) := by decide +kernel
theorem dX5_byteAt_19 : decode cX5_byteAt 19 = .ok (.iload_n 1, 1) := by decide +kernel
theorem dX5_byteAt_20 : decode cX5_byteAt 20 = .ok (.imul, 1) := by decide +kernel
theorem dX5_byteAt_21 : decode cX5_byteAt 21 = .ok (.aload_n 0, 1) := by decide +kernel
theorem dX5_byteAt_22 : decode cX5_byteAt 22 = .ok (.getfield 104, 3) := by decide +kernel
theorem dX5_byteAt_25 : decode cX5_byteAt 25 = .ok (.iadd, 1) := by decide +kernel
theorem dX5_byteAt_26 : decode cX5_byteAt 26 = .ok (.iaload, 1) := by decide +kernel
theorem dX5_byteAt_27 : decode cX5_byteAt 27 = .ok (.goto 6, 3) := by decide +kernel
theorem dX5_byteAt_30 : decode cX5_byteAt 30 = .ok (.sipush (-1000), 3) := by decide +kernel
theorem dX5_byteAt_33 : decode cX5_byteAt 33 = .ok (.ireturn, 1) := by decide +kernel
theorem dX5_blanks_0 : decode cX5_blanks 0 = .ok (.aload_n 0, 1) := by decide +kernel
theorem dX5_blanks_1 : decode cX5_blanks 1 = .ok (.iload_n 1, 1) := by decide +kernel
theorem dX5_blanks_2 : decode cX5_blanks 2 = .ok (.invokevirtual 107, 3) := by decide +kernel
theorem dX5_blanks_5 : decode cX5_blanks 5 = .ok (.bipush 32, 2) := by decide +kernel
theorem dX5_blanks_7 : decode cX5_blanks 7 = .ok (.if_icmp .ne 16, 3) := by decide +kernel
theorem dX5_blanks_10 : decode cX5_blanks 10 = .ok (.aload_n 0, 1) := by decide +kernel
theorem dX5_blanks_11 : decode cX5_blanks 11 = .ok (.dup, 1) := by decide +kernel
theorem dX5_blanks_12 : decode cX5_blanks 12 = .ok (.getfield 104, 3) := by decide +kernel
theorem dX5_blanks_15 : decode cX5_blanks 15 = .ok (.iconst 1, 1) := by decide +kernel
theorem dX5_blanks_16 : decode cX5_blanks 16 = .ok (.iadd, 1) := by decide +kernel
theorem dX5_blanks_17 : decode cX5_blanks 17 = .ok (.putfield 104, 3) := by decide +kernel
theorem dX5_blanks_20 : decode cX5_blanks 20 = .ok (.goto (-20), 3) := by decide +kernel
theorem dX5_blanks_23 : decode cX5_blanks 23 = .ok (.return_, 1) := by decide +kernel
theorem dX5_kindOf_0 : decode cX5_kindOf 0 = .ok (.iload_n 0, 1) := by decide +kernel
theorem dX5_kindOf_1 : decode cX5_kindOf 1 = .ok (.bipush 116, 2) := by decide +kernel
theorem dX5_kindOf_3 : decode cX5_kindOf 3 = .ok (.if_icmp .ne 7, 3) := by decide +kernel
theorem dX5_kindOf_6 : decode cX5_kindOf 6 = .ok (.iconst 0, 1) := by decide +kernel
theorem dX5_kindOf_7 : decode cX5_kindOf 7 = .ok (.goto 54, 3) := by decide +kernel
theorem dX5_kindOf_10 : decode cX5_kindOf 10 = .ok (.iload_n 0, 1) := by decide +kernel
theorem dX5_kindOf_11 : decode cX5_kindOf 11 = .ok (.bipush 114, 2) := by decide +kernel
theorem dX5_kindOf_13 : decode cX5_kindOf 13 = .ok (.if_icmp .ne 7, 3) := by decide +kernel
theorem dX5_kindOf_16 : decode cX5_kindOf 16 = .ok (.iconst 1, 1) := by decide +kernel
theorem dX5_kindOf_17 : decode cX5_kindOf 17 = .ok (.goto 44, 3) := by decide +kernel
theorem dX5_kindOf_20 : decode cX5_kindOf 20 = .ok (.iload_n 0, 1) := by decide +kernel
theorem dX5_kindOf_21 : decode cX5_kindOf 21 = .ok (.bipush 115, 2) := by decide +kernel
theorem dX5_kindOf_23 : decode cX5_kindOf 23 = .ok (.if_icmp .ne 7, 3) := by decide +kernel
theorem dX5_kindOf_26 : decode cX5_kindOf 26 = .ok (.iconst 2, 1) := by decide +kernel
theorem dX5_kindOf_27 : decode cX5_kindOf 27 = .ok (.goto 34, 3) := by decide +kernel
theorem dX5_kindOf_30 : decode cX5_kindOf 30 = .ok (.iload_n 0, 1) := by decide +kernel
theorem dX5_kindOf_31 : decode cX5_kindOf 31 = .ok (.bipush 98, 2) := by decide +kernel
theorem dX5_kindOf_33 : decode cX5_kindOf 33 = .ok (.if_icmp .ne 7, 3) := by decide +kernel
theorem dX5_kindOf_36 : decode cX5_kindOf 36 = .ok (.iconst 3, 1) := by decide +kernel
theorem dX5_kindOf_37 : decode cX5_kindOf 37 = .ok (.goto 24, 3) := by decide +kernel
theorem dX5_kindOf_40 : decode cX5_kindOf 40 = .ok (.iload_n 0, 1) := by decide +kernel
theorem dX5_kindOf_41 : decode cX5_kindOf 41 = .ok (.bipush 100, 2) := by decide +kernel
theorem dX5_kindOf_43 : decode cX5_kindOf 43 = .ok (.if_icmp .ne 7, 3) := by decide +kernel
theorem dX5_kindOf_46 : decode cX5_kindOf 46 = .ok (.iconst 4, 1) := by decide +kernel
theorem dX5_kindOf_47 : decode cX5_kindOf 47 = .ok (.goto 14, 3) := by decide +kernel
theorem dX5_kindOf_50 : decode cX5_kindOf 50 = .ok (.iload_n 0, 1) := by decide +kernel
theorem dX5_kindOf_51 : decode cX5_kindOf 51 = .ok (.bipush 99, 2) := by decide +kernel
theorem dX5_kindOf_53 : decode cX5_kindOf 53 = .ok (.if_icmp .ne 7, 3) := by decide +kernel
theorem dX5_kindOf_56 : decode cX5_kindOf 56 = .ok (.iconst 5, 1) := by decide +kernel
theorem dX5_kindOf_57 : decode cX5_kindOf 57 = .ok (.goto 4, 3) := by decide +kernel
theorem dX5_kindOf_60 : decode cX5_kindOf 60 = .ok (.iconst (-1), 1) := by decide +kernel
theorem dX5_kindOf_61 : decode cX5_kindOf 61 = .ok (.ireturn, 1) := by decide +kernel
theorem dX5_takes_0 : decode cX5_takes 0 = .ok (.aload_n 0, 1) := by decide +kernel
theorem dX5_takes_1 : decode cX5_takes 1 = .ok (.aload_n 0, 1) := by decide +kernel
theorem dX5_takes_2 : decode cX5_takes 2 = .ok (.iload_n 1, 1) := by decide +kernel
theorem dX5_takes_3 : decode cX5_takes 3 = .ok (.invokevirtual 107, 3) := by decide +kernel
theorem dX5_takes_6 : decode cX5_takes 6 = .ok (.bipush 48, 2) := by decide +kernel
theorem dX5_takes_8 : decode cX5_takes 8 = .ok (.isub, 1) := by decide +kernel
theorem dX5_takes_9 : decode cX5_takes 9 = .ok (.putfield 110, 3) := by decide +kernel
theorem dX5_takes_12 : decode cX5_takes 12 = .ok (.aload_n 0, 1) := by decide +kernel
theorem dX5_takes_13 : decode cX5_takes 13 = .ok (.getfield 110, 3) := by decide +kernel
theorem dX5_takes_16 : decode cX5_takes 16 = .ok (.i2l, 1) := by decide +kernel
theorem dX5_takes_17 : decode cX5_takes 17 = .ok (.lconst 0, 1) := by decide +kernel
theorem dX5_takes_18 : decode cX5_takes 18 = .ok (.iload_n 2, 1) := by decide +kernel
theorem dX5_takes_19 : decode cX5_takes 19 = .ok (.i2l, 1) := by decide +kernel
theorem dX5_takes_20 : decode cX5_takes 20 = .ok (.invokestatic 84, 3) := by decide +kernel
theorem dX5_takes_23 : decode cX5_takes 23 = .ok (.ifCond .ne 5, 3) := by decide +kernel
theorem dX5_takes_26 : decode cX5_takes 26 = .ok (.iconst 0, 1) := by decide +kernel
theorem dX5_takes_27 : decode cX5_takes 27 = .ok (.ireturn, 1) := by decide +kernel
theorem dX5_takes_28 : decode cX5_takes 28 = .ok (.aload_n 0, 1) := by decide +kernel
theorem dX5_takes_29 : decode cX5_takes 29 = .ok (.dup, 1) := by decide +kernel
theorem dX5_takes_30 : decode cX5_takes 30 = .ok (.getfield 104, 3) := by decide +kernel
theorem dX5_takes_33 : decode cX5_takes 33 = .ok (.iconst 1, 1) := by decide +kernel
theorem dX5_takes_34 : decode cX5_takes 34 = .ok (.iadd, 1) := by decide +kernel
theorem dX5_takes_35 : decode cX5_takes 35 = .ok (.putfield 104, 3) := by decide +kernel
theorem dX5_takes_38 : decode cX5_takes 38 = .ok (.iconst 1, 1) := by decide +kernel
theorem dX5_takes_39 : decode cX5_takes 39 = .ok (.ireturn, 1) := by decide +kernel
theorem dX5_readsFirst_0 : decode cX5_readsFirst 0 = .ok (.aload_n 0, 1) := by decide +kernel
theorem dX5_readsFirst_1 : decode cX5_readsFirst 1 = .ok (.iload_n 1, 1) := by decide +kernel
theorem dX5_readsFirst_2 : decode cX5_readsFirst 2 = .ok (.invokevirtual 107, 3) := by decide +kernel
theorem dX5_readsFirst_5 : decode cX5_readsFirst 5 = .ok (.bipush 102, 2) := by decide +kernel
theorem dX5_readsFirst_7 : decode cX5_readsFirst 7 = .ok (.if_icmp .eq 5, 3) := by decide +kernel
theorem dX5_readsFirst_10 : decode cX5_readsFirst 10 = .ok (.iconst 0, 1) := by decide +kernel
theorem dX5_readsFirst_11 : decode cX5_readsFirst 11 = .ok (.ireturn, 1) := by decide +kernel
theorem dX5_readsFirst_12 : decode cX5_readsFirst 12 = .ok (.aload_n 0, 1) := by decide +kernel
theorem dX5_readsFirst_13 : decode cX5_readsFirst 13 = .ok (.dup, 1) := by decide +kernel
theorem dX5_readsFirst_14 : decode cX5_readsFirst 14 = .ok (.getfield 104, 3) := by decide +kernel
theorem dX5_readsFirst_17 : decode cX5_readsFirst 17 = .ok (.iconst 1, 1) := by decide +kernel
theorem dX5_readsFirst_18 : decode cX5_readsFirst 18 = .ok (.iadd, 1) := by decide +kernel
theorem dX5_readsFirst_19 : decode cX5_readsFirst 19 = .ok (.putfield 104, 3) := by decide +kernel
theorem dX5_readsFirst_22 : decode cX5_readsFirst 22 = .ok (.aload_n 0, 1) := by decide +kernel
theorem dX5_readsFirst_23 : decode cX5_readsFirst 23 = .ok (.iload_n 1, 1) := by decide +kernel
theorem dX5_readsFirst_24 : decode cX5_readsFirst 24 = .ok (.bipush 9, 2) := by decide +kernel
theorem dX5_readsFirst_26 : decode cX5_readsFirst 26 = .ok (.invokevirtual 113, 3) := by decide +kernel
theorem dX5_readsFirst_29 : decode cX5_readsFirst 29 = .ok (.ifCond .ne 5, 3) := by decide +kernel
theorem dX5_readsFirst_32 : decode cX5_readsFirst 32 = .ok (.iconst 0, 1) := by decide +kernel
theorem dX5_readsFirst_33 : decode cX5_readsFirst 33 = .ok (.ireturn, 1) := by decide +kernel
theorem dX5_readsFirst_34 : decode cX5_readsFirst 34 = .ok (.aload_n 0, 1) := by decide +kernel
theorem dX5_readsFirst_35 : decode cX5_readsFirst 35 = .ok (.aload_n 0, 1) := by decide +kernel
theorem dX5_readsFirst_36 : decode cX5_readsFirst 36 = .ok (.getfield 110, 3) := by decide +kernel
theorem dX5_readsFirst_39 : decode cX5_readsFirst 39 = .ok (.putfield 117, 3) := by decide +kernel
theorem dX5_readsFirst_42 : decode cX5_readsFirst 42 = .ok (.aload_n 0, 1) := by decide +kernel
theorem dX5_readsFirst_43 : decode cX5_readsFirst 43 = .ok (.iload_n 1, 1) := by decide +kernel
theorem dX5_readsFirst_44 : decode cX5_readsFirst 44 = .ok (.bipush 9, 2) := by decide +kernel
theorem dX5_readsFirst_46 : decode cX5_readsFirst 46 = .ok (.invokevirtual 113, 3) := by decide +kernel
theorem dX5_readsFirst_49 : decode cX5_readsFirst 49 = .ok (.ifCond .ne 5, 3) := by decide +kernel
theorem dX5_readsFirst_52 : decode cX5_readsFirst 52 = .ok (.iconst 0, 1) := by decide +kernel
theorem dX5_readsFirst_53 : decode cX5_readsFirst 53 = .ok (.ireturn, 1) := by decide +kernel
theorem dX5_readsFirst_54 : decode cX5_readsFirst 54 = .ok (.aload_n 0, 1) := by decide +kernel
theorem dX5_readsFirst_55 : decode cX5_readsFirst 55 = .ok (.aload_n 0, 1) := by decide +kernel
theorem dX5_readsFirst_56 : decode cX5_readsFirst 56 = .ok (.getfield 110, 3) := by decide +kernel
theorem dX5_readsFirst_59 : decode cX5_readsFirst 59 = .ok (.putfield 120, 3) := by decide +kernel
theorem dX5_readsFirst_62 : decode cX5_readsFirst 62 = .ok (.iconst 1, 1) := by decide +kernel
theorem dX5_readsFirst_63 : decode cX5_readsFirst 63 = .ok (.ireturn, 1) := by decide +kernel
theorem dX5_readsThing_0 : decode cX5_readsThing 0 = .ok (.aload_n 0, 1) := by decide +kernel
theorem dX5_readsThing_1 : decode cX5_readsThing 1 = .ok (.iload_n 1, 1) := by decide +kernel
theorem dX5_readsThing_2 : decode cX5_readsThing 2 = .ok (.invokevirtual 107, 3) := by decide +kernel
theorem dX5_readsThing_5 : decode cX5_readsThing 5 = .ok (.invokestatic 123, 3) := by decide +kernel
theorem dX5_readsThing_8 : decode cX5_readsThing 8 = .ok (.istore_n 2, 1) := by decide +kernel
theorem dX5_readsThing_9 : decode cX5_readsThing 9 = .ok (.iload_n 2, 1) := by decide +kernel
theorem dX5_readsThing_10 : decode cX5_readsThing 10 = .ok (.ifCond .lt 12, 3) := by decide +kernel
theorem dX5_readsThing_13 : decode cX5_readsThing 13 = .ok (.aload_n 0, 1) := by decide +kernel
theorem dX5_readsThing_14 : decode cX5_readsThing 14 = .ok (.getfield 126, 3) := by decide +kernel
theorem dX5_readsThing_17 : decode cX5_readsThing 17 = .ok (.bipush 6, 2) := by decide +kernel
theorem dX5_readsThing_19 : decode cX5_readsThing 19 = .ok (.if_icmp .ne 5, 3) := by decide +kernel
theorem dX5_readsThing_22 : decode cX5_readsThing 22 = .ok (.iconst 0, 1) := by decide +kernel
theorem dX5_readsThing_23 : decode cX5_readsThing 23 = .ok (.ireturn, 1) := by decide +kernel
theorem dX5_readsThing_24 : decode cX5_readsThing 24 = .ok (.aload_n 0, 1) := by decide +kernel
theorem dX5_readsThing_25 : decode cX5_readsThing 25 = .ok (.dup, 1) := by decide +kernel
theorem dX5_readsThing_26 : decode cX5_readsThing 26 = .ok (.getfield 104, 3) := by decide +kernel
theorem dX5_readsThing_29 : decode cX5_readsThing 29 = .ok (.iconst 1, 1) := by decide +kernel
theorem dX5_readsThing_30 : decode cX5_readsThing 30 = .ok (.iadd, 1) := by decide +kernel
theorem dX5_readsThing_31 : decode cX5_readsThing 31 = .ok (.putfield 104, 3) := by decide +kernel
theorem dX5_readsThing_34 : decode cX5_readsThing 34 = .ok (.iconst 4, 1) := by decide +kernel
theorem dX5_readsThing_35 : decode cX5_readsThing 35 = .ok (.aload_n 0, 1) := by decide +kernel
theorem dX5_readsThing_36 : decode cX5_readsThing 36 = .ok (.getfield 126, 3) := by decide +kernel
theorem dX5_readsThing_39 : decode cX5_readsThing 39 = .ok (.imul, 1) := by decide +kernel
theorem dX5_readsThing_40 : decode cX5_readsThing 40 = .ok (.istore_n 3, 1) := by decide +kernel
theorem dX5_readsThing_41 : decode cX5_readsThing 41 = .ok (.aload_n 0, 1) := by decide +kernel
theorem dX5_readsThing_42 : decode cX5_readsThing 42 = .ok (.getfield 51, 3) := by decide +kernel
theorem dX5_readsThing_45 : decode cX5_readsThing 45 = .ok (.iload_n 3, 1) := by decide +kernel
theorem dX5_readsThing_46 : decode cX5_readsThing 46 = .ok (.iload_n 2, 1) := by decide +kernel
theorem dX5_readsThing_47 : decode cX5_readsThing 47 = .ok (.iastore, 1) := by decide +kernel
theorem dX5_readsThing_48 : decode cX5_readsThing 48 = .ok (.iconst 1, 1) := by decide +kernel
theorem dX5_readsThing_49 : decode cX5_readsThing 49 = .ok (.istore 4, 2) := by decide +kernel
theorem dX5_readsThing_51 : decode cX5_readsThing 51 = .ok (.iload 4, 2) := by decide +kernel
theorem dX5_readsThing_53 : decode cX5_readsThing 53 = .ok (.iconst 4, 1) := by decide +kernel
theorem dX5_readsThing_54 : decode cX5_readsThing 54 = .ok (.if_icmp .ge 45, 3) := by decide +kernel
theorem dX5_readsThing_57 : decode cX5_readsThing 57 = .ok (.aload_n 0, 1) := by decide +kernel
theorem dX5_readsThing_58 : decode cX5_readsThing 58 = .ok (.iload_n 1, 1) := by decide +kernel
theorem dX5_readsThing_59 : decode cX5_readsThing 59 = .ok (.iload 4, 2) := by decide +kernel
theorem dX5_readsThing_61 : decode cX5_readsThing 61 = .ok (.iconst 2, 1) := by decide +kernel
theorem dX5_readsThing_62 : decode cX5_readsThing 62 = .ok (.if_icmp .ne 8, 3) := by decide +kernel
theorem dX5_readsThing_65 : decode cX5_readsThing 65 = .ok (.bipush 9, 2) := by decide +kernel
theorem dX5_readsThing_67 : decode cX5_readsThing 67 = .ok (.goto 5, 3) := by decide +kernel
theorem dX5_readsThing_70 : decode cX5_readsThing 70 = .ok (.bipush 7, 2) := by decide +kernel
theorem dX5_readsThing_72 : decode cX5_readsThing 72 = .ok (.invokevirtual 113, 3) := by decide +kernel
theorem dX5_readsThing_75 : decode cX5_readsThing 75 = .ok (.ifCond .ne 5, 3) := by decide +kernel
theorem dX5_readsThing_78 : decode cX5_readsThing 78 = .ok (.iconst 0, 1) := by decide +kernel
theorem dX5_readsThing_79 : decode cX5_readsThing 79 = .ok (.ireturn, 1) := by decide +kernel
theorem dX5_readsThing_80 : decode cX5_readsThing 80 = .ok (.aload_n 0, 1) := by decide +kernel
theorem dX5_readsThing_81 : decode cX5_readsThing 81 = .ok (.getfield 51, 3) := by decide +kernel
theorem dX5_readsThing_84 : decode cX5_readsThing 84 = .ok (.iload_n 3, 1) := by decide +kernel
theorem dX5_readsThing_85 : decode cX5_readsThing 85 = .ok (.iload 4, 2) := by decide +kernel
theorem dX5_readsThing_87 : decode cX5_readsThing 87 = .ok (.iadd, 1) := by decide +kernel
theorem dX5_readsThing_88 : decode cX5_readsThing 88 = .ok (.aload_n 0, 1) := by decide +kernel
theorem dX5_readsThing_89 : decode cX5_readsThing 89 = .ok (.getfield 110, 3) := by decide +kernel
theorem dX5_readsThing_92 : decode cX5_readsThing 92 = .ok (.iastore, 1) := by decide +kernel
theorem dX5_readsThing_93 : decode cX5_readsThing 93 = .ok (.iinc 4 1, 3) := by decide +kernel
theorem dX5_readsThing_96 : decode cX5_readsThing 96 = .ok (.goto (-45), 3) := by decide +kernel
theorem dX5_readsThing_99 : decode cX5_readsThing 99 = .ok (.aload_n 0, 1) := by decide +kernel
theorem dX5_readsThing_100 : decode cX5_readsThing 100 = .ok (.dup, 1) := by decide +kernel
theorem dX5_readsThing_101 : decode cX5_readsThing 101 = .ok (.getfield 126, 3) := by decide +kernel
theorem dX5_readsThing_104 : decode cX5_readsThing 104 = .ok (.iconst 1, 1) := by decide +kernel
theorem dX5_readsThing_105 : decode cX5_readsThing 105 = .ok (.iadd, 1) := by decide +kernel
theorem dX5_readsThing_106 : decode cX5_readsThing 106 = .ok (.putfield 126, 3) := by decide +kernel
theorem dX5_readsThing_109 : decode cX5_readsThing 109 = .ok (.iconst 1, 1) := by decide +kernel
theorem dX5_readsThing_110 : decode cX5_readsThing 110 = .ok (.ireturn, 1) := by decide +kernel
theorem dX5_faultOf_0 : decode cX5_faultOf 0 = .ok (.aload_n 0, 1) := by decide +kernel
theorem dX5_faultOf_1 : decode cX5_faultOf 1 = .ok (.iconst 0, 1) := by decide +kernel
theorem dX5_faultOf_2 : decode cX5_faultOf 2 = .ok (.putfield 104, 3) := by decide +kernel
theorem dX5_faultOf_5 : decode cX5_faultOf 5 = .ok (.aload_n 0, 1) := by decide +kernel
theorem dX5_faultOf_6 : decode cX5_faultOf 6 = .ok (.iconst 0, 1) := by decide +kernel
theorem dX5_faultOf_7 : decode cX5_faultOf 7 = .ok (.putfield 126, 3) := by decide +kernel
theorem dX5_faultOf_10 : decode cX5_faultOf 10 = .ok (.aload_n 0, 1) := by decide +kernel
theorem dX5_faultOf_11 : decode cX5_faultOf 11 = .ok (.iload_n 1, 1) := by decide +kernel
theorem dX5_faultOf_12 : decode cX5_faultOf 12 = .ok (.invokevirtual 129, 3) := by decide +kernel
theorem dX5_faultOf_15 : decode cX5_faultOf 15 = .ok (.aload_n 0, 1) := by decide +kernel
theorem dX5_faultOf_16 : decode cX5_faultOf 16 = .ok (.iload_n 1, 1) := by decide +kernel
theorem dX5_faultOf_17 : decode cX5_faultOf 17 = .ok (.invokevirtual 133, 3) := by decide +kernel
theorem dX5_faultOf_20 : decode cX5_faultOf 20 = .ok (.istore_n 2, 1) := by decide +kernel
theorem dX5_faultOf_21 : decode cX5_faultOf 21 = .ok (.iload_n 2, 1) := by decide +kernel
theorem dX5_faultOf_22 : decode cX5_faultOf 22 = .ok (.ifCond .eq 40, 3) := by decide +kernel
theorem dX5_faultOf_25 : decode cX5_faultOf 25 = .ok (.aload_n 0, 1) := by decide +kernel
theorem dX5_faultOf_26 : decode cX5_faultOf 26 = .ok (.iload_n 1, 1) := by decide +kernel
theorem dX5_faultOf_27 : decode cX5_faultOf 27 = .ok (.invokevirtual 129, 3) := by decide +kernel
theorem dX5_faultOf_30 : decode cX5_faultOf 30 = .ok (.aload_n 0, 1) := by decide +kernel
theorem dX5_faultOf_31 : decode cX5_faultOf 31 = .ok (.getfield 104, 3) := by decide +kernel
theorem dX5_faultOf_34 : decode cX5_faultOf 34 = .ok (.aload_n 0, 1) := by decide +kernel
theorem dX5_faultOf_35 : decode cX5_faultOf 35 = .ok (.getfield 16, 3) := by decide +kernel
theorem dX5_faultOf_38 : decode cX5_faultOf 38 = .ok (.iload_n 1, 1) := by decide +kernel
theorem dX5_faultOf_39 : decode cX5_faultOf 39 = .ok (.iaload, 1) := by decide +kernel
theorem dX5_faultOf_40 : decode cX5_faultOf 40 = .ok (.if_icmp .ne 13, 3) := by decide +kernel
theorem dX5_faultOf_43 : decode cX5_faultOf 43 = .ok (.aload_n 0, 1) := by decide +kernel
theorem dX5_faultOf_44 : decode cX5_faultOf 44 = .ok (.getfield 126, 3) := by decide +kernel
theorem dX5_faultOf_47 : decode cX5_faultOf 47 = .ok (.ifCond .le 6, 3) := by decide +kernel
theorem dX5_faultOf_50 : decode cX5_faultOf 50 = .ok (.bipush (-9), 2) := by decide +kernel
theorem dX5_faultOf_52 : decode cX5_faultOf 52 = .ok (.ireturn, 1) := by decide +kernel
theorem dX5_faultOf_53 : decode cX5_faultOf 53 = .ok (.aload_n 0, 1) := by decide +kernel
theorem dX5_faultOf_54 : decode cX5_faultOf 54 = .ok (.iload_n 1, 1) := by decide +kernel
theorem dX5_faultOf_55 : decode cX5_faultOf 55 = .ok (.invokevirtual 136, 3) := by decide +kernel
theorem dX5_faultOf_58 : decode cX5_faultOf 58 = .ok (.istore_n 2, 1) := by decide +kernel
theorem dX5_faultOf_59 : decode cX5_faultOf 59 = .ok (.goto (-38), 3) := by decide +kernel
theorem dX5_faultOf_62 : decode cX5_faultOf 62 = .ok (.aload_n 0, 1) := by decide +kernel
theorem dX5_faultOf_63 : decode cX5_faultOf 63 = .ok (.getfield 104, 3) := by decide +kernel
theorem dX5_faultOf_66 : decode cX5_faultOf 66 = .ok (.ireturn, 1) := by decide +kernel
theorem dX5_fault_0 : decode cX5_fault 0 = .ok (.iload_n 1, 1) := by decide +kernel
theorem dX5_fault_1 : decode cX5_fault 1 = .ok (.invokestatic 101, 3) := by decide +kernel
theorem dX5_fault_4 : decode cX5_fault 4 = .ok (.ifCond .ne 5, 3) := by decide +kernel
theorem dX5_fault_7 : decode cX5_fault 7 = .ok (.iconst (-1), 1) := by decide +kernel
theorem dX5_fault_8 : decode cX5_fault 8 = .ok (.ireturn, 1) := by decide +kernel
theorem dX5_fault_9 : decode cX5_fault 9 = .ok (.aload_n 0, 1) := by decide +kernel
theorem dX5_fault_10 : decode cX5_fault 10 = .ok (.getfield 16, 3) := by decide +kernel
theorem dX5_fault_13 : decode cX5_fault 13 = .ok (.iload_n 1, 1) := by decide +kernel
theorem dX5_fault_14 : decode cX5_fault 14 = .ok (.iaload, 1) := by decide +kernel
theorem dX5_fault_15 : decode cX5_fault 15 = .ok (.ifCond .ge 11, 3) := by decide +kernel
theorem dX5_fault_18 : decode cX5_fault 18 = .ok (.aload_n 0, 1) := by decide +kernel
theorem dX5_fault_19 : decode cX5_fault 19 = .ok (.iconst 1, 1) := by decide +kernel
theorem dX5_fault_20 : decode cX5_fault 20 = .ok (.invokevirtual 94, 3) := by decide +kernel
theorem dX5_fault_23 : decode cX5_fault 23 = .ok (.goto 8, 3) := by decide +kernel
theorem dX5_fault_26 : decode cX5_fault 26 = .ok (.aload_n 0, 1) := by decide +kernel
theorem dX5_fault_27 : decode cX5_fault 27 = .ok (.iload_n 1, 1) := by decide +kernel
theorem dX5_fault_28 : decode cX5_fault 28 = .ok (.invokevirtual 139, 3) := by decide +kernel
theorem dX5_fault_31 : decode cX5_fault 31 = .ok (.ireturn, 1) := by decide +kernel
theorem dX5_canal_0 : decode cX5_canal 0 = .ok (.iload_n 1, 1) := by decide +kernel
theorem dX5_canal_1 : decode cX5_canal 1 = .ok (.invokestatic 101, 3) := by decide +kernel
theorem dX5_canal_4 : decode cX5_canal 4 = .ok (.ifCond .ne 5, 3) := by decide +kernel
theorem dX5_canal_7 : decode cX5_canal 7 = .ok (.iconst (-1), 1) := by decide +kernel
theorem dX5_canal_8 : decode cX5_canal 8 = .ok (.ireturn, 1) := by decide +kernel
theorem dX5_canal_9 : decode cX5_canal 9 = .ok (.aload_n 0, 1) := by decide +kernel
theorem dX5_canal_10 : decode cX5_canal 10 = .ok (.getfield 16, 3) := by decide +kernel
theorem dX5_canal_13 : decode cX5_canal 13 = .ok (.iload_n 1, 1) := by decide +kernel
theorem dX5_canal_14 : decode cX5_canal 14 = .ok (.iaload, 1) := by decide +kernel
theorem dX5_canal_15 : decode cX5_canal 15 = .ok (.ifCond .ge 9, 3) := by decide +kernel
theorem dX5_canal_18 : decode cX5_canal 18 = .ok (.aload_n 0, 1) := by decide +kernel
theorem dX5_canal_19 : decode cX5_canal 19 = .ok (.iconst 1, 1) := by decide +kernel
theorem dX5_canal_20 : decode cX5_canal 20 = .ok (.invokevirtual 94, 3) := by decide +kernel
theorem dX5_canal_23 : decode cX5_canal 23 = .ok (.ireturn, 1) := by decide +kernel
theorem dX5_canal_24 : decode cX5_canal 24 = .ok (.aload_n 0, 1) := by decide +kernel
theorem dX5_canal_25 : decode cX5_canal 25 = .ok (.iload_n 1, 1) := by decide +kernel
theorem dX5_canal_26 : decode cX5_canal 26 = .ok (.invokevirtual 139, 3) := by decide +kernel
theorem dX5_canal_29 : decode cX5_canal 29 = .ok (.bipush (-9), 2) := by decide +kernel
theorem dX5_canal_31 : decode cX5_canal 31 = .ok (.if_icmp .eq 6, 3) := by decide +kernel
theorem dX5_canal_34 : decode cX5_canal 34 = .ok (.bipush (-4), 2) := by decide +kernel
theorem dX5_canal_36 : decode cX5_canal 36 = .ok (.ireturn, 1) := by decide +kernel
theorem dX5_canal_37 : decode cX5_canal 37 = .ok (.aload_n 0, 1) := by decide +kernel
theorem dX5_canal_38 : decode cX5_canal 38 = .ok (.aload_n 0, 1) := by decide +kernel
theorem dX5_canal_39 : decode cX5_canal 39 = .ok (.getfield 126, 3) := by decide +kernel
theorem dX5_canal_42 : decode cX5_canal 42 = .ok (.putfield 142, 3) := by decide +kernel
theorem dX5_canal_45 : decode cX5_canal 45 = .ok (.aload_n 0, 1) := by decide +kernel
theorem dX5_canal_46 : decode cX5_canal 46 = .ok (.aload_n 0, 1) := by decide +kernel
theorem dX5_canal_47 : decode cX5_canal 47 = .ok (.getfield 117, 3) := by decide +kernel
theorem dX5_canal_50 : decode cX5_canal 50 = .ok (.putfield 145, 3) := by decide +kernel
theorem dX5_canal_53 : decode cX5_canal 53 = .ok (.iconst 0, 1) := by decide +kernel
theorem dX5_canal_54 : decode cX5_canal 54 = .ok (.istore_n 2, 1) := by decide +kernel
theorem dX5_canal_55 : decode cX5_canal 55 = .ok (.iload_n 2, 1) := by decide +kernel
theorem dX5_canal_56 : decode cX5_canal 56 = .ok (.aload_n 0, 1) := by decide +kernel
theorem dX5_canal_57 : decode cX5_canal 57 = .ok (.getfield 142, 3) := by decide +kernel
theorem dX5_canal_60 : decode cX5_canal 60 = .ok (.if_icmp .ge 73, 3) := by decide +kernel
theorem dX5_canal_63 : decode cX5_canal 63 = .ok (.aload_n 0, 1) := by decide +kernel
theorem dX5_canal_64 : decode cX5_canal 64 = .ok (.getfield 22, 3) := by decide +kernel
theorem dX5_canal_67 : decode cX5_canal 67 = .ok (.iload_n 2, 1) := by decide +kernel
theorem dX5_canal_68 : decode cX5_canal 68 = .ok (.aload_n 0, 1) := by decide +kernel
theorem dX5_canal_69 : decode cX5_canal 69 = .ok (.getfield 51, 3) := by decide +kernel
theorem dX5_canal_72 : decode cX5_canal 72 = .ok (.iconst 4, 1) := by decide +kernel
theorem dX5_canal_73 : decode cX5_canal 73 = .ok (.iload_n 2, 1) := by decide +kernel
theorem dX5_canal_74 : decode cX5_canal 74 = .ok (.imul, 1) := by decide +kernel
theorem dX5_canal_75 : decode cX5_canal 75 = .ok (.iaload, 1) := by decide +kernel
theorem dX5_canal_76 : decode cX5_canal 76 = .ok (.iastore, 1) := by decide +kernel
theorem dX5_canal_77 : decode cX5_canal 77 = .ok (.aload_n 0, 1) := by decide +kernel
theorem dX5_canal_78 : decode cX5_canal 78 = .ok (.getfield 31, 3) := by decide +kernel
theorem dX5_canal_81 : decode cX5_canal 81 = .ok (.iconst 0, 1) := by decide +kernel
theorem dX5_canal_82 : decode cX5_canal 82 = .ok (.iload_n 2, 1) := by decide +kernel
theorem dX5_canal_83 : decode cX5_canal 83 = .ok (.iadd, 1) := by decide +kernel
theorem dX5_canal_84 : decode cX5_canal 84 = .ok (.aload_n 0, 1) := by decide +kernel
theorem dX5_canal_85 : decode cX5_canal 85 = .ok (.getfield 51, 3) := by decide +kernel
theorem dX5_canal_88 : decode cX5_canal 88 = .ok (.iconst 4, 1) := by decide +kernel
theorem dX5_canal_89 : decode cX5_canal 89 = .ok (.iload_n 2, 1) := by decide +kernel
theorem dX5_canal_90 : decode cX5_canal 90 = .ok (.imul, 1) := by decide +kernel
theorem dX5_canal_91 : decode cX5_canal 91 = .ok (.iconst 1, 1) := by decide +kernel
theorem dX5_canal_92 : decode cX5_canal 92 = .ok (.iadd, 1) := by decide +kernel
theorem dX5_canal_93 : decode cX5_canal 93 = .ok (.iaload, 1) := by decide +kernel
theorem dX5_canal_94 : decode cX5_canal 94 = .ok (.iastore, 1) := by decide +kernel
theorem dX5_canal_95 : decode cX5_canal 95 = .ok (.aload_n 0, 1) := by decide +kernel
theorem dX5_canal_96 : decode cX5_canal 96 = .ok (.getfield 25, 3) := by decide +kernel
theorem dX5_canal_99 : decode cX5_canal 99 = .ok (.iload_n 2, 1) := by decide +kernel
theorem dX5_canal_100 : decode cX5_canal 100 = .ok (.aload_n 0, 1) := by decide +kernel
theorem dX5_canal_101 : decode cX5_canal 101 = .ok (.getfield 51, 3) := by decide +kernel
theorem dX5_canal_104 : decode cX5_canal 104 = .ok (.iconst 4, 1) := by decide +kernel
theorem dX5_canal_105 : decode cX5_canal 105 = .ok (.iload_n 2, 1) := by decide +kernel
theorem dX5_canal_106 : decode cX5_canal 106 = .ok (.imul, 1) := by decide +kernel
theorem dX5_canal_107 : decode cX5_canal 107 = .ok (.iconst 2, 1) := by decide +kernel
theorem dX5_canal_108 : decode cX5_canal 108 = .ok (.iadd, 1) := by decide +kernel
theorem dX5_canal_109 : decode cX5_canal 109 = .ok (.iaload, 1) := by decide +kernel
theorem dX5_canal_110 : decode cX5_canal 110 = .ok (.iastore, 1) := by decide +kernel
theorem dX5_canal_111 : decode cX5_canal 111 = .ok (.aload_n 0, 1) := by decide +kernel
theorem dX5_canal_112 : decode cX5_canal 112 = .ok (.getfield 28, 3) := by decide +kernel
theorem dX5_canal_115 : decode cX5_canal 115 = .ok (.iload_n 2, 1) := by decide +kernel
theorem dX5_canal_116 : decode cX5_canal 116 = .ok (.aload_n 0, 1) := by decide +kernel
theorem dX5_canal_117 : decode cX5_canal 117 = .ok (.getfield 51, 3) := by decide +kernel
theorem dX5_canal_120 : decode cX5_canal 120 = .ok (.iconst 4, 1) := by decide +kernel
theorem dX5_canal_121 : decode cX5_canal 121 = .ok (.iload_n 2, 1) := by decide +kernel
theorem dX5_canal_122 : decode cX5_canal 122 = .ok (.imul, 1) := by decide +kernel
theorem dX5_canal_123 : decode cX5_canal 123 = .ok (.iconst 3, 1) := by decide +kernel
theorem dX5_canal_124 : decode cX5_canal 124 = .ok (.iadd, 1) := by decide +kernel
theorem dX5_canal_125 : decode cX5_canal 125 = .ok (.iaload, 1) := by decide +kernel
theorem dX5_canal_126 : decode cX5_canal 126 = .ok (.iastore, 1) := by decide +kernel
theorem dX5_canal_127 : decode cX5_canal 127 = .ok (.iinc 2 1, 3) := by decide +kernel
theorem dX5_canal_130 : decode cX5_canal 130 = .ok (.goto (-75), 3) := by decide +kernel
theorem dX5_canal_133 : decode cX5_canal 133 = .ok (.aload_n 0, 1) := by decide +kernel
theorem dX5_canal_134 : decode cX5_canal 134 = .ok (.getfield 31, 3) := by decide +kernel
theorem dX5_canal_137 : decode cX5_canal 137 = .ok (.bipush 6, 2) := by decide +kernel
theorem dX5_canal_139 : decode cX5_canal 139 = .ok (.aload_n 0, 1) := by decide +kernel
theorem dX5_canal_140 : decode cX5_canal 140 = .ok (.getfield 120, 3) := by decide +kernel
theorem dX5_canal_143 : decode cX5_canal 143 = .ok (.iastore, 1) := by decide +kernel
theorem dX5_canal_144 : decode cX5_canal 144 = .ok (.aload_n 0, 1) := by decide +kernel
theorem dX5_canal_145 : decode cX5_canal 145 = .ok (.getfield 31, 3) := by decide +kernel
theorem dX5_canal_148 : decode cX5_canal 148 = .ok (.bipush 7, 2) := by decide +kernel
theorem dX5_canal_150 : decode cX5_canal 150 = .ok (.iconst 0, 1) := by decide +kernel
theorem dX5_canal_151 : decode cX5_canal 151 = .ok (.iastore, 1) := by decide +kernel
theorem dX5_canal_152 : decode cX5_canal 152 = .ok (.aload_n 0, 1) := by decide +kernel
theorem dX5_canal_153 : decode cX5_canal 153 = .ok (.iconst 0, 1) := by decide +kernel
theorem dX5_canal_154 : decode cX5_canal 154 = .ok (.putfield 148, 3) := by decide +kernel
theorem dX5_canal_157 : decode cX5_canal 157 = .ok (.iconst 0, 1) := by decide +kernel
theorem dX5_canal_158 : decode cX5_canal 158 = .ok (.istore_n 2, 1) := by decide +kernel
theorem dX5_canal_159 : decode cX5_canal 159 = .ok (.iload_n 2, 1) := by decide +kernel
theorem dX5_canal_160 : decode cX5_canal 160 = .ok (.iconst 3, 1) := by decide +kernel
theorem dX5_canal_161 : decode cX5_canal 161 = .ok (.if_icmp .ge 16, 3) := by decide +kernel
theorem dX5_canal_164 : decode cX5_canal 164 = .ok (.aload_n 0, 1) := by decide +kernel
theorem dX5_canal_165 : decode cX5_canal 165 = .ok (.getfield 40, 3) := by decide +kernel
theorem dX5_canal_168 : decode cX5_canal 168 = .ok (.iload_n 2, 1) := by decide +kernel
theorem dX5_canal_169 : decode cX5_canal 169 = .ok (.iconst 0, 1) := by decide +kernel
theorem dX5_canal_170 : decode cX5_canal 170 = .ok (.bastore, 1) := by decide +kernel
theorem dX5_canal_171 : decode cX5_canal 171 = .ok (.iinc 2 1, 3) := by decide +kernel
theorem dX5_canal_174 : decode cX5_canal 174 = .ok (.goto (-15), 3) := by decide +kernel
theorem dX5_canal_177 : decode cX5_canal 177 = .ok (.aload_n 0, 1) := by decide +kernel
theorem dX5_canal_178 : decode cX5_canal 178 = .ok (.getfield 142, 3) := by decide +kernel
theorem dX5_canal_181 : decode cX5_canal 181 = .ok (.ireturn, 1) := by decide +kernel
theorem dX5_isThing_0 : decode cX5_isThing 0 = .ok (.iload_n 1, 1) := by decide +kernel
theorem dX5_isThing_1 : decode cX5_isThing 1 = .ok (.i2l, 1) := by decide +kernel
theorem dX5_isThing_2 : decode cX5_isThing 2 = .ok (.lconst 0, 1) := by decide +kernel
end
section
theorem dX5_isThing_3 : decode cX5_isThing 3 = .ok (.aload_n 0, 1) := by decide +kernel
theorem dX5_isThing_4 : decode cX5_isThing 4 = .ok (.getfield 142, 3) := by decide +kernel
theorem dX5_isThing_7 : decode cX5_isThing 7 = .ok (.iconst 1, 1) := by decide +kernel
theorem dX5_isThing_8 : decode cX5_isThing 8 = .ok (.isub, 1) := by decide +kernel
theorem dX5_isThing_9 : decode cX5_isThing 9 = .ok (.i2l, 1) := by decide +kernel
theorem dX5_isThing_10 : decode cX5_isThing 10 = .ok (.invokestatic 84, 3) := by decide +kernel
theorem dX5_isThing_13 : decode cX5_isThing 13 = .ok (.ireturn, 1) := by decide +kernel
theorem dX5_isCell_0 : decode cX5_isCell 0 = .ok (.iload_n 0, 1) := by decide +kernel
theorem dX5_isCell_1 : decode cX5_isCell 1 = .ok (.i2l, 1) := by decide +kernel
theorem dX5_isCell_2 : decode cX5_isCell 2 = .ok (.lconst 0, 1) := by decide +kernel
theorem dX5_isCell_3 : decode cX5_isCell 3 = .ok (.ldc2_w 151, 3) := by decide +kernel
theorem dX5_isCell_6 : decode cX5_isCell 6 = .ok (.invokestatic 84, 3) := by decide +kernel
theorem dX5_isCell_9 : decode cX5_isCell 9 = .ok (.ireturn, 1) := by decide +kernel
theorem dX5_isTaken_0 : decode cX5_isTaken 0 = .ok (.aload_n 0, 1) := by decide +kernel
theorem dX5_isTaken_1 : decode cX5_isTaken 1 = .ok (.getfield 31, 3) := by decide +kernel
theorem dX5_isTaken_4 : decode cX5_isTaken 4 = .ok (.iconst 0, 1) := by decide +kernel
theorem dX5_isTaken_5 : decode cX5_isTaken 5 = .ok (.iload_n 1, 1) := by decide +kernel
theorem dX5_isTaken_6 : decode cX5_isTaken 6 = .ok (.iadd, 1) := by decide +kernel
theorem dX5_isTaken_7 : decode cX5_isTaken 7 = .ok (.iaload, 1) := by decide +kernel
theorem dX5_isTaken_8 : decode cX5_isTaken 8 = .ok (.bipush (-9), 2) := by decide +kernel
theorem dX5_isTaken_10 : decode cX5_isTaken 10 = .ok (.if_icmp .ne 7, 3) := by decide +kernel
theorem dX5_isTaken_13 : decode cX5_isTaken 13 = .ok (.iconst 1, 1) := by decide +kernel
theorem dX5_isTaken_14 : decode cX5_isTaken 14 = .ok (.goto 4, 3) := by decide +kernel
theorem dX5_isTaken_17 : decode cX5_isTaken 17 = .ok (.iconst 0, 1) := by decide +kernel
theorem dX5_isTaken_18 : decode cX5_isTaken 18 = .ok (.ireturn, 1) := by decide +kernel
theorem dX5_drifts_0 : decode cX5_drifts 0 = .ok (.aload_n 0, 1) := by decide +kernel
theorem dX5_drifts_1 : decode cX5_drifts 1 = .ok (.getfield 145, 3) := by decide +kernel
theorem dX5_drifts_4 : decode cX5_drifts 4 = .ok (.iload_n 2, 1) := by decide +kernel
theorem dX5_drifts_5 : decode cX5_drifts 5 = .ok (.if_icmp .le 7, 3) := by decide +kernel
theorem dX5_drifts_8 : decode cX5_drifts 8 = .ok (.iconst 1, 1) := by decide +kernel
theorem dX5_drifts_9 : decode cX5_drifts 9 = .ok (.goto 4, 3) := by decide +kernel
theorem dX5_drifts_12 : decode cX5_drifts 12 = .ok (.iconst 0, 1) := by decide +kernel
theorem dX5_drifts_13 : decode cX5_drifts 13 = .ok (.istore 4, 2) := by decide +kernel
theorem dX5_drifts_15 : decode cX5_drifts 15 = .ok (.iload_n 1, 1) := by decide +kernel
theorem dX5_drifts_16 : decode cX5_drifts 16 = .ok (.tableswitch 66 1 5 #[36, 41, 43, 56, 62], 36) := by decide +kernel
theorem dX5_drifts_52 : decode cX5_drifts 52 = .ok (.iload 4, 2) := by decide +kernel
theorem dX5_drifts_54 : decode cX5_drifts 54 = .ok (.iconst 1, 1) := by decide +kernel
theorem dX5_drifts_55 : decode cX5_drifts 55 = .ok (.iadd, 1) := by decide +kernel
theorem dX5_drifts_56 : decode cX5_drifts 56 = .ok (.ireturn, 1) := by decide +kernel
theorem dX5_drifts_57 : decode cX5_drifts 57 = .ok (.iconst 0, 1) := by decide +kernel
theorem dX5_drifts_58 : decode cX5_drifts 58 = .ok (.ireturn, 1) := by decide +kernel
theorem dX5_drifts_59 : decode cX5_drifts 59 = .ok (.iload_n 3, 1) := by decide +kernel
theorem dX5_drifts_60 : decode cX5_drifts 60 = .ok (.iconst 2, 1) := by decide +kernel
theorem dX5_drifts_61 : decode cX5_drifts 61 = .ok (.irem, 1) := by decide +kernel
theorem dX5_drifts_62 : decode cX5_drifts 62 = .ok (.ifCond .ne 8, 3) := by decide +kernel
theorem dX5_drifts_65 : decode cX5_drifts 65 = .ok (.iload 4, 2) := by decide +kernel
theorem dX5_drifts_67 : decode cX5_drifts 67 = .ok (.goto 4, 3) := by decide +kernel
theorem dX5_drifts_70 : decode cX5_drifts 70 = .ok (.iconst 0, 1) := by decide +kernel
theorem dX5_drifts_71 : decode cX5_drifts 71 = .ok (.ireturn, 1) := by decide +kernel
theorem dX5_drifts_72 : decode cX5_drifts 72 = .ok (.iload 4, 2) := by decide +kernel
theorem dX5_drifts_74 : decode cX5_drifts 74 = .ok (.ineg, 1) := by decide +kernel
theorem dX5_drifts_75 : decode cX5_drifts 75 = .ok (.iconst 1, 1) := by decide +kernel
theorem dX5_drifts_76 : decode cX5_drifts 76 = .ok (.isub, 1) := by decide +kernel
theorem dX5_drifts_77 : decode cX5_drifts 77 = .ok (.ireturn, 1) := by decide +kernel
theorem dX5_drifts_78 : decode cX5_drifts 78 = .ok (.iload_n 3, 1) := by decide +kernel
theorem dX5_drifts_79 : decode cX5_drifts 79 = .ok (.iconst 2, 1) := by decide +kernel
theorem dX5_drifts_80 : decode cX5_drifts 80 = .ok (.irem, 1) := by decide +kernel
theorem dX5_drifts_81 : decode cX5_drifts 81 = .ok (.ireturn, 1) := by decide +kernel
theorem dX5_drifts_82 : decode cX5_drifts 82 = .ok (.iload 4, 2) := by decide +kernel
theorem dX5_drifts_84 : decode cX5_drifts 84 = .ok (.ireturn, 1) := by decide +kernel
theorem dX5_bound_0 : decode cX5_bound 0 = .ok (.iload_n 0, 1) := by decide +kernel
theorem dX5_bound_1 : decode cX5_bound 1 = .ok (.ifCond .ge 7, 3) := by decide +kernel
theorem dX5_bound_4 : decode cX5_bound 4 = .ok (.iconst 0, 1) := by decide +kernel
theorem dX5_bound_5 : decode cX5_bound 5 = .ok (.goto 15, 3) := by decide +kernel
theorem dX5_bound_8 : decode cX5_bound 8 = .ok (.iload_n 0, 1) := by decide +kernel
theorem dX5_bound_9 : decode cX5_bound 9 = .ok (.bipush 7, 2) := by decide +kernel
theorem dX5_bound_11 : decode cX5_bound 11 = .ok (.if_icmp .le 8, 3) := by decide +kernel
theorem dX5_bound_14 : decode cX5_bound 14 = .ok (.bipush 7, 2) := by decide +kernel
theorem dX5_bound_16 : decode cX5_bound 16 = .ok (.goto 4, 3) := by decide +kernel
theorem dX5_bound_19 : decode cX5_bound 19 = .ok (.iload_n 0, 1) := by decide +kernel
theorem dX5_bound_20 : decode cX5_bound 20 = .ok (.ireturn, 1) := by decide +kernel
theorem dX5_next_0 : decode cX5_next 0 = .ok (.aload_n 0, 1) := by decide +kernel
theorem dX5_next_1 : decode cX5_next 1 = .ok (.getfield 31, 3) := by decide +kernel
theorem dX5_next_4 : decode cX5_next 4 = .ok (.bipush 6, 2) := by decide +kernel
theorem dX5_next_6 : decode cX5_next 6 = .ok (.iaload, 1) := by decide +kernel
theorem dX5_next_7 : decode cX5_next 7 = .ok (.ifCond .ne 7, 3) := by decide +kernel
theorem dX5_next_10 : decode cX5_next 10 = .ok (.iload_n 3, 1) := by decide +kernel
theorem dX5_next_11 : decode cX5_next 11 = .ok (.goto 16, 3) := by decide +kernel
theorem dX5_next_14 : decode cX5_next 14 = .ok (.iload_n 3, 1) := by decide +kernel
theorem dX5_next_15 : decode cX5_next 15 = .ok (.aload_n 0, 1) := by decide +kernel
theorem dX5_next_16 : decode cX5_next 16 = .ok (.iload_n 1, 1) := by decide +kernel
theorem dX5_next_17 : decode cX5_next 17 = .ok (.iload_n 2, 1) := by decide +kernel
theorem dX5_next_18 : decode cX5_next 18 = .ok (.iload 4, 2) := by decide +kernel
theorem dX5_next_20 : decode cX5_next 20 = .ok (.invokevirtual 153, 3) := by decide +kernel
theorem dX5_next_23 : decode cX5_next 23 = .ok (.iadd, 1) := by decide +kernel
theorem dX5_next_24 : decode cX5_next 24 = .ok (.invokestatic 157, 3) := by decide +kernel
theorem dX5_next_27 : decode cX5_next 27 = .ok (.ireturn, 1) := by decide +kernel
theorem dX5_after_0 : decode cX5_after 0 = .ok (.iload_n 3, 1) := by decide +kernel
theorem dX5_after_1 : decode cX5_after 1 = .ok (.istore 5, 2) := by decide +kernel
theorem dX5_after_3 : decode cX5_after 3 = .ok (.iconst 0, 1) := by decide +kernel
theorem dX5_after_4 : decode cX5_after 4 = .ok (.istore 6, 2) := by decide +kernel
theorem dX5_after_6 : decode cX5_after 6 = .ok (.iload 6, 2) := by decide +kernel
theorem dX5_after_8 : decode cX5_after 8 = .ok (.iload 4, 2) := by decide +kernel
theorem dX5_after_10 : decode cX5_after 10 = .ok (.if_icmp .ge 29, 3) := by decide +kernel
theorem dX5_after_13 : decode cX5_after 13 = .ok (.aload_n 0, 1) := by decide +kernel
theorem dX5_after_14 : decode cX5_after 14 = .ok (.iload_n 1, 1) := by decide +kernel
theorem dX5_after_15 : decode cX5_after 15 = .ok (.iload_n 2, 1) := by decide +kernel
theorem dX5_after_16 : decode cX5_after 16 = .ok (.iload 5, 2) := by decide +kernel
theorem dX5_after_18 : decode cX5_after 18 = .ok (.aload_n 0, 1) := by decide +kernel
theorem dX5_after_19 : decode cX5_after 19 = .ok (.getfield 31, 3) := by decide +kernel
theorem dX5_after_22 : decode cX5_after 22 = .ok (.bipush 7, 2) := by decide +kernel
theorem dX5_after_24 : decode cX5_after 24 = .ok (.iaload, 1) := by decide +kernel
theorem dX5_after_25 : decode cX5_after 25 = .ok (.iload 6, 2) := by decide +kernel
theorem dX5_after_27 : decode cX5_after 27 = .ok (.iadd, 1) := by decide +kernel
theorem dX5_after_28 : decode cX5_after 28 = .ok (.invokevirtual 160, 3) := by decide +kernel
theorem dX5_after_31 : decode cX5_after 31 = .ok (.istore 5, 2) := by decide +kernel
theorem dX5_after_33 : decode cX5_after 33 = .ok (.iinc 6 1, 3) := by decide +kernel
theorem dX5_after_36 : decode cX5_after 36 = .ok (.goto (-30), 3) := by decide +kernel
theorem dX5_after_39 : decode cX5_after 39 = .ok (.iload 5, 2) := by decide +kernel
theorem dX5_after_41 : decode cX5_after 41 = .ok (.ireturn, 1) := by decide +kernel
theorem dX5_afterOf_0 : decode cX5_afterOf 0 = .ok (.aload_n 0, 1) := by decide +kernel
theorem dX5_afterOf_1 : decode cX5_afterOf 1 = .ok (.aload_n 0, 1) := by decide +kernel
theorem dX5_afterOf_2 : decode cX5_afterOf 2 = .ok (.getfield 22, 3) := by decide +kernel
theorem dX5_afterOf_5 : decode cX5_afterOf 5 = .ok (.iload_n 1, 1) := by decide +kernel
theorem dX5_afterOf_6 : decode cX5_afterOf 6 = .ok (.iaload, 1) := by decide +kernel
theorem dX5_afterOf_7 : decode cX5_afterOf 7 = .ok (.aload_n 0, 1) := by decide +kernel
theorem dX5_afterOf_8 : decode cX5_afterOf 8 = .ok (.getfield 25, 3) := by decide +kernel
theorem dX5_afterOf_11 : decode cX5_afterOf 11 = .ok (.iload_n 1, 1) := by decide +kernel
theorem dX5_afterOf_12 : decode cX5_afterOf 12 = .ok (.iaload, 1) := by decide +kernel
theorem dX5_afterOf_13 : decode cX5_afterOf 13 = .ok (.iload_n 2, 1) := by decide +kernel
theorem dX5_afterOf_14 : decode cX5_afterOf 14 = .ok (.iload_n 3, 1) := by decide +kernel
theorem dX5_afterOf_15 : decode cX5_afterOf 15 = .ok (.invokevirtual 164, 3) := by decide +kernel
theorem dX5_afterOf_18 : decode cX5_afterOf 18 = .ok (.ireturn, 1) := by decide +kernel
theorem dX5_abs_0 : decode cX5_abs 0 = .ok (.iload_n 0, 1) := by decide +kernel
theorem dX5_abs_1 : decode cX5_abs 1 = .ok (.ifCond .ge 8, 3) := by decide +kernel
theorem dX5_abs_4 : decode cX5_abs 4 = .ok (.iload_n 0, 1) := by decide +kernel
theorem dX5_abs_5 : decode cX5_abs 5 = .ok (.ineg, 1) := by decide +kernel
theorem dX5_abs_6 : decode cX5_abs 6 = .ok (.goto 4, 3) := by decide +kernel
theorem dX5_abs_9 : decode cX5_abs 9 = .ok (.iload_n 0, 1) := by decide +kernel
theorem dX5_abs_10 : decode cX5_abs 10 = .ok (.ireturn, 1) := by decide +kernel
theorem dX5_told_0 : decode cX5_told 0 = .ok (.iload_n 2, 1) := by decide +kernel
theorem dX5_told_1 : decode cX5_told 1 = .ok (.tableswitch 61 0 3 #[31, 38, 47, 54], 31) := by decide +kernel
theorem dX5_told_32 : decode cX5_told 32 = .ok (.aload_n 0, 1) := by decide +kernel
theorem dX5_told_33 : decode cX5_told 33 = .ok (.getfield 22, 3) := by decide +kernel
theorem dX5_told_36 : decode cX5_told 36 = .ok (.iload_n 1, 1) := by decide +kernel
theorem dX5_told_37 : decode cX5_told 37 = .ok (.iaload, 1) := by decide +kernel
theorem dX5_told_38 : decode cX5_told 38 = .ok (.ireturn, 1) := by decide +kernel
theorem dX5_told_39 : decode cX5_told 39 = .ok (.aload_n 0, 1) := by decide +kernel
theorem dX5_told_40 : decode cX5_told 40 = .ok (.getfield 31, 3) := by decide +kernel
theorem dX5_told_43 : decode cX5_told 43 = .ok (.iconst 0, 1) := by decide +kernel
theorem dX5_told_44 : decode cX5_told 44 = .ok (.iload_n 1, 1) := by decide +kernel
theorem dX5_told_45 : decode cX5_told 45 = .ok (.iadd, 1) := by decide +kernel
theorem dX5_told_46 : decode cX5_told 46 = .ok (.iaload, 1) := by decide +kernel
theorem dX5_told_47 : decode cX5_told 47 = .ok (.ireturn, 1) := by decide +kernel
theorem dX5_told_48 : decode cX5_told 48 = .ok (.aload_n 0, 1) := by decide +kernel
theorem dX5_told_49 : decode cX5_told 49 = .ok (.getfield 25, 3) := by decide +kernel
theorem dX5_told_52 : decode cX5_told 52 = .ok (.iload_n 1, 1) := by decide +kernel
theorem dX5_told_53 : decode cX5_told 53 = .ok (.iaload, 1) := by decide +kernel
theorem dX5_told_54 : decode cX5_told 54 = .ok (.ireturn, 1) := by decide +kernel
theorem dX5_told_55 : decode cX5_told 55 = .ok (.aload_n 0, 1) := by decide +kernel
theorem dX5_told_56 : decode cX5_told 56 = .ok (.getfield 28, 3) := by decide +kernel
theorem dX5_told_59 : decode cX5_told 59 = .ok (.iload_n 1, 1) := by decide +kernel
theorem dX5_told_60 : decode cX5_told 60 = .ok (.iaload, 1) := by decide +kernel
theorem dX5_told_61 : decode cX5_told 61 = .ok (.ireturn, 1) := by decide +kernel
theorem dX5_told_62 : decode cX5_told 62 = .ok (.aload_n 0, 1) := by decide +kernel
theorem dX5_told_63 : decode cX5_told 63 = .ok (.getfield 31, 3) := by decide +kernel
theorem dX5_told_66 : decode cX5_told 66 = .ok (.bipush 6, 2) := by decide +kernel
theorem dX5_told_68 : decode cX5_told 68 = .ok (.iaload, 1) := by decide +kernel
theorem dX5_told_69 : decode cX5_told 69 = .ok (.ifCond .ne 7, 3) := by decide +kernel
theorem dX5_told_72 : decode cX5_told 72 = .ok (.iconst 0, 1) := by decide +kernel
theorem dX5_told_73 : decode cX5_told 73 = .ok (.goto 26, 3) := by decide +kernel
theorem dX5_told_76 : decode cX5_told 76 = .ok (.aload_n 0, 1) := by decide +kernel
theorem dX5_told_77 : decode cX5_told 77 = .ok (.aload_n 0, 1) := by decide +kernel
theorem dX5_told_78 : decode cX5_told 78 = .ok (.getfield 22, 3) := by decide +kernel
theorem dX5_told_81 : decode cX5_told 81 = .ok (.iload_n 1, 1) := by decide +kernel
theorem dX5_told_82 : decode cX5_told 82 = .ok (.iaload, 1) := by decide +kernel
theorem dX5_told_83 : decode cX5_told 83 = .ok (.aload_n 0, 1) := by decide +kernel
theorem dX5_told_84 : decode cX5_told 84 = .ok (.getfield 25, 3) := by decide +kernel
theorem dX5_told_87 : decode cX5_told 87 = .ok (.iload_n 1, 1) := by decide +kernel
theorem dX5_told_88 : decode cX5_told 88 = .ok (.iaload, 1) := by decide +kernel
theorem dX5_told_89 : decode cX5_told 89 = .ok (.aload_n 0, 1) := by decide +kernel
theorem dX5_told_90 : decode cX5_told 90 = .ok (.getfield 31, 3) := by decide +kernel
theorem dX5_told_93 : decode cX5_told 93 = .ok (.bipush 7, 2) := by decide +kernel
theorem dX5_told_95 : decode cX5_told 95 = .ok (.iaload, 1) := by decide +kernel
theorem dX5_told_96 : decode cX5_told 96 = .ok (.invokevirtual 153, 3) := by decide +kernel
theorem dX5_told_99 : decode cX5_told 99 = .ok (.ireturn, 1) := by decide +kernel
theorem dX5_thing_0 : decode cX5_thing 0 = .ok (.aload_n 0, 1) := by decide +kernel
theorem dX5_thing_1 : decode cX5_thing 1 = .ok (.iload_n 1, 1) := by decide +kernel
theorem dX5_thing_2 : decode cX5_thing 2 = .ok (.invokevirtual 167, 3) := by decide +kernel
theorem dX5_thing_5 : decode cX5_thing 5 = .ok (.ifCond .eq 28, 3) := by decide +kernel
theorem dX5_thing_8 : decode cX5_thing 8 = .ok (.iload_n 2, 1) := by decide +kernel
theorem dX5_thing_9 : decode cX5_thing 9 = .ok (.i2l, 1) := by decide +kernel
theorem dX5_thing_10 : decode cX5_thing 10 = .ok (.lconst 0, 1) := by decide +kernel
theorem dX5_thing_11 : decode cX5_thing 11 = .ok (.ldc2_w 170, 3) := by decide +kernel
theorem dX5_thing_14 : decode cX5_thing 14 = .ok (.invokestatic 84, 3) := by decide +kernel
theorem dX5_thing_17 : decode cX5_thing 17 = .ok (.ifCond .eq 16, 3) := by decide +kernel
theorem dX5_thing_20 : decode cX5_thing 20 = .ok (.aload_n 0, 1) := by decide +kernel
theorem dX5_thing_21 : decode cX5_thing 21 = .ok (.aload_n 0, 1) := by decide +kernel
theorem dX5_thing_22 : decode cX5_thing 22 = .ok (.iload_n 1, 1) := by decide +kernel
theorem dX5_thing_23 : decode cX5_thing 23 = .ok (.iload_n 2, 1) := by decide +kernel
theorem dX5_thing_24 : decode cX5_thing 24 = .ok (.invokevirtual 172, 3) := by decide +kernel
theorem dX5_thing_27 : decode cX5_thing 27 = .ok (.invokevirtual 98, 3) := by decide +kernel
theorem dX5_thing_30 : decode cX5_thing 30 = .ok (.goto 4, 3) := by decide +kernel
theorem dX5_thing_33 : decode cX5_thing 33 = .ok (.iconst (-1), 1) := by decide +kernel
theorem dX5_thing_34 : decode cX5_thing 34 = .ok (.ireturn, 1) := by decide +kernel
theorem dX5_isOf_0 : decode cX5_isOf 0 = .ok (.iload_n 0, 1) := by decide +kernel
theorem dX5_isOf_1 : decode cX5_isOf 1 = .ok (.iload_n 1, 1) := by decide +kernel
theorem dX5_isOf_2 : decode cX5_isOf 2 = .ok (.if_icmp .eq 23, 3) := by decide +kernel
theorem dX5_isOf_5 : decode cX5_isOf 5 = .ok (.iload_n 1, 1) := by decide +kernel
theorem dX5_isOf_6 : decode cX5_isOf 6 = .ok (.iconst 1, 1) := by decide +kernel
theorem dX5_isOf_7 : decode cX5_isOf 7 = .ok (.if_icmp .ne 8, 3) := by decide +kernel
theorem dX5_isOf_10 : decode cX5_isOf 10 = .ok (.iload_n 0, 1) := by decide +kernel
theorem dX5_isOf_11 : decode cX5_isOf 11 = .ok (.iconst 4, 1) := by decide +kernel
theorem dX5_isOf_12 : decode cX5_isOf 12 = .ok (.if_icmp .eq 13, 3) := by decide +kernel
theorem dX5_isOf_15 : decode cX5_isOf 15 = .ok (.iload_n 1, 1) := by decide +kernel
theorem dX5_isOf_16 : decode cX5_isOf 16 = .ok (.iconst 2, 1) := by decide +kernel
theorem dX5_isOf_17 : decode cX5_isOf 17 = .ok (.if_icmp .ne 12, 3) := by decide +kernel
theorem dX5_isOf_20 : decode cX5_isOf 20 = .ok (.iload_n 0, 1) := by decide +kernel
theorem dX5_isOf_21 : decode cX5_isOf 21 = .ok (.iconst 5, 1) := by decide +kernel
theorem dX5_isOf_22 : decode cX5_isOf 22 = .ok (.if_icmp .ne 7, 3) := by decide +kernel
theorem dX5_isOf_25 : decode cX5_isOf 25 = .ok (.iconst 1, 1) := by decide +kernel
theorem dX5_isOf_26 : decode cX5_isOf 26 = .ok (.goto 4, 3) := by decide +kernel
theorem dX5_isOf_29 : decode cX5_isOf 29 = .ok (.iconst 0, 1) := by decide +kernel
theorem dX5_isOf_30 : decode cX5_isOf 30 = .ok (.ireturn, 1) := by decide +kernel
theorem dX5_kindsOf_0 : decode cX5_kindsOf 0 = .ok (.iconst 0, 1) := by decide +kernel
theorem dX5_kindsOf_1 : decode cX5_kindsOf 1 = .ok (.istore_n 2, 1) := by decide +kernel
theorem dX5_kindsOf_2 : decode cX5_kindsOf 2 = .ok (.iconst 0, 1) := by decide +kernel
theorem dX5_kindsOf_3 : decode cX5_kindsOf 3 = .ok (.istore_n 3, 1) := by decide +kernel
theorem dX5_kindsOf_4 : decode cX5_kindsOf 4 = .ok (.iload_n 3, 1) := by decide +kernel
theorem dX5_kindsOf_5 : decode cX5_kindsOf 5 = .ok (.aload_n 0, 1) := by decide +kernel
theorem dX5_kindsOf_6 : decode cX5_kindsOf 6 = .ok (.getfield 142, 3) := by decide +kernel
theorem dX5_kindsOf_9 : decode cX5_kindsOf 9 = .ok (.if_icmp .ge 30, 3) := by decide +kernel
theorem dX5_kindsOf_12 : decode cX5_kindsOf 12 = .ok (.iload_n 2, 1) := by decide +kernel
theorem dX5_kindsOf_13 : decode cX5_kindsOf 13 = .ok (.aload_n 0, 1) := by decide +kernel
theorem dX5_kindsOf_14 : decode cX5_kindsOf 14 = .ok (.getfield 22, 3) := by decide +kernel
theorem dX5_kindsOf_17 : decode cX5_kindsOf 17 = .ok (.iload_n 3, 1) := by decide +kernel
theorem dX5_kindsOf_18 : decode cX5_kindsOf 18 = .ok (.iaload, 1) := by decide +kernel
theorem dX5_kindsOf_19 : decode cX5_kindsOf 19 = .ok (.iload_n 1, 1) := by decide +kernel
theorem dX5_kindsOf_20 : decode cX5_kindsOf 20 = .ok (.invokestatic 176, 3) := by decide +kernel
theorem dX5_kindsOf_23 : decode cX5_kindsOf 23 = .ok (.ifCond .eq 7, 3) := by decide +kernel
theorem dX5_kindsOf_26 : decode cX5_kindsOf 26 = .ok (.iconst 1, 1) := by decide +kernel
theorem dX5_kindsOf_27 : decode cX5_kindsOf 27 = .ok (.goto 4, 3) := by decide +kernel
theorem dX5_kindsOf_30 : decode cX5_kindsOf 30 = .ok (.iconst 0, 1) := by decide +kernel
theorem dX5_kindsOf_31 : decode cX5_kindsOf 31 = .ok (.iadd, 1) := by decide +kernel
theorem dX5_kindsOf_32 : decode cX5_kindsOf 32 = .ok (.istore_n 2, 1) := by decide +kernel
theorem dX5_kindsOf_33 : decode cX5_kindsOf 33 = .ok (.iinc 3 1, 3) := by decide +kernel
theorem dX5_kindsOf_36 : decode cX5_kindsOf 36 = .ok (.goto (-32), 3) := by decide +kernel
theorem dX5_kindsOf_39 : decode cX5_kindsOf 39 = .ok (.iload_n 2, 1) := by decide +kernel
theorem dX5_kindsOf_40 : decode cX5_kindsOf 40 = .ok (.ireturn, 1) := by decide +kernel
theorem dX5_cellOf_0 : decode cX5_cellOf 0 = .ok (.iconst 0, 1) := by decide +kernel
theorem dX5_cellOf_1 : decode cX5_cellOf 1 = .ok (.istore_n 2, 1) := by decide +kernel
theorem dX5_cellOf_2 : decode cX5_cellOf 2 = .ok (.iconst 0, 1) := by decide +kernel
theorem dX5_cellOf_3 : decode cX5_cellOf 3 = .ok (.istore_n 3, 1) := by decide +kernel
theorem dX5_cellOf_4 : decode cX5_cellOf 4 = .ok (.iload_n 3, 1) := by decide +kernel
theorem dX5_cellOf_5 : decode cX5_cellOf 5 = .ok (.aload_n 0, 1) := by decide +kernel
theorem dX5_cellOf_6 : decode cX5_cellOf 6 = .ok (.getfield 142, 3) := by decide +kernel
theorem dX5_cellOf_9 : decode cX5_cellOf 9 = .ok (.if_icmp .ge 31, 3) := by decide +kernel
theorem dX5_cellOf_12 : decode cX5_cellOf 12 = .ok (.iload_n 2, 1) := by decide +kernel
theorem dX5_cellOf_13 : decode cX5_cellOf 13 = .ok (.aload_n 0, 1) := by decide +kernel
theorem dX5_cellOf_14 : decode cX5_cellOf 14 = .ok (.getfield 31, 3) := by decide +kernel
theorem dX5_cellOf_17 : decode cX5_cellOf 17 = .ok (.iconst 0, 1) := by decide +kernel
theorem dX5_cellOf_18 : decode cX5_cellOf 18 = .ok (.iload_n 3, 1) := by decide +kernel
theorem dX5_cellOf_19 : decode cX5_cellOf 19 = .ok (.iadd, 1) := by decide +kernel
theorem dX5_cellOf_20 : decode cX5_cellOf 20 = .ok (.iaload, 1) := by decide +kernel
theorem dX5_cellOf_21 : decode cX5_cellOf 21 = .ok (.iload_n 1, 1) := by decide +kernel
theorem dX5_cellOf_22 : decode cX5_cellOf 22 = .ok (.if_icmp .ne 9, 3) := by decide +kernel
theorem dX5_cellOf_25 : decode cX5_cellOf 25 = .ok (.iconst 1, 1) := by decide +kernel
theorem dX5_cellOf_26 : decode cX5_cellOf 26 = .ok (.iload_n 3, 1) := by decide +kernel
theorem dX5_cellOf_27 : decode cX5_cellOf 27 = .ok (.ishl, 1) := by decide +kernel
theorem dX5_cellOf_28 : decode cX5_cellOf 28 = .ok (.goto 4, 3) := by decide +kernel
theorem dX5_cellOf_31 : decode cX5_cellOf 31 = .ok (.iconst 0, 1) := by decide +kernel
theorem dX5_cellOf_32 : decode cX5_cellOf 32 = .ok (.ior, 1) := by decide +kernel
theorem dX5_cellOf_33 : decode cX5_cellOf 33 = .ok (.istore_n 2, 1) := by decide +kernel
theorem dX5_cellOf_34 : decode cX5_cellOf 34 = .ok (.iinc 3 1, 3) := by decide +kernel
theorem dX5_cellOf_37 : decode cX5_cellOf 37 = .ok (.goto (-33), 3) := by decide +kernel
theorem dX5_cellOf_40 : decode cX5_cellOf 40 = .ok (.iload_n 2, 1) := by decide +kernel
theorem dX5_cellOf_41 : decode cX5_cellOf 41 = .ok (.ireturn, 1) := by decide +kernel
theorem dX5_mark_0 : decode cX5_mark 0 = .ok (.aload_n 0, 1) := by decide +kernel
theorem dX5_mark_1 : decode cX5_mark 1 = .ok (.iload_n 1, 1) := by decide +kernel
theorem dX5_mark_2 : decode cX5_mark 2 = .ok (.invokevirtual 167, 3) := by decide +kernel
theorem dX5_mark_5 : decode cX5_mark 5 = .ok (.ifCond .eq 15, 3) := by decide +kernel
theorem dX5_mark_8 : decode cX5_mark 8 = .ok (.iload_n 2, 1) := by decide +kernel
theorem dX5_mark_9 : decode cX5_mark 9 = .ok (.i2l, 1) := by decide +kernel
theorem dX5_mark_10 : decode cX5_mark 10 = .ok (.lconst 1, 1) := by decide +kernel
theorem dX5_mark_11 : decode cX5_mark 11 = .ok (.ldc2_w 82, 3) := by decide +kernel
theorem dX5_mark_14 : decode cX5_mark 14 = .ok (.invokestatic 84, 3) := by decide +kernel
theorem dX5_mark_17 : decode cX5_mark 17 = .ok (.ifCond .ne 5, 3) := by decide +kernel
theorem dX5_mark_20 : decode cX5_mark 20 = .ok (.iconst (-1), 1) := by decide +kernel
theorem dX5_mark_21 : decode cX5_mark 21 = .ok (.ireturn, 1) := by decide +kernel
theorem dX5_mark_22 : decode cX5_mark 22 = .ok (.aload_n 0, 1) := by decide +kernel
theorem dX5_mark_23 : decode cX5_mark 23 = .ok (.getfield 22, 3) := by decide +kernel
theorem dX5_mark_26 : decode cX5_mark 26 = .ok (.iload_n 1, 1) := by decide +kernel
theorem dX5_mark_27 : decode cX5_mark 27 = .ok (.iaload, 1) := by decide +kernel
theorem dX5_mark_28 : decode cX5_mark 28 = .ok (.iload_n 2, 1) := by decide +kernel
theorem dX5_mark_29 : decode cX5_mark 29 = .ok (.invokestatic 176, 3) := by decide +kernel
theorem dX5_mark_32 : decode cX5_mark 32 = .ok (.ifCond .ne 9, 3) := by decide +kernel
theorem dX5_mark_35 : decode cX5_mark 35 = .ok (.aload_n 0, 1) := by decide +kernel
theorem dX5_mark_36 : decode cX5_mark 36 = .ok (.iconst 3, 1) := by decide +kernel
theorem dX5_mark_37 : decode cX5_mark 37 = .ok (.invokevirtual 94, 3) := by decide +kernel
theorem dX5_mark_40 : decode cX5_mark 40 = .ok (.ireturn, 1) := by decide +kernel
theorem dX5_mark_41 : decode cX5_mark 41 = .ok (.iload_n 2, 1) := by decide +kernel
theorem dX5_mark_42 : decode cX5_mark 42 = .ok (.tableswitch 107 1 4 #[30, 61, 91, 101], 30) := by decide +kernel
theorem dX5_mark_72 : decode cX5_mark 72 = .ok (.aload_n 0, 1) := by decide +kernel
theorem dX5_mark_73 : decode cX5_mark 73 = .ok (.getfield 145, 3) := by decide +kernel
theorem dX5_mark_76 : decode cX5_mark 76 = .ok (.aload_n 0, 1) := by decide +kernel
theorem dX5_mark_77 : decode cX5_mark 77 = .ok (.getfield 25, 3) := by decide +kernel
theorem dX5_mark_80 : decode cX5_mark 80 = .ok (.iload_n 1, 1) := by decide +kernel
theorem dX5_mark_81 : decode cX5_mark 81 = .ok (.iaload, 1) := by decide +kernel
theorem dX5_mark_82 : decode cX5_mark 82 = .ok (.if_icmp .le 7, 3) := by decide +kernel
theorem dX5_mark_85 : decode cX5_mark 85 = .ok (.iconst 0, 1) := by decide +kernel
theorem dX5_mark_86 : decode cX5_mark 86 = .ok (.goto 16, 3) := by decide +kernel
theorem dX5_mark_89 : decode cX5_mark 89 = .ok (.aload_n 0, 1) := by decide +kernel
theorem dX5_mark_90 : decode cX5_mark 90 = .ok (.getfield 25, 3) := by decide +kernel
theorem dX5_mark_93 : decode cX5_mark 93 = .ok (.iload_n 1, 1) := by decide +kernel
theorem dX5_mark_94 : decode cX5_mark 94 = .ok (.iaload, 1) := by decide +kernel
theorem dX5_mark_95 : decode cX5_mark 95 = .ok (.iconst 1, 1) := by decide +kernel
theorem dX5_mark_96 : decode cX5_mark 96 = .ok (.iadd, 1) := by decide +kernel
theorem dX5_mark_97 : decode cX5_mark 97 = .ok (.aload_n 0, 1) := by decide +kernel
theorem dX5_mark_98 : decode cX5_mark 98 = .ok (.getfield 145, 3) := by decide +kernel
theorem dX5_mark_101 : decode cX5_mark 101 = .ok (.isub, 1) := by decide +kernel
theorem dX5_mark_102 : decode cX5_mark 102 = .ok (.ireturn, 1) := by decide +kernel
theorem dX5_mark_103 : decode cX5_mark 103 = .ok (.aload_n 0, 1) := by decide +kernel
theorem dX5_mark_104 : decode cX5_mark 104 = .ok (.iload_n 1, 1) := by decide +kernel
theorem dX5_mark_105 : decode cX5_mark 105 = .ok (.invokevirtual 179, 3) := by decide +kernel
theorem dX5_mark_108 : decode cX5_mark 108 = .ok (.ifCond .eq 7, 3) := by decide +kernel
theorem dX5_mark_111 : decode cX5_mark 111 = .ok (.iconst 0, 1) := by decide +kernel
theorem dX5_mark_112 : decode cX5_mark 112 = .ok (.goto 20, 3) := by decide +kernel
theorem dX5_mark_115 : decode cX5_mark 115 = .ok (.aload_n 0, 1) := by decide +kernel
theorem dX5_mark_116 : decode cX5_mark 116 = .ok (.aload_n 0, 1) := by decide +kernel
theorem dX5_mark_117 : decode cX5_mark 117 = .ok (.getfield 31, 3) := by decide +kernel
theorem dX5_mark_120 : decode cX5_mark 120 = .ok (.iconst 0, 1) := by decide +kernel
theorem dX5_mark_121 : decode cX5_mark 121 = .ok (.iload_n 1, 1) := by decide +kernel
theorem dX5_mark_122 : decode cX5_mark 122 = .ok (.iadd, 1) := by decide +kernel
theorem dX5_mark_123 : decode cX5_mark 123 = .ok (.iaload, 1) := by decide +kernel
theorem dX5_mark_124 : decode cX5_mark 124 = .ok (.invokevirtual 182, 3) := by decide +kernel
theorem dX5_mark_127 : decode cX5_mark 127 = .ok (.invokestatic 185, 3) := by decide +kernel
theorem dX5_mark_130 : decode cX5_mark 130 = .ok (.iconst 1, 1) := by decide +kernel
theorem dX5_mark_131 : decode cX5_mark 131 = .ok (.isub, 1) := by decide +kernel
theorem dX5_mark_132 : decode cX5_mark 132 = .ok (.ireturn, 1) := by decide +kernel
theorem dX5_mark_133 : decode cX5_mark 133 = .ok (.aload_n 0, 1) := by decide +kernel
theorem dX5_mark_134 : decode cX5_mark 134 = .ok (.getfield 31, 3) := by decide +kernel
theorem dX5_mark_137 : decode cX5_mark 137 = .ok (.bipush 7, 2) := by decide +kernel
theorem dX5_mark_139 : decode cX5_mark 139 = .ok (.iaload, 1) := by decide +kernel
theorem dX5_mark_140 : decode cX5_mark 140 = .ok (.iconst 2, 1) := by decide +kernel
theorem dX5_mark_141 : decode cX5_mark 141 = .ok (.irem, 1) := by decide +kernel
theorem dX5_mark_142 : decode cX5_mark 142 = .ok (.ireturn, 1) := by decide +kernel
theorem dX5_mark_143 : decode cX5_mark 143 = .ok (.aload_n 0, 1) := by decide +kernel
theorem dX5_mark_144 : decode cX5_mark 144 = .ok (.iconst 1, 1) := by decide +kernel
theorem dX5_mark_145 : decode cX5_mark 145 = .ok (.invokevirtual 188, 3) := by decide +kernel
theorem dX5_mark_148 : decode cX5_mark 148 = .ok (.ireturn, 1) := by decide +kernel
theorem dX5_mark_149 : decode cX5_mark 149 = .ok (.aload_n 0, 1) := by decide +kernel
theorem dX5_mark_150 : decode cX5_mark 150 = .ok (.iload_n 1, 1) := by decide +kernel
theorem dX5_mark_151 : decode cX5_mark 151 = .ok (.invokevirtual 179, 3) := by decide +kernel
theorem dX5_mark_154 : decode cX5_mark 154 = .ok (.ifCond .eq 7, 3) := by decide +kernel
theorem dX5_mark_157 : decode cX5_mark 157 = .ok (.iconst 0, 1) := by decide +kernel
theorem dX5_mark_158 : decode cX5_mark 158 = .ok (.goto 14, 3) := by decide +kernel
theorem dX5_mark_161 : decode cX5_mark 161 = .ok (.bipush 7, 2) := by decide +kernel
theorem dX5_mark_163 : decode cX5_mark 163 = .ok (.aload_n 0, 1) := by decide +kernel
theorem dX5_mark_164 : decode cX5_mark 164 = .ok (.getfield 31, 3) := by decide +kernel
theorem dX5_mark_167 : decode cX5_mark 167 = .ok (.iconst 0, 1) := by decide +kernel
theorem dX5_mark_168 : decode cX5_mark 168 = .ok (.iload_n 1, 1) := by decide +kernel
theorem dX5_mark_169 : decode cX5_mark 169 = .ok (.iadd, 1) := by decide +kernel
theorem dX5_mark_170 : decode cX5_mark 170 = .ok (.iaload, 1) := by decide +kernel
theorem dX5_mark_171 : decode cX5_mark 171 = .ok (.isub, 1) := by decide +kernel
theorem dX5_mark_172 : decode cX5_mark 172 = .ok (.ireturn, 1) := by decide +kernel
theorem dX5_cell_0 : decode cX5_cell 0 = .ok (.iload_n 1, 1) := by decide +kernel
theorem dX5_cell_1 : decode cX5_cell 1 = .ok (.invokestatic 191, 3) := by decide +kernel
theorem dX5_cell_4 : decode cX5_cell 4 = .ok (.ifCond .eq 11, 3) := by decide +kernel
theorem dX5_cell_7 : decode cX5_cell 7 = .ok (.aload_n 0, 1) := by decide +kernel
theorem dX5_cell_8 : decode cX5_cell 8 = .ok (.iload_n 1, 1) := by decide +kernel
theorem dX5_cell_9 : decode cX5_cell 9 = .ok (.invokevirtual 182, 3) := by decide +kernel
theorem dX5_cell_12 : decode cX5_cell 12 = .ok (.goto 4, 3) := by decide +kernel
theorem dX5_cell_15 : decode cX5_cell 15 = .ok (.iconst (-1), 1) := by decide +kernel
theorem dX5_cell_16 : decode cX5_cell 16 = .ok (.ireturn, 1) := by decide +kernel
theorem dX5_copies_0 : decode cX5_copies 0 = .ok (.iconst 0, 1) := by decide +kernel
theorem dX5_copies_1 : decode cX5_copies 1 = .ok (.istore 5, 2) := by decide +kernel
theorem dX5_copies_3 : decode cX5_copies 3 = .ok (.iload 5, 2) := by decide +kernel
theorem dX5_copies_5 : decode cX5_copies 5 = .ok (.iload 4, 2) := by decide +kernel
theorem dX5_copies_7 : decode cX5_copies 7 = .ok (.if_icmp .ge 21, 3) := by decide +kernel
theorem dX5_copies_10 : decode cX5_copies 10 = .ok (.aload_n 2, 1) := by decide +kernel
theorem dX5_copies_11 : decode cX5_copies 11 = .ok (.iload_n 3, 1) := by decide +kernel
theorem dX5_copies_12 : decode cX5_copies 12 = .ok (.iload 5, 2) := by decide +kernel
theorem dX5_copies_14 : decode cX5_copies 14 = .ok (.iadd, 1) := by decide +kernel
theorem dX5_copies_15 : decode cX5_copies 15 = .ok (.aload_n 0, 1) := by decide +kernel
theorem dX5_copies_16 : decode cX5_copies 16 = .ok (.iload_n 1, 1) := by decide +kernel
theorem dX5_copies_17 : decode cX5_copies 17 = .ok (.iload 5, 2) := by decide +kernel
theorem dX5_copies_19 : decode cX5_copies 19 = .ok (.iadd, 1) := by decide +kernel
theorem dX5_copies_20 : decode cX5_copies 20 = .ok (.iaload, 1) := by decide +kernel
theorem dX5_copies_21 : decode cX5_copies 21 = .ok (.iastore, 1) := by decide +kernel
theorem dX5_copies_22 : decode cX5_copies 22 = .ok (.iinc 5 1, 3) := by decide +kernel
theorem dX5_copies_25 : decode cX5_copies 25 = .ok (.goto (-22), 3) := by decide +kernel
theorem dX5_copies_28 : decode cX5_copies 28 = .ok (.return_, 1) := by decide +kernel
theorem dX5_remember_0 : decode cX5_remember 0 = .ok (.aload_n 0, 1) := by decide +kernel
theorem dX5_remember_1 : decode cX5_remember 1 = .ok (.getfield 31, 3) := by decide +kernel
theorem dX5_remember_4 : decode cX5_remember 4 = .ok (.iconst 0, 1) := by decide +kernel
theorem dX5_remember_5 : decode cX5_remember 5 = .ok (.aload_n 0, 1) := by decide +kernel
theorem dX5_remember_6 : decode cX5_remember 6 = .ok (.getfield 34, 3) := by decide +kernel
theorem dX5_remember_9 : decode cX5_remember 9 = .ok (.bipush 8, 2) := by decide +kernel
theorem dX5_remember_11 : decode cX5_remember 11 = .ok (.aload_n 0, 1) := by decide +kernel
theorem dX5_remember_12 : decode cX5_remember 12 = .ok (.getfield 148, 3) := by decide +kernel
theorem dX5_remember_15 : decode cX5_remember 15 = .ok (.imul, 1) := by decide +kernel
theorem dX5_remember_16 : decode cX5_remember 16 = .ok (.bipush 8, 2) := by decide +kernel
theorem dX5_remember_18 : decode cX5_remember 18 = .ok (.invokestatic 194, 3) := by decide +kernel
theorem dX5_remember_21 : decode cX5_remember 21 = .ok (.aload_n 0, 1) := by decide +kernel
theorem dX5_remember_22 : decode cX5_remember 22 = .ok (.dup, 1) := by decide +kernel
theorem dX5_remember_23 : decode cX5_remember 23 = .ok (.getfield 148, 3) := by decide +kernel
theorem dX5_remember_26 : decode cX5_remember 26 = .ok (.iconst 1, 1) := by decide +kernel
theorem dX5_remember_27 : decode cX5_remember 27 = .ok (.iadd, 1) := by decide +kernel
theorem dX5_remember_28 : decode cX5_remember 28 = .ok (.putfield 148, 3) := by decide +kernel
theorem dX5_remember_31 : decode cX5_remember 31 = .ok (.return_, 1) := by decide +kernel
theorem dX5_yearGoes_0 : decode cX5_yearGoes 0 = .ok (.aload_n 0, 1) := by decide +kernel
theorem dX5_yearGoes_1 : decode cX5_yearGoes 1 = .ok (.invokevirtual 198, 3) := by decide +kernel
theorem dX5_yearGoes_4 : decode cX5_yearGoes 4 = .ok (.iconst 0, 1) := by decide +kernel
theorem dX5_yearGoes_5 : decode cX5_yearGoes 5 = .ok (.istore_n 1, 1) := by decide +kernel
theorem dX5_yearGoes_6 : decode cX5_yearGoes 6 = .ok (.iload_n 1, 1) := by decide +kernel
theorem dX5_yearGoes_7 : decode cX5_yearGoes 7 = .ok (.aload_n 0, 1) := by decide +kernel
theorem dX5_yearGoes_8 : decode cX5_yearGoes 8 = .ok (.getfield 142, 3) := by decide +kernel
theorem dX5_yearGoes_11 : decode cX5_yearGoes 11 = .ok (.if_icmp .ge 39, 3) := by decide +kernel
theorem dX5_yearGoes_14 : decode cX5_yearGoes 14 = .ok (.aload_n 0, 1) := by decide +kernel
theorem dX5_yearGoes_15 : decode cX5_yearGoes 15 = .ok (.iload_n 1, 1) := by decide +kernel
theorem dX5_yearGoes_16 : decode cX5_yearGoes 16 = .ok (.invokevirtual 179, 3) := by decide +kernel
theorem dX5_yearGoes_19 : decode cX5_yearGoes 19 = .ok (.ifCond .ne 25, 3) := by decide +kernel
theorem dX5_yearGoes_22 : decode cX5_yearGoes 22 = .ok (.aload_n 0, 1) := by decide +kernel
theorem dX5_yearGoes_23 : decode cX5_yearGoes 23 = .ok (.getfield 31, 3) := by decide +kernel
theorem dX5_yearGoes_26 : decode cX5_yearGoes 26 = .ok (.iconst 0, 1) := by decide +kernel
theorem dX5_yearGoes_27 : decode cX5_yearGoes 27 = .ok (.iload_n 1, 1) := by decide +kernel
theorem dX5_yearGoes_28 : decode cX5_yearGoes 28 = .ok (.iadd, 1) := by decide +kernel
theorem dX5_yearGoes_29 : decode cX5_yearGoes 29 = .ok (.aload_n 0, 1) := by decide +kernel
theorem dX5_yearGoes_30 : decode cX5_yearGoes 30 = .ok (.iload_n 1, 1) := by decide +kernel
theorem dX5_yearGoes_31 : decode cX5_yearGoes 31 = .ok (.aload_n 0, 1) := by decide +kernel
theorem dX5_yearGoes_32 : decode cX5_yearGoes 32 = .ok (.getfield 31, 3) := by decide +kernel
theorem dX5_yearGoes_35 : decode cX5_yearGoes 35 = .ok (.iconst 0, 1) := by decide +kernel
theorem dX5_yearGoes_36 : decode cX5_yearGoes 36 = .ok (.iload_n 1, 1) := by decide +kernel
theorem dX5_yearGoes_37 : decode cX5_yearGoes 37 = .ok (.iadd, 1) := by decide +kernel
theorem dX5_yearGoes_38 : decode cX5_yearGoes 38 = .ok (.iaload, 1) := by decide +kernel
theorem dX5_yearGoes_39 : decode cX5_yearGoes 39 = .ok (.iconst 1, 1) := by decide +kernel
theorem dX5_yearGoes_40 : decode cX5_yearGoes 40 = .ok (.invokevirtual 201, 3) := by decide +kernel
theorem dX5_yearGoes_43 : decode cX5_yearGoes 43 = .ok (.iastore, 1) := by decide +kernel
theorem dX5_yearGoes_44 : decode cX5_yearGoes 44 = .ok (.iinc 1 1, 3) := by decide +kernel
theorem dX5_yearGoes_47 : decode cX5_yearGoes 47 = .ok (.goto (-41), 3) := by decide +kernel
theorem dX5_yearGoes_50 : decode cX5_yearGoes 50 = .ok (.aload_n 0, 1) := by decide +kernel
theorem dX5_yearGoes_51 : decode cX5_yearGoes 51 = .ok (.getfield 31, 3) := by decide +kernel
theorem dX5_yearGoes_54 : decode cX5_yearGoes 54 = .ok (.bipush 7, 2) := by decide +kernel
theorem dX5_yearGoes_56 : decode cX5_yearGoes 56 = .ok (.dup2, 1) := by decide +kernel
theorem dX5_yearGoes_57 : decode cX5_yearGoes 57 = .ok (.iaload, 1) := by decide +kernel
theorem dX5_yearGoes_58 : decode cX5_yearGoes 58 = .ok (.iconst 1, 1) := by decide +kernel
theorem dX5_yearGoes_59 : decode cX5_yearGoes 59 = .ok (.iadd, 1) := by decide +kernel
theorem dX5_yearGoes_60 : decode cX5_yearGoes 60 = .ok (.iastore, 1) := by decide +kernel
theorem dX5_yearGoes_61 : decode cX5_yearGoes 61 = .ok (.return_, 1) := by decide +kernel
theorem dX5_turned_0 : decode cX5_turned 0 = .ok (.iload_n 1, 1) := by decide +kernel
theorem dX5_turned_1 : decode cX5_turned 1 = .ok (.ifCond .eq 9, 3) := by decide +kernel
theorem dX5_turned_4 : decode cX5_turned 4 = .ok (.iload_n 0, 1) := by decide +kernel
theorem dX5_turned_5 : decode cX5_turned 5 = .ok (.iconst 3, 1) := by decide +kernel
theorem dX5_turned_6 : decode cX5_turned 6 = .ok (.iadd, 1) := by decide +kernel
theorem dX5_turned_7 : decode cX5_turned 7 = .ok (.goto 6, 3) := by decide +kernel
theorem dX5_turned_10 : decode cX5_turned 10 = .ok (.iload_n 0, 1) := by decide +kernel
theorem dX5_turned_11 : decode cX5_turned 11 = .ok (.iconst 2, 1) := by decide +kernel
theorem dX5_turned_12 : decode cX5_turned 12 = .ok (.isub, 1) := by decide +kernel
theorem dX5_turned_13 : decode cX5_turned 13 = .ok (.istore_n 2, 1) := by decide +kernel
theorem dX5_turned_14 : decode cX5_turned 14 = .ok (.iload_n 2, 1) := by decide +kernel
theorem dX5_turned_15 : decode cX5_turned 15 = .ok (.bipush 9, 2) := by decide +kernel
theorem dX5_turned_17 : decode cX5_turned 17 = .ok (.if_icmp .le 8, 3) := by decide +kernel
theorem dX5_turned_20 : decode cX5_turned 20 = .ok (.bipush 9, 2) := by decide +kernel
theorem dX5_turned_22 : decode cX5_turned 22 = .ok (.goto 12, 3) := by decide +kernel
theorem dX5_turned_25 : decode cX5_turned 25 = .ok (.iload_n 2, 1) := by decide +kernel
theorem dX5_turned_26 : decode cX5_turned 26 = .ok (.ifCond .ge 7, 3) := by decide +kernel
theorem dX5_turned_29 : decode cX5_turned 29 = .ok (.iconst 0, 1) := by decide +kernel
theorem dX5_turned_30 : decode cX5_turned 30 = .ok (.goto 4, 3) := by decide +kernel
theorem dX5_turned_33 : decode cX5_turned 33 = .ok (.iload_n 2, 1) := by decide +kernel
theorem dX5_turned_34 : decode cX5_turned 34 = .ok (.ireturn, 1) := by decide +kernel
theorem dX5_turns_0 : decode cX5_turns 0 = .ok (.aload_n 0, 1) := by decide +kernel
theorem dX5_turns_1 : decode cX5_turns 1 = .ok (.invokevirtual 198, 3) := by decide +kernel
theorem dX5_turns_4 : decode cX5_turns 4 = .ok (.aload_n 0, 1) := by decide +kernel
theorem dX5_turns_5 : decode cX5_turns 5 = .ok (.getfield 31, 3) := by decide +kernel
theorem dX5_turns_8 : decode cX5_turns 8 = .ok (.bipush 6, 2) := by decide +kernel
theorem dX5_turns_10 : decode cX5_turns 10 = .ok (.aload_n 0, 1) := by decide +kernel
theorem dX5_turns_11 : decode cX5_turns 11 = .ok (.getfield 31, 3) := by decide +kernel
theorem dX5_turns_14 : decode cX5_turns 14 = .ok (.bipush 6, 2) := by decide +kernel
theorem dX5_turns_16 : decode cX5_turns 16 = .ok (.iaload, 1) := by decide +kernel
theorem dX5_turns_17 : decode cX5_turns 17 = .ok (.iload_n 1, 1) := by decide +kernel
theorem dX5_turns_18 : decode cX5_turns 18 = .ok (.invokestatic 204, 3) := by decide +kernel
theorem dX5_turns_21 : decode cX5_turns 21 = .ok (.iastore, 1) := by decide +kernel
theorem dX5_turns_22 : decode cX5_turns 22 = .ok (.return_, 1) := by decide +kernel
theorem dX5_refuses_0 : decode cX5_refuses 0 = .ok (.aload_n 0, 1) := by decide +kernel
theorem dX5_refuses_1 : decode cX5_refuses 1 = .ok (.getfield 142, 3) := by decide +kernel
theorem dX5_refuses_4 : decode cX5_refuses 4 = .ok (.ifCond .ne 8, 3) := by decide +kernel
theorem dX5_refuses_7 : decode cX5_refuses 7 = .ok (.bipush (-4), 2) := by decide +kernel
theorem dX5_refuses_9 : decode cX5_refuses 9 = .ok (.goto 18, 3) := by decide +kernel
theorem dX5_refuses_12 : decode cX5_refuses 12 = .ok (.aload_n 0, 1) := by decide +kernel
theorem dX5_refuses_13 : decode cX5_refuses 13 = .ok (.getfield 148, 3) := by decide +kernel
theorem dX5_refuses_16 : decode cX5_refuses 16 = .ok (.bipush 40, 2) := by decide +kernel
theorem dX5_refuses_18 : decode cX5_refuses 18 = .ok (.if_icmp .ne 8, 3) := by decide +kernel
theorem dX5_refuses_21 : decode cX5_refuses 21 = .ok (.bipush (-2), 2) := by decide +kernel
theorem dX5_refuses_23 : decode cX5_refuses 23 = .ok (.goto 4, 3) := by decide +kernel
theorem dX5_refuses_26 : decode cX5_refuses 26 = .ok (.iconst 0, 1) := by decide +kernel
theorem dX5_refuses_27 : decode cX5_refuses 27 = .ok (.ireturn, 1) := by decide +kernel
theorem dX5_year_0 : decode cX5_year 0 = .ok (.aload_n 0, 1) := by decide +kernel
theorem dX5_year_1 : decode cX5_year 1 = .ok (.invokevirtual 208, 3) := by decide +kernel
theorem dX5_year_4 : decode cX5_year 4 = .ok (.istore_n 1, 1) := by decide +kernel
theorem dX5_year_5 : decode cX5_year 5 = .ok (.iload_n 1, 1) := by decide +kernel
theorem dX5_year_6 : decode cX5_year 6 = .ok (.ifCond .eq 5, 3) := by decide +kernel
theorem dX5_year_9 : decode cX5_year 9 = .ok (.iload_n 1, 1) := by decide +kernel
theorem dX5_year_10 : decode cX5_year 10 = .ok (.ireturn, 1) := by decide +kernel
theorem dX5_year_11 : decode cX5_year 11 = .ok (.aload_n 0, 1) := by decide +kernel
theorem dX5_year_12 : decode cX5_year 12 = .ok (.invokevirtual 212, 3) := by decide +kernel
theorem dX5_year_15 : decode cX5_year 15 = .ok (.aload_n 0, 1) := by decide +kernel
theorem dX5_year_16 : decode cX5_year 16 = .ok (.getfield 31, 3) := by decide +kernel
theorem dX5_year_19 : decode cX5_year 19 = .ok (.bipush 7, 2) := by decide +kernel
theorem dX5_year_21 : decode cX5_year 21 = .ok (.iaload, 1) := by decide +kernel
theorem dX5_year_22 : decode cX5_year 22 = .ok (.ireturn, 1) := by decide +kernel
theorem dX5_paddle_0 : decode cX5_paddle 0 = .ok (.iload_n 1, 1) := by decide +kernel
theorem dX5_paddle_1 : decode cX5_paddle 1 = .ok (.i2l, 1) := by decide +kernel
theorem dX5_paddle_2 : decode cX5_paddle 2 = .ok (.lconst 0, 1) := by decide +kernel
theorem dX5_paddle_3 : decode cX5_paddle 3 = .ok (.lconst 1, 1) := by decide +kernel
theorem dX5_paddle_4 : decode cX5_paddle 4 = .ok (.invokestatic 84, 3) := by decide +kernel
theorem dX5_paddle_7 : decode cX5_paddle 7 = .ok (.ifCond .ne 5, 3) := by decide +kernel
theorem dX5_paddle_10 : decode cX5_paddle 10 = .ok (.iconst (-1), 1) := by decide +kernel
theorem dX5_paddle_11 : decode cX5_paddle 11 = .ok (.ireturn, 1) := by decide +kernel
theorem dX5_paddle_12 : decode cX5_paddle 12 = .ok (.aload_n 0, 1) := by decide +kernel
theorem dX5_paddle_13 : decode cX5_paddle 13 = .ok (.invokevirtual 208, 3) := by decide +kernel
theorem dX5_paddle_16 : decode cX5_paddle 16 = .ok (.istore_n 2, 1) := by decide +kernel
theorem dX5_paddle_17 : decode cX5_paddle 17 = .ok (.iload_n 2, 1) := by decide +kernel
theorem dX5_paddle_18 : decode cX5_paddle 18 = .ok (.ifCond .eq 5, 3) := by decide +kernel
theorem dX5_paddle_21 : decode cX5_paddle 21 = .ok (.iload_n 2, 1) := by decide +kernel
theorem dX5_paddle_22 : decode cX5_paddle 22 = .ok (.ireturn, 1) := by decide +kernel
theorem dX5_paddle_23 : decode cX5_paddle 23 = .ok (.aload_n 0, 1) := by decide +kernel
theorem dX5_paddle_24 : decode cX5_paddle 24 = .ok (.iload_n 1, 1) := by decide +kernel
theorem dX5_paddle_25 : decode cX5_paddle 25 = .ok (.iconst 1, 1) := by decide +kernel
theorem dX5_paddle_26 : decode cX5_paddle 26 = .ok (.if_icmp .ne 7, 3) := by decide +kernel
theorem dX5_paddle_29 : decode cX5_paddle 29 = .ok (.iconst 1, 1) := by decide +kernel
theorem dX5_paddle_30 : decode cX5_paddle 30 = .ok (.goto 4, 3) := by decide +kernel
theorem dX5_paddle_33 : decode cX5_paddle 33 = .ok (.iconst 0, 1) := by decide +kernel
theorem dX5_paddle_34 : decode cX5_paddle 34 = .ok (.invokevirtual 215, 3) := by decide +kernel
theorem dX5_paddle_37 : decode cX5_paddle 37 = .ok (.aload_n 0, 1) := by decide +kernel
theorem dX5_paddle_38 : decode cX5_paddle 38 = .ok (.getfield 31, 3) := by decide +kernel
theorem dX5_paddle_41 : decode cX5_paddle 41 = .ok (.bipush 6, 2) := by decide +kernel
theorem dX5_paddle_43 : decode cX5_paddle 43 = .ok (.iaload, 1) := by decide +kernel
theorem dX5_paddle_44 : decode cX5_paddle 44 = .ok (.ireturn, 1) := by decide +kernel
theorem dX5_mayMove_0 : decode cX5_mayMove 0 = .ok (.aload_n 0, 1) := by decide +kernel
theorem dX5_mayMove_1 : decode cX5_mayMove 1 = .ok (.iload_n 1, 1) := by decide +kernel
theorem dX5_mayMove_2 : decode cX5_mayMove 2 = .ok (.invokevirtual 179, 3) := by decide +kernel
theorem dX5_mayMove_5 : decode cX5_mayMove 5 = .ok (.ifCond .ne 23, 3) := by decide +kernel
theorem dX5_mayMove_8 : decode cX5_mayMove 8 = .ok (.aload_n 0, 1) := by decide +kernel
theorem dX5_mayMove_9 : decode cX5_mayMove 9 = .ok (.getfield 31, 3) := by decide +kernel
theorem dX5_mayMove_12 : decode cX5_mayMove 12 = .ok (.iconst 0, 1) := by decide +kernel
theorem dX5_mayMove_13 : decode cX5_mayMove 13 = .ok (.iload_n 1, 1) := by decide +kernel
theorem dX5_mayMove_14 : decode cX5_mayMove 14 = .ok (.iadd, 1) := by decide +kernel
theorem dX5_mayMove_15 : decode cX5_mayMove 15 = .ok (.iaload, 1) := by decide +kernel
theorem dX5_mayMove_16 : decode cX5_mayMove 16 = .ok (.iload_n 2, 1) := by decide +kernel
theorem dX5_mayMove_17 : decode cX5_mayMove 17 = .ok (.iadd, 1) := by decide +kernel
theorem dX5_mayMove_18 : decode cX5_mayMove 18 = .ok (.invokestatic 191, 3) := by decide +kernel
theorem dX5_mayMove_21 : decode cX5_mayMove 21 = .ok (.ifCond .eq 7, 3) := by decide +kernel
theorem dX5_mayMove_24 : decode cX5_mayMove 24 = .ok (.iconst 1, 1) := by decide +kernel
theorem dX5_mayMove_25 : decode cX5_mayMove 25 = .ok (.goto 4, 3) := by decide +kernel
theorem dX5_mayMove_28 : decode cX5_mayMove 28 = .ok (.iconst 0, 1) := by decide +kernel
theorem dX5_mayMove_29 : decode cX5_mayMove 29 = .ok (.ireturn, 1) := by decide +kernel
theorem dX5_goes_0 : decode cX5_goes 0 = .ok (.aload_n 0, 1) := by decide +kernel
theorem dX5_goes_1 : decode cX5_goes 1 = .ok (.invokevirtual 198, 3) := by decide +kernel
theorem dX5_goes_4 : decode cX5_goes 4 = .ok (.aload_n 0, 1) := by decide +kernel
theorem dX5_goes_5 : decode cX5_goes 5 = .ok (.getfield 31, 3) := by decide +kernel
theorem dX5_goes_8 : decode cX5_goes 8 = .ok (.iconst 0, 1) := by decide +kernel
theorem dX5_goes_9 : decode cX5_goes 9 = .ok (.iload_n 1, 1) := by decide +kernel
theorem dX5_goes_10 : decode cX5_goes 10 = .ok (.iadd, 1) := by decide +kernel
theorem dX5_goes_11 : decode cX5_goes 11 = .ok (.dup2, 1) := by decide +kernel
theorem dX5_goes_12 : decode cX5_goes 12 = .ok (.iaload, 1) := by decide +kernel
theorem dX5_goes_13 : decode cX5_goes 13 = .ok (.iload_n 2, 1) := by decide +kernel
theorem dX5_goes_14 : decode cX5_goes 14 = .ok (.iadd, 1) := by decide +kernel
theorem dX5_goes_15 : decode cX5_goes 15 = .ok (.iastore, 1) := by decide +kernel
theorem dX5_goes_16 : decode cX5_goes 16 = .ok (.return_, 1) := by decide +kernel
theorem dX5_move_0 : decode cX5_move 0 = .ok (.aload_n 0, 1) := by decide +kernel
theorem dX5_move_1 : decode cX5_move 1 = .ok (.iload_n 1, 1) := by decide +kernel
theorem dX5_move_2 : decode cX5_move 2 = .ok (.invokevirtual 167, 3) := by decide +kernel
theorem dX5_move_5 : decode cX5_move 5 = .ok (.ifCond .eq 13, 3) := by decide +kernel
theorem dX5_move_8 : decode cX5_move 8 = .ok (.iload_n 2, 1) := by decide +kernel
theorem dX5_move_9 : decode cX5_move 9 = .ok (.iconst 1, 1) := by decide +kernel
theorem dX5_move_10 : decode cX5_move 10 = .ok (.if_icmp .eq 10, 3) := by decide +kernel
theorem dX5_move_13 : decode cX5_move 13 = .ok (.iload_n 2, 1) := by decide +kernel
theorem dX5_move_14 : decode cX5_move 14 = .ok (.iconst (-1), 1) := by decide +kernel
theorem dX5_move_15 : decode cX5_move 15 = .ok (.if_icmp .eq 5, 3) := by decide +kernel
theorem dX5_move_18 : decode cX5_move 18 = .ok (.iconst (-1), 1) := by decide +kernel
theorem dX5_move_19 : decode cX5_move 19 = .ok (.ireturn, 1) := by decide +kernel
theorem dX5_move_20 : decode cX5_move 20 = .ok (.aload_n 0, 1) := by decide +kernel
theorem dX5_move_21 : decode cX5_move 21 = .ok (.iload_n 1, 1) := by decide +kernel
theorem dX5_move_22 : decode cX5_move 22 = .ok (.iload_n 2, 1) := by decide +kernel
theorem dX5_move_23 : decode cX5_move 23 = .ok (.invokevirtual 219, 3) := by decide +kernel
theorem dX5_move_26 : decode cX5_move 26 = .ok (.ifCond .ne 6, 3) := by decide +kernel
theorem dX5_move_29 : decode cX5_move 29 = .ok (.bipush (-4), 2) := by decide +kernel
theorem dX5_move_31 : decode cX5_move 31 = .ok (.ireturn, 1) := by decide +kernel
theorem dX5_move_32 : decode cX5_move 32 = .ok (.aload_n 0, 1) := by decide +kernel
theorem dX5_move_33 : decode cX5_move 33 = .ok (.getfield 148, 3) := by decide +kernel
theorem dX5_move_36 : decode cX5_move 36 = .ok (.bipush 40, 2) := by decide +kernel
theorem dX5_move_38 : decode cX5_move 38 = .ok (.if_icmp .ne 6, 3) := by decide +kernel
theorem dX5_move_41 : decode cX5_move 41 = .ok (.bipush (-2), 2) := by decide +kernel
theorem dX5_move_43 : decode cX5_move 43 = .ok (.ireturn, 1) := by decide +kernel
theorem dX5_move_44 : decode cX5_move 44 = .ok (.aload_n 0, 1) := by decide +kernel
theorem dX5_move_45 : decode cX5_move 45 = .ok (.iload_n 1, 1) := by decide +kernel
theorem dX5_move_46 : decode cX5_move 46 = .ok (.iload_n 2, 1) := by decide +kernel
theorem dX5_move_47 : decode cX5_move 47 = .ok (.invokevirtual 222, 3) := by decide +kernel
theorem dX5_move_50 : decode cX5_move 50 = .ok (.aload_n 0, 1) := by decide +kernel
theorem dX5_move_51 : decode cX5_move 51 = .ok (.getfield 31, 3) := by decide +kernel
theorem dX5_move_54 : decode cX5_move 54 = .ok (.iconst 0, 1) := by decide +kernel
theorem dX5_move_55 : decode cX5_move 55 = .ok (.iload_n 1, 1) := by decide +kernel
theorem dX5_move_56 : decode cX5_move 56 = .ok (.iadd, 1) := by decide +kernel
theorem dX5_move_57 : decode cX5_move 57 = .ok (.iaload, 1) := by decide +kernel
theorem dX5_move_58 : decode cX5_move 58 = .ok (.ireturn, 1) := by decide +kernel
theorem dX5_mayTake_0 : decode cX5_mayTake 0 = .ok (.aload_n 0, 1) := by decide +kernel
theorem dX5_mayTake_1 : decode cX5_mayTake 1 = .ok (.iload_n 1, 1) := by decide +kernel
theorem dX5_mayTake_2 : decode cX5_mayTake 2 = .ok (.invokevirtual 179, 3) := by decide +kernel
theorem dX5_mayTake_5 : decode cX5_mayTake 5 = .ok (.ifCond .ne 17, 3) := by decide +kernel
theorem dX5_mayTake_8 : decode cX5_mayTake 8 = .ok (.aload_n 0, 1) := by decide +kernel
theorem dX5_mayTake_9 : decode cX5_mayTake 9 = .ok (.getfield 31, 3) := by decide +kernel
theorem dX5_mayTake_12 : decode cX5_mayTake 12 = .ok (.bipush 6, 2) := by decide +kernel
theorem dX5_mayTake_14 : decode cX5_mayTake 14 = .ok (.iaload, 1) := by decide +kernel
theorem dX5_mayTake_15 : decode cX5_mayTake 15 = .ok (.ifCond .ne 7, 3) := by decide +kernel
theorem dX5_mayTake_18 : decode cX5_mayTake 18 = .ok (.iconst 1, 1) := by decide +kernel
theorem dX5_mayTake_19 : decode cX5_mayTake 19 = .ok (.goto 4, 3) := by decide +kernel
theorem dX5_mayTake_22 : decode cX5_mayTake 22 = .ok (.iconst 0, 1) := by decide +kernel
theorem dX5_mayTake_23 : decode cX5_mayTake 23 = .ok (.ireturn, 1) := by decide +kernel
theorem dX5_takesHome_0 : decode cX5_takesHome 0 = .ok (.aload_n 0, 1) := by decide +kernel
theorem dX5_takesHome_1 : decode cX5_takesHome 1 = .ok (.invokevirtual 198, 3) := by decide +kernel
theorem dX5_takesHome_4 : decode cX5_takesHome 4 = .ok (.aload_n 0, 1) := by decide +kernel
theorem dX5_takesHome_5 : decode cX5_takesHome 5 = .ok (.getfield 31, 3) := by decide +kernel
theorem dX5_takesHome_8 : decode cX5_takesHome 8 = .ok (.iconst 0, 1) := by decide +kernel
theorem dX5_takesHome_9 : decode cX5_takesHome 9 = .ok (.iload_n 1, 1) := by decide +kernel
theorem dX5_takesHome_10 : decode cX5_takesHome 10 = .ok (.iadd, 1) := by decide +kernel
theorem dX5_takesHome_11 : decode cX5_takesHome 11 = .ok (.bipush (-9), 2) := by decide +kernel
theorem dX5_takesHome_13 : decode cX5_takesHome 13 = .ok (.iastore, 1) := by decide +kernel
theorem dX5_takesHome_14 : decode cX5_takesHome 14 = .ok (.return_, 1) := by decide +kernel
theorem dX5_take_0 : decode cX5_take 0 = .ok (.aload_n 0, 1) := by decide +kernel
theorem dX5_take_1 : decode cX5_take 1 = .ok (.iload_n 1, 1) := by decide +kernel
theorem dX5_take_2 : decode cX5_take 2 = .ok (.invokevirtual 167, 3) := by decide +kernel
theorem dX5_take_5 : decode cX5_take 5 = .ok (.ifCond .ne 5, 3) := by decide +kernel
theorem dX5_take_8 : decode cX5_take 8 = .ok (.iconst (-1), 1) := by decide +kernel
theorem dX5_take_9 : decode cX5_take 9 = .ok (.ireturn, 1) := by decide +kernel
theorem dX5_take_10 : decode cX5_take 10 = .ok (.aload_n 0, 1) := by decide +kernel
theorem dX5_take_11 : decode cX5_take 11 = .ok (.iload_n 1, 1) := by decide +kernel
theorem dX5_take_12 : decode cX5_take 12 = .ok (.invokevirtual 226, 3) := by decide +kernel
theorem dX5_take_15 : decode cX5_take 15 = .ok (.ifCond .ne 6, 3) := by decide +kernel
theorem dX5_take_18 : decode cX5_take 18 = .ok (.bipush (-4), 2) := by decide +kernel
theorem dX5_take_20 : decode cX5_take 20 = .ok (.ireturn, 1) := by decide +kernel
theorem dX5_take_21 : decode cX5_take 21 = .ok (.aload_n 0, 1) := by decide +kernel
theorem dX5_take_22 : decode cX5_take 22 = .ok (.getfield 148, 3) := by decide +kernel
theorem dX5_take_25 : decode cX5_take 25 = .ok (.bipush 40, 2) := by decide +kernel
theorem dX5_take_27 : decode cX5_take 27 = .ok (.if_icmp .ne 6, 3) := by decide +kernel
theorem dX5_take_30 : decode cX5_take 30 = .ok (.bipush (-2), 2) := by decide +kernel
theorem dX5_take_32 : decode cX5_take 32 = .ok (.ireturn, 1) := by decide +kernel
theorem dX5_take_33 : decode cX5_take 33 = .ok (.aload_n 0, 1) := by decide +kernel
theorem dX5_take_34 : decode cX5_take 34 = .ok (.getfield 31, 3) := by decide +kernel
theorem dX5_take_37 : decode cX5_take 37 = .ok (.iconst 0, 1) := by decide +kernel
theorem dX5_take_38 : decode cX5_take 38 = .ok (.iload_n 1, 1) := by decide +kernel
theorem dX5_take_39 : decode cX5_take 39 = .ok (.iadd, 1) := by decide +kernel
theorem dX5_take_40 : decode cX5_take 40 = .ok (.iaload, 1) := by decide +kernel
theorem dX5_take_41 : decode cX5_take 41 = .ok (.aload_n 0, 1) := by decide +kernel
theorem dX5_take_42 : decode cX5_take 42 = .ok (.getfield 28, 3) := by decide +kernel
theorem dX5_take_45 : decode cX5_take 45 = .ok (.iload_n 1, 1) := by decide +kernel
theorem dX5_take_46 : decode cX5_take 46 = .ok (.iaload, 1) := by decide +kernel
theorem dX5_take_47 : decode cX5_take 47 = .ok (.isub, 1) := by decide +kernel
theorem dX5_take_48 : decode cX5_take 48 = .ok (.invokestatic 229, 3) := by decide +kernel
theorem dX5_take_51 : decode cX5_take 51 = .ok (.istore_n 2, 1) := by decide +kernel
theorem dX5_take_52 : decode cX5_take 52 = .ok (.aload_n 0, 1) := by decide +kernel
theorem dX5_take_53 : decode cX5_take 53 = .ok (.iload_n 1, 1) := by decide +kernel
theorem dX5_take_54 : decode cX5_take 54 = .ok (.invokevirtual 232, 3) := by decide +kernel
theorem dX5_take_57 : decode cX5_take 57 = .ok (.iload_n 2, 1) := by decide +kernel
theorem dX5_take_58 : decode cX5_take 58 = .ok (.ireturn, 1) := by decide +kernel
theorem dX5_undo_0 : decode cX5_undo 0 = .ok (.iload_n 1, 1) := by decide +kernel
theorem dX5_undo_1 : decode cX5_undo 1 = .ok (.i2l, 1) := by decide +kernel
theorem dX5_undo_2 : decode cX5_undo 2 = .ok (.lconst 0, 1) := by decide +kernel
theorem dX5_undo_3 : decode cX5_undo 3 = .ok (.aload_n 0, 1) := by decide +kernel
theorem dX5_undo_4 : decode cX5_undo 4 = .ok (.getfield 148, 3) := by decide +kernel
theorem dX5_undo_7 : decode cX5_undo 7 = .ok (.i2l, 1) := by decide +kernel
theorem dX5_undo_8 : decode cX5_undo 8 = .ok (.invokestatic 84, 3) := by decide +kernel
theorem dX5_undo_11 : decode cX5_undo 11 = .ok (.ifCond .ne 5, 3) := by decide +kernel
theorem dX5_undo_14 : decode cX5_undo 14 = .ok (.iconst (-1), 1) := by decide +kernel
theorem dX5_undo_15 : decode cX5_undo 15 = .ok (.ireturn, 1) := by decide +kernel
theorem dX5_undo_16 : decode cX5_undo 16 = .ok (.aload_n 0, 1) := by decide +kernel
theorem dX5_undo_17 : decode cX5_undo 17 = .ok (.getfield 148, 3) := by decide +kernel
theorem dX5_undo_20 : decode cX5_undo 20 = .ok (.iload_n 1, 1) := by decide +kernel
theorem dX5_undo_21 : decode cX5_undo 21 = .ok (.isub, 1) := by decide +kernel
theorem dX5_undo_22 : decode cX5_undo 22 = .ok (.istore_n 2, 1) := by decide +kernel
theorem dX5_undo_23 : decode cX5_undo 23 = .ok (.iload_n 2, 1) := by decide +kernel
theorem dX5_undo_24 : decode cX5_undo 24 = .ok (.ifCond .le 21, 3) := by decide +kernel
theorem dX5_undo_27 : decode cX5_undo 27 = .ok (.aload_n 0, 1) := by decide +kernel
theorem dX5_undo_28 : decode cX5_undo 28 = .ok (.getfield 34, 3) := by decide +kernel
theorem dX5_undo_31 : decode cX5_undo 31 = .ok (.bipush 8, 2) := by decide +kernel
theorem dX5_undo_33 : decode cX5_undo 33 = .ok (.iload_n 1, 1) := by decide +kernel
theorem dX5_undo_34 : decode cX5_undo 34 = .ok (.imul, 1) := by decide +kernel
theorem dX5_undo_35 : decode cX5_undo 35 = .ok (.aload_n 0, 1) := by decide +kernel
theorem dX5_undo_36 : decode cX5_undo 36 = .ok (.getfield 31, 3) := by decide +kernel
theorem dX5_undo_39 : decode cX5_undo 39 = .ok (.iconst 0, 1) := by decide +kernel
theorem dX5_undo_40 : decode cX5_undo 40 = .ok (.bipush 8, 2) := by decide +kernel
theorem dX5_undo_42 : decode cX5_undo 42 = .ok (.invokestatic 194, 3) := by decide +kernel
theorem dX5_undo_45 : decode cX5_undo 45 = .ok (.aload_n 0, 1) := by decide +kernel
theorem dX5_undo_46 : decode cX5_undo 46 = .ok (.iload_n 1, 1) := by decide +kernel
theorem dX5_undo_47 : decode cX5_undo 47 = .ok (.putfield 148, 3) := by decide +kernel
theorem dX5_undo_50 : decode cX5_undo 50 = .ok (.iload_n 2, 1) := by decide +kernel
theorem dX5_undo_51 : decode cX5_undo 51 = .ok (.ireturn, 1) := by decide +kernel
theorem dX5_keep_0 : decode cX5_keep 0 = .ok (.iload_n 1, 1) := by decide +kernel
theorem dX5_keep_1 : decode cX5_keep 1 = .ok (.i2l, 1) := by decide +kernel
theorem dX5_keep_2 : decode cX5_keep 2 = .ok (.lconst 0, 1) := by decide +kernel
theorem dX5_keep_3 : decode cX5_keep 3 = .ok (.ldc2_w 235, 3) := by decide +kernel
theorem dX5_keep_6 : decode cX5_keep 6 = .ok (.invokestatic 84, 3) := by decide +kernel
theorem dX5_keep_9 : decode cX5_keep 9 = .ok (.ifCond .ne 5, 3) := by decide +kernel
theorem dX5_keep_12 : decode cX5_keep 12 = .ok (.iconst (-1), 1) := by decide +kernel
theorem dX5_keep_13 : decode cX5_keep 13 = .ok (.ireturn, 1) := by decide +kernel
theorem dX5_keep_14 : decode cX5_keep 14 = .ok (.aload_n 0, 1) := by decide +kernel
theorem dX5_keep_15 : decode cX5_keep 15 = .ok (.getfield 142, 3) := by decide +kernel
theorem dX5_keep_18 : decode cX5_keep 18 = .ok (.ifCond .ne 6, 3) := by decide +kernel
theorem dX5_keep_21 : decode cX5_keep 21 = .ok (.bipush (-4), 2) := by decide +kernel
theorem dX5_keep_23 : decode cX5_keep 23 = .ok (.ireturn, 1) := by decide +kernel
theorem dX5_keep_24 : decode cX5_keep 24 = .ok (.aload_n 0, 1) := by decide +kernel
theorem dX5_keep_25 : decode cX5_keep 25 = .ok (.getfield 31, 3) := by decide +kernel
theorem dX5_keep_28 : decode cX5_keep 28 = .ok (.iconst 0, 1) := by decide +kernel
theorem dX5_keep_29 : decode cX5_keep 29 = .ok (.aload_n 0, 1) := by decide +kernel
theorem dX5_keep_30 : decode cX5_keep 30 = .ok (.getfield 37, 3) := by decide +kernel
theorem dX5_keep_33 : decode cX5_keep 33 = .ok (.sipush 329, 3) := by decide +kernel
theorem dX5_keep_36 : decode cX5_keep 36 = .ok (.iload_n 1, 1) := by decide +kernel
theorem dX5_keep_37 : decode cX5_keep 37 = .ok (.imul, 1) := by decide +kernel
theorem dX5_keep_38 : decode cX5_keep 38 = .ok (.bipush 8, 2) := by decide +kernel
theorem dX5_keep_40 : decode cX5_keep 40 = .ok (.invokestatic 194, 3) := by decide +kernel
theorem dX5_keep_43 : decode cX5_keep 43 = .ok (.aload_n 0, 1) := by decide +kernel
theorem dX5_keep_44 : decode cX5_keep 44 = .ok (.getfield 34, 3) := by decide +kernel
theorem dX5_keep_47 : decode cX5_keep 47 = .ok (.iconst 0, 1) := by decide +kernel
theorem dX5_keep_48 : decode cX5_keep 48 = .ok (.aload_n 0, 1) := by decide +kernel
theorem dX5_keep_49 : decode cX5_keep 49 = .ok (.getfield 37, 3) := by decide +kernel
theorem dX5_keep_52 : decode cX5_keep 52 = .ok (.sipush 329, 3) := by decide +kernel
theorem dX5_keep_55 : decode cX5_keep 55 = .ok (.iload_n 1, 1) := by decide +kernel
theorem dX5_keep_56 : decode cX5_keep 56 = .ok (.imul, 1) := by decide +kernel
theorem dX5_keep_57 : decode cX5_keep 57 = .ok (.bipush 8, 2) := by decide +kernel
theorem dX5_keep_59 : decode cX5_keep 59 = .ok (.iadd, 1) := by decide +kernel
theorem dX5_keep_60 : decode cX5_keep 60 = .ok (.sipush 320, 3) := by decide +kernel
theorem dX5_keep_63 : decode cX5_keep 63 = .ok (.invokestatic 194, 3) := by decide +kernel
theorem dX5_keep_66 : decode cX5_keep 66 = .ok (.aload_n 0, 1) := by decide +kernel
theorem dX5_keep_67 : decode cX5_keep 67 = .ok (.getfield 37, 3) := by decide +kernel
theorem dX5_keep_70 : decode cX5_keep 70 = .ok (.sipush 329, 3) := by decide +kernel
theorem dX5_keep_73 : decode cX5_keep 73 = .ok (.iload_n 1, 1) := by decide +kernel
theorem dX5_keep_74 : decode cX5_keep 74 = .ok (.imul, 1) := by decide +kernel
theorem dX5_keep_75 : decode cX5_keep 75 = .ok (.sipush 328, 3) := by decide +kernel
theorem dX5_keep_78 : decode cX5_keep 78 = .ok (.iadd, 1) := by decide +kernel
theorem dX5_keep_79 : decode cX5_keep 79 = .ok (.aload_n 0, 1) := by decide +kernel
theorem dX5_keep_80 : decode cX5_keep 80 = .ok (.getfield 148, 3) := by decide +kernel
theorem dX5_keep_83 : decode cX5_keep 83 = .ok (.iastore, 1) := by decide +kernel
theorem dX5_keep_84 : decode cX5_keep 84 = .ok (.aload_n 0, 1) := by decide +kernel
theorem dX5_keep_85 : decode cX5_keep 85 = .ok (.getfield 40, 3) := by decide +kernel
theorem dX5_keep_88 : decode cX5_keep 88 = .ok (.iload_n 1, 1) := by decide +kernel
theorem dX5_keep_89 : decode cX5_keep 89 = .ok (.iconst 1, 1) := by decide +kernel
theorem dX5_keep_90 : decode cX5_keep 90 = .ok (.bastore, 1) := by decide +kernel
theorem dX5_keep_91 : decode cX5_keep 91 = .ok (.aload_n 0, 1) := by decide +kernel
theorem dX5_keep_92 : decode cX5_keep 92 = .ok (.getfield 148, 3) := by decide +kernel
theorem dX5_keep_95 : decode cX5_keep 95 = .ok (.ireturn, 1) := by decide +kernel
theorem dX5_on_0 : decode cX5_on 0 = .ok (.iload_n 1, 1) := by decide +kernel
theorem dX5_on_1 : decode cX5_on 1 = .ok (.i2l, 1) := by decide +kernel
theorem dX5_on_2 : decode cX5_on 2 = .ok (.lconst 0, 1) := by decide +kernel
theorem dX5_on_3 : decode cX5_on 3 = .ok (.ldc2_w 235, 3) := by decide +kernel
theorem dX5_on_6 : decode cX5_on 6 = .ok (.invokestatic 84, 3) := by decide +kernel
theorem dX5_on_9 : decode cX5_on 9 = .ok (.ifCond .ne 5, 3) := by decide +kernel
theorem dX5_on_12 : decode cX5_on 12 = .ok (.iconst (-1), 1) := by decide +kernel
theorem dX5_on_13 : decode cX5_on 13 = .ok (.ireturn, 1) := by decide +kernel
theorem dX5_on_14 : decode cX5_on 14 = .ok (.aload_n 0, 1) := by decide +kernel
theorem dX5_on_15 : decode cX5_on 15 = .ok (.getfield 40, 3) := by decide +kernel
theorem dX5_on_18 : decode cX5_on 18 = .ok (.iload_n 1, 1) := by decide +kernel
theorem dX5_on_19 : decode cX5_on 19 = .ok (.baload, 1) := by decide +kernel
theorem dX5_on_20 : decode cX5_on 20 = .ok (.ifCond .ne 9, 3) := by decide +kernel
theorem dX5_on_23 : decode cX5_on 23 = .ok (.aload_n 0, 1) := by decide +kernel
theorem dX5_on_24 : decode cX5_on 24 = .ok (.iconst 1, 1) := by decide +kernel
theorem dX5_on_25 : decode cX5_on 25 = .ok (.invokevirtual 94, 3) := by decide +kernel
theorem dX5_on_28 : decode cX5_on 28 = .ok (.ireturn, 1) := by decide +kernel
theorem dX5_on_29 : decode cX5_on 29 = .ok (.aload_n 0, 1) := by decide +kernel
theorem dX5_on_30 : decode cX5_on 30 = .ok (.getfield 37, 3) := by decide +kernel
theorem dX5_on_33 : decode cX5_on 33 = .ok (.sipush 329, 3) := by decide +kernel
theorem dX5_on_36 : decode cX5_on 36 = .ok (.iload_n 1, 1) := by decide +kernel
theorem dX5_on_37 : decode cX5_on 37 = .ok (.imul, 1) := by decide +kernel
theorem dX5_on_38 : decode cX5_on 38 = .ok (.aload_n 0, 1) := by decide +kernel
theorem dX5_on_39 : decode cX5_on 39 = .ok (.getfield 31, 3) := by decide +kernel
theorem dX5_on_42 : decode cX5_on 42 = .ok (.iconst 0, 1) := by decide +kernel
theorem dX5_on_43 : decode cX5_on 43 = .ok (.bipush 8, 2) := by decide +kernel
theorem dX5_on_45 : decode cX5_on 45 = .ok (.invokestatic 194, 3) := by decide +kernel
theorem dX5_on_48 : decode cX5_on 48 = .ok (.aload_n 0, 1) := by decide +kernel
theorem dX5_on_49 : decode cX5_on 49 = .ok (.getfield 37, 3) := by decide +kernel
theorem dX5_on_52 : decode cX5_on 52 = .ok (.sipush 329, 3) := by decide +kernel
theorem dX5_on_55 : decode cX5_on 55 = .ok (.iload_n 1, 1) := by decide +kernel
theorem dX5_on_56 : decode cX5_on 56 = .ok (.imul, 1) := by decide +kernel
theorem dX5_on_57 : decode cX5_on 57 = .ok (.bipush 8, 2) := by decide +kernel
theorem dX5_on_59 : decode cX5_on 59 = .ok (.iadd, 1) := by decide +kernel
theorem dX5_on_60 : decode cX5_on 60 = .ok (.aload_n 0, 1) := by decide +kernel
theorem dX5_on_61 : decode cX5_on 61 = .ok (.getfield 34, 3) := by decide +kernel
theorem dX5_on_64 : decode cX5_on 64 = .ok (.iconst 0, 1) := by decide +kernel
theorem dX5_on_65 : decode cX5_on 65 = .ok (.sipush 320, 3) := by decide +kernel
theorem dX5_on_68 : decode cX5_on 68 = .ok (.invokestatic 194, 3) := by decide +kernel
theorem dX5_on_71 : decode cX5_on 71 = .ok (.aload_n 0, 1) := by decide +kernel
theorem dX5_on_72 : decode cX5_on 72 = .ok (.aload_n 0, 1) := by decide +kernel
theorem dX5_on_73 : decode cX5_on 73 = .ok (.getfield 37, 3) := by decide +kernel
theorem dX5_on_76 : decode cX5_on 76 = .ok (.sipush 329, 3) := by decide +kernel
theorem dX5_on_79 : decode cX5_on 79 = .ok (.iload_n 1, 1) := by decide +kernel
theorem dX5_on_80 : decode cX5_on 80 = .ok (.imul, 1) := by decide +kernel
theorem dX5_on_81 : decode cX5_on 81 = .ok (.sipush 328, 3) := by decide +kernel
theorem dX5_on_84 : decode cX5_on 84 = .ok (.iadd, 1) := by decide +kernel
theorem dX5_on_85 : decode cX5_on 85 = .ok (.iaload, 1) := by decide +kernel
theorem dX5_on_86 : decode cX5_on 86 = .ok (.putfield 148, 3) := by decide +kernel
theorem dX5_on_89 : decode cX5_on 89 = .ok (.aload_n 0, 1) := by decide +kernel
theorem dX5_on_90 : decode cX5_on 90 = .ok (.getfield 148, 3) := by decide +kernel
theorem dX5_on_93 : decode cX5_on 93 = .ok (.ireturn, 1) := by decide +kernel
theorem dX5_lies_0 : decode cX5_lies 0 = .ok (.aload_n 0, 1) := by decide +kernel
theorem dX5_lies_1 : decode cX5_lies 1 = .ok (.iload_n 1, 1) := by decide +kernel
theorem dX5_lies_2 : decode cX5_lies 2 = .ok (.invokevirtual 167, 3) := by decide +kernel
theorem dX5_lies_5 : decode cX5_lies 5 = .ok (.ifCond .eq 15, 3) := by decide +kernel
theorem dX5_lies_8 : decode cX5_lies 8 = .ok (.iload_n 2, 1) := by decide +kernel
theorem dX5_lies_9 : decode cX5_lies 9 = .ok (.i2l, 1) := by decide +kernel
theorem dX5_lies_10 : decode cX5_lies 10 = .ok (.lconst 0, 1) := by decide +kernel
theorem dX5_lies_11 : decode cX5_lies 11 = .ok (.ldc2_w 237, 3) := by decide +kernel
theorem dX5_lies_14 : decode cX5_lies 14 = .ok (.invokestatic 84, 3) := by decide +kernel
theorem dX5_lies_17 : decode cX5_lies 17 = .ok (.ifCond .ne 5, 3) := by decide +kernel
theorem dX5_lies_20 : decode cX5_lies 20 = .ok (.iconst (-1), 1) := by decide +kernel
theorem dX5_lies_21 : decode cX5_lies 21 = .ok (.ireturn, 1) := by decide +kernel
theorem dX5_lies_22 : decode cX5_lies 22 = .ok (.aload_n 0, 1) := by decide +kernel
theorem dX5_lies_23 : decode cX5_lies 23 = .ok (.iload_n 1, 1) := by decide +kernel
theorem dX5_lies_24 : decode cX5_lies 24 = .ok (.invokevirtual 179, 3) := by decide +kernel
theorem dX5_lies_27 : decode cX5_lies 27 = .ok (.ifCond .eq 8, 3) := by decide +kernel
theorem dX5_lies_30 : decode cX5_lies 30 = .ok (.bipush (-4), 2) := by decide +kernel
theorem dX5_lies_32 : decode cX5_lies 32 = .ok (.goto 17, 3) := by decide +kernel
theorem dX5_lies_35 : decode cX5_lies 35 = .ok (.aload_n 0, 1) := by decide +kernel
theorem dX5_lies_36 : decode cX5_lies 36 = .ok (.iload_n 1, 1) := by decide +kernel
theorem dX5_lies_37 : decode cX5_lies 37 = .ok (.aload_n 0, 1) := by decide +kernel
theorem dX5_lies_38 : decode cX5_lies 38 = .ok (.getfield 31, 3) := by decide +kernel
theorem dX5_lies_41 : decode cX5_lies 41 = .ok (.iconst 0, 1) := by decide +kernel
theorem dX5_lies_42 : decode cX5_lies 42 = .ok (.iload_n 1, 1) := by decide +kernel
theorem dX5_lies_43 : decode cX5_lies 43 = .ok (.iadd, 1) := by decide +kernel
theorem dX5_lies_44 : decode cX5_lies 44 = .ok (.iaload, 1) := by decide +kernel
theorem dX5_lies_45 : decode cX5_lies 45 = .ok (.iload_n 2, 1) := by decide +kernel
theorem dX5_lies_46 : decode cX5_lies 46 = .ok (.invokevirtual 201, 3) := by decide +kernel
theorem dX5_lies_49 : decode cX5_lies 49 = .ok (.ireturn, 1) := by decide +kernel
theorem dX5_three_0 : decode cX5_three 0 = .ok (.aload_n 0, 1) := by decide +kernel
theorem dX5_three_1 : decode cX5_three 1 = .ok (.getfield 142, 3) := by decide +kernel
theorem dX5_three_4 : decode cX5_three 4 = .ok (.ifCond .ne 6, 3) := by decide +kernel
theorem dX5_three_7 : decode cX5_three 7 = .ok (.bipush (-4), 2) := by decide +kernel
theorem dX5_three_9 : decode cX5_three 9 = .ok (.ireturn, 1) := by decide +kernel
theorem dX5_three_10 : decode cX5_three 10 = .ok (.iconst 0, 1) := by decide +kernel
theorem dX5_three_11 : decode cX5_three 11 = .ok (.istore_n 1, 1) := by decide +kernel
theorem dX5_three_12 : decode cX5_three 12 = .ok (.iload_n 1, 1) := by decide +kernel
theorem dX5_three_13 : decode cX5_three 13 = .ok (.bipush 61, 2) := by decide +kernel
theorem dX5_three_15 : decode cX5_three 15 = .ok (.if_icmp .ge 92, 3) := by decide +kernel
theorem dX5_three_18 : decode cX5_three 18 = .ok (.iconst 0, 1) := by decide +kernel
theorem dX5_three_19 : decode cX5_three 19 = .ok (.istore_n 2, 1) := by decide +kernel
theorem dX5_three_20 : decode cX5_three 20 = .ok (.iload_n 2, 1) := by decide +kernel
theorem dX5_three_21 : decode cX5_three 21 = .ok (.bipush 8, 2) := by decide +kernel
theorem dX5_three_23 : decode cX5_three 23 = .ok (.if_icmp .ge 78, 3) := by decide +kernel
theorem dX5_three_26 : decode cX5_three 26 = .ok (.iconst 0, 1) := by decide +kernel
theorem dX5_three_27 : decode cX5_three 27 = .ok (.istore_n 3, 1) := by decide +kernel
theorem dX5_three_28 : decode cX5_three 28 = .ok (.iconst 0, 1) := by decide +kernel
theorem dX5_three_29 : decode cX5_three 29 = .ok (.istore 4, 2) := by decide +kernel
theorem dX5_three_31 : decode cX5_three 31 = .ok (.iload 4, 2) := by decide +kernel
theorem dX5_three_33 : decode cX5_three 33 = .ok (.aload_n 0, 1) := by decide +kernel
theorem dX5_three_34 : decode cX5_three 34 = .ok (.getfield 142, 3) := by decide +kernel
theorem dX5_three_37 : decode cX5_three 37 = .ok (.if_icmp .ge 46, 3) := by decide +kernel
theorem dX5_three_40 : decode cX5_three 40 = .ok (.iload_n 3, 1) := by decide +kernel
theorem dX5_three_41 : decode cX5_three 41 = .ok (.aload_n 0, 1) := by decide +kernel
theorem dX5_three_42 : decode cX5_three 42 = .ok (.iload 4, 2) := by decide +kernel
theorem dX5_three_44 : decode cX5_three 44 = .ok (.invokevirtual 179, 3) := by decide +kernel
theorem dX5_three_47 : decode cX5_three 47 = .ok (.ifCond .ne 27, 3) := by decide +kernel
theorem dX5_three_50 : decode cX5_three 50 = .ok (.aload_n 0, 1) := by decide +kernel
theorem dX5_three_51 : decode cX5_three 51 = .ok (.iload 4, 2) := by decide +kernel
theorem dX5_three_53 : decode cX5_three 53 = .ok (.aload_n 0, 1) := by decide +kernel
theorem dX5_three_54 : decode cX5_three 54 = .ok (.getfield 31, 3) := by decide +kernel
theorem dX5_three_57 : decode cX5_three 57 = .ok (.iconst 0, 1) := by decide +kernel
theorem dX5_three_58 : decode cX5_three 58 = .ok (.iload 4, 2) := by decide +kernel
theorem dX5_three_60 : decode cX5_three 60 = .ok (.iadd, 1) := by decide +kernel
theorem dX5_three_61 : decode cX5_three 61 = .ok (.iaload, 1) := by decide +kernel
theorem dX5_three_62 : decode cX5_three 62 = .ok (.iload_n 1, 1) := by decide +kernel
theorem dX5_three_63 : decode cX5_three 63 = .ok (.invokevirtual 201, 3) := by decide +kernel
theorem dX5_three_66 : decode cX5_three 66 = .ok (.iload_n 2, 1) := by decide +kernel
theorem dX5_three_67 : decode cX5_three 67 = .ok (.if_icmp .ne 7, 3) := by decide +kernel
theorem dX5_three_70 : decode cX5_three 70 = .ok (.iconst 1, 1) := by decide +kernel
theorem dX5_three_71 : decode cX5_three 71 = .ok (.goto 4, 3) := by decide +kernel
theorem dX5_three_74 : decode cX5_three 74 = .ok (.iconst 0, 1) := by decide +kernel
theorem dX5_three_75 : decode cX5_three 75 = .ok (.iadd, 1) := by decide +kernel
theorem dX5_three_76 : decode cX5_three 76 = .ok (.istore_n 3, 1) := by decide +kernel
theorem dX5_three_77 : decode cX5_three 77 = .ok (.iinc 4 1, 3) := by decide +kernel
theorem dX5_three_80 : decode cX5_three 80 = .ok (.goto (-49), 3) := by decide +kernel
theorem dX5_three_83 : decode cX5_three 83 = .ok (.iload_n 3, 1) := by decide +kernel
theorem dX5_three_84 : decode cX5_three 84 = .ok (.iconst 2, 1) := by decide +kernel
theorem dX5_three_85 : decode cX5_three 85 = .ok (.if_icmp .le 10, 3) := by decide +kernel
theorem dX5_three_88 : decode cX5_three 88 = .ok (.aload_n 0, 1) := by decide +kernel
theorem dX5_three_89 : decode cX5_three 89 = .ok (.iload_n 1, 1) := by decide +kernel
theorem dX5_three_90 : decode cX5_three 90 = .ok (.iload_n 2, 1) := by decide +kernel
theorem dX5_three_91 : decode cX5_three 91 = .ok (.invokevirtual 239, 3) := by decide +kernel
theorem dX5_three_94 : decode cX5_three 94 = .ok (.ireturn, 1) := by decide +kernel
theorem dX5_three_95 : decode cX5_three 95 = .ok (.iinc 2 1, 3) := by decide +kernel
theorem dX5_three_98 : decode cX5_three 98 = .ok (.goto (-78), 3) := by decide +kernel
theorem dX5_three_101 : decode cX5_three 101 = .ok (.iinc 1 1, 3) := by decide +kernel
theorem dX5_three_104 : decode cX5_three 104 = .ok (.goto (-92), 3) := by decide +kernel
theorem dX5_three_107 : decode cX5_three 107 = .ok (.bipush (-9), 2) := by decide +kernel
theorem dX5_three_109 : decode cX5_three 109 = .ok (.ireturn, 1) := by decide +kernel
theorem dX5_movesOf_0 : decode cX5_movesOf 0 = .ok (.ldc 242, 2) := by decide +kernel
theorem dX5_movesOf_2 : decode cX5_movesOf 2 = .ok (.istore 4, 2) := by decide +kernel
theorem dX5_movesOf_4 : decode cX5_movesOf 4 = .ok (.iconst 0, 1) := by decide +kernel
theorem dX5_movesOf_5 : decode cX5_movesOf 5 = .ok (.istore 5, 2) := by decide +kernel
theorem dX5_movesOf_7 : decode cX5_movesOf 7 = .ok (.iload 5, 2) := by decide +kernel
theorem dX5_movesOf_9 : decode cX5_movesOf 9 = .ok (.bipush 8, 2) := by decide +kernel
theorem dX5_movesOf_11 : decode cX5_movesOf 11 = .ok (.if_icmp .ge 53, 3) := by decide +kernel
theorem dX5_movesOf_14 : decode cX5_movesOf 14 = .ok (.iload 5, 2) := by decide +kernel
theorem dX5_movesOf_16 : decode cX5_movesOf 16 = .ok (.aload_n 0, 1) := by decide +kernel
theorem dX5_movesOf_17 : decode cX5_movesOf 17 = .ok (.getfield 31, 3) := by decide +kernel
theorem dX5_movesOf_20 : decode cX5_movesOf 20 = .ok (.iconst 0, 1) := by decide +kernel
theorem dX5_movesOf_21 : decode cX5_movesOf 21 = .ok (.iload_n 1, 1) := by decide +kernel
theorem dX5_movesOf_22 : decode cX5_movesOf 22 = .ok (.iadd, 1) := by decide +kernel
theorem dX5_movesOf_23 : decode cX5_movesOf 23 = .ok (.iaload, 1) := by decide +kernel
theorem dX5_movesOf_24 : decode cX5_movesOf 24 = .ok (.isub, 1) := by decide +kernel
theorem dX5_movesOf_25 : decode cX5_movesOf 25 = .ok (.invokestatic 229, 3) := by decide +kernel
theorem dX5_movesOf_28 : decode cX5_movesOf 28 = .ok (.istore 6, 2) := by decide +kernel
theorem dX5_movesOf_30 : decode cX5_movesOf 30 = .ok (.iload 6, 2) := by decide +kernel
theorem dX5_movesOf_32 : decode cX5_movesOf 32 = .ok (.iload 4, 2) := by decide +kernel
theorem dX5_movesOf_34 : decode cX5_movesOf 34 = .ok (.if_icmp .ge 20, 3) := by decide +kernel
theorem dX5_movesOf_37 : decode cX5_movesOf 37 = .ok (.aload_n 0, 1) := by decide +kernel
theorem dX5_movesOf_38 : decode cX5_movesOf 38 = .ok (.iload_n 1, 1) := by decide +kernel
theorem dX5_movesOf_39 : decode cX5_movesOf 39 = .ok (.iload 5, 2) := by decide +kernel
theorem dX5_movesOf_41 : decode cX5_movesOf 41 = .ok (.iload_n 3, 1) := by decide +kernel
theorem dX5_movesOf_42 : decode cX5_movesOf 42 = .ok (.invokevirtual 201, 3) := by decide +kernel
theorem dX5_movesOf_45 : decode cX5_movesOf 45 = .ok (.iload_n 2, 1) := by decide +kernel
theorem dX5_movesOf_46 : decode cX5_movesOf 46 = .ok (.if_icmp .ne 8, 3) := by decide +kernel
theorem dX5_movesOf_49 : decode cX5_movesOf 49 = .ok (.iload 6, 2) := by decide +kernel
theorem dX5_movesOf_51 : decode cX5_movesOf 51 = .ok (.goto 5, 3) := by decide +kernel
theorem dX5_movesOf_54 : decode cX5_movesOf 54 = .ok (.iload 4, 2) := by decide +kernel
theorem dX5_movesOf_56 : decode cX5_movesOf 56 = .ok (.istore 4, 2) := by decide +kernel
theorem dX5_movesOf_58 : decode cX5_movesOf 58 = .ok (.iinc 5 1, 3) := by decide +kernel
theorem dX5_movesOf_61 : decode cX5_movesOf 61 = .ok (.goto (-54), 3) := by decide +kernel
theorem dX5_movesOf_64 : decode cX5_movesOf 64 = .ok (.iload 4, 2) := by decide +kernel
theorem dX5_movesOf_66 : decode cX5_movesOf 66 = .ok (.ireturn, 1) := by decide +kernel
theorem dX5_moves_0 : decode cX5_moves 0 = .ok (.aload_n 0, 1) := by decide +kernel
theorem dX5_moves_1 : decode cX5_moves 1 = .ok (.iload_n 1, 1) := by decide +kernel
theorem dX5_moves_2 : decode cX5_moves 2 = .ok (.invokevirtual 167, 3) := by decide +kernel
theorem dX5_moves_5 : decode cX5_moves 5 = .ok (.ifCond .eq 22, 3) := by decide +kernel
theorem dX5_moves_8 : decode cX5_moves 8 = .ok (.iload_n 2, 1) := by decide +kernel
theorem dX5_moves_9 : decode cX5_moves 9 = .ok (.invokestatic 191, 3) := by decide +kernel
theorem dX5_moves_12 : decode cX5_moves 12 = .ok (.ifCond .eq 15, 3) := by decide +kernel
theorem dX5_moves_15 : decode cX5_moves 15 = .ok (.iload_n 3, 1) := by decide +kernel
theorem dX5_moves_16 : decode cX5_moves 16 = .ok (.i2l, 1) := by decide +kernel
theorem dX5_moves_17 : decode cX5_moves 17 = .ok (.lconst 0, 1) := by decide +kernel
theorem dX5_moves_18 : decode cX5_moves 18 = .ok (.ldc2_w 243, 3) := by decide +kernel
theorem dX5_moves_21 : decode cX5_moves 21 = .ok (.invokestatic 84, 3) := by decide +kernel
theorem dX5_moves_24 : decode cX5_moves 24 = .ok (.ifCond .ne 5, 3) := by decide +kernel
theorem dX5_moves_27 : decode cX5_moves 27 = .ok (.iconst (-1), 1) := by decide +kernel
theorem dX5_moves_28 : decode cX5_moves 28 = .ok (.ireturn, 1) := by decide +kernel
theorem dX5_moves_29 : decode cX5_moves 29 = .ok (.aload_n 0, 1) := by decide +kernel
theorem dX5_moves_30 : decode cX5_moves 30 = .ok (.iload_n 1, 1) := by decide +kernel
theorem dX5_moves_31 : decode cX5_moves 31 = .ok (.invokevirtual 179, 3) := by decide +kernel
theorem dX5_moves_34 : decode cX5_moves 34 = .ok (.ifCond .eq 6, 3) := by decide +kernel
theorem dX5_moves_37 : decode cX5_moves 37 = .ok (.bipush (-4), 2) := by decide +kernel
theorem dX5_moves_39 : decode cX5_moves 39 = .ok (.ireturn, 1) := by decide +kernel
theorem dX5_moves_40 : decode cX5_moves 40 = .ok (.aload_n 0, 1) := by decide +kernel
theorem dX5_moves_41 : decode cX5_moves 41 = .ok (.iload_n 1, 1) := by decide +kernel
theorem dX5_moves_42 : decode cX5_moves 42 = .ok (.iload_n 2, 1) := by decide +kernel
theorem dX5_moves_43 : decode cX5_moves 43 = .ok (.iload_n 3, 1) := by decide +kernel
theorem dX5_moves_44 : decode cX5_moves 44 = .ok (.invokevirtual 245, 3) := by decide +kernel
theorem dX5_moves_47 : decode cX5_moves 47 = .ok (.istore 4, 2) := by decide +kernel
theorem dX5_moves_49 : decode cX5_moves 49 = .ok (.iload 4, 2) := by decide +kernel
theorem dX5_moves_51 : decode cX5_moves 51 = .ok (.ldc 242, 2) := by decide +kernel
theorem dX5_moves_53 : decode cX5_moves 53 = .ok (.if_icmp .ne 8, 3) := by decide +kernel
theorem dX5_moves_56 : decode cX5_moves 56 = .ok (.bipush (-9), 2) := by decide +kernel
theorem dX5_moves_58 : decode cX5_moves 58 = .ok (.goto 5, 3) := by decide +kernel
theorem dX5_moves_61 : decode cX5_moves 61 = .ok (.iload 4, 2) := by decide +kernel
theorem dX5_moves_63 : decode cX5_moves 63 = .ok (.ireturn, 1) := by decide +kernel
theorem dX5_owned_0 : decode cX5_owned 0 = .ok (.iload_n 1, 1) := by decide +kernel
theorem dX5_owned_1 : decode cX5_owned 1 = .ok (.i2l, 1) := by decide +kernel
theorem dX5_owned_2 : decode cX5_owned 2 = .ok (.lconst 0, 1) := by decide +kernel
theorem dX5_owned_3 : decode cX5_owned 3 = .ok (.ldc2_w 243, 3) := by decide +kernel
theorem dX5_owned_6 : decode cX5_owned 6 = .ok (.invokestatic 84, 3) := by decide +kernel
theorem dX5_owned_9 : decode cX5_owned 9 = .ok (.ifCond .ne 5, 3) := by decide +kernel
theorem dX5_owned_12 : decode cX5_owned 12 = .ok (.iconst (-1), 1) := by decide +kernel
theorem dX5_owned_13 : decode cX5_owned 13 = .ok (.ireturn, 1) := by decide +kernel
theorem dX5_owned_14 : decode cX5_owned 14 = .ok (.aload_n 0, 1) := by decide +kernel
theorem dX5_owned_15 : decode cX5_owned 15 = .ok (.getfield 142, 3) := by decide +kernel
theorem dX5_owned_18 : decode cX5_owned 18 = .ok (.ifCond .ne 6, 3) := by decide +kernel
theorem dX5_owned_21 : decode cX5_owned 21 = .ok (.bipush (-4), 2) := by decide +kernel
theorem dX5_owned_23 : decode cX5_owned 23 = .ok (.ireturn, 1) := by decide +kernel
theorem dX5_owned_24 : decode cX5_owned 24 = .ok (.iconst 0, 1) := by decide +kernel
theorem dX5_owned_25 : decode cX5_owned 25 = .ok (.istore_n 2, 1) := by decide +kernel
theorem dX5_owned_26 : decode cX5_owned 26 = .ok (.iconst 0, 1) := by decide +kernel
theorem dX5_owned_27 : decode cX5_owned 27 = .ok (.istore_n 3, 1) := by decide +kernel
theorem dX5_owned_28 : decode cX5_owned 28 = .ok (.iload_n 3, 1) := by decide +kernel
theorem dX5_owned_29 : decode cX5_owned 29 = .ok (.aload_n 0, 1) := by decide +kernel
theorem dX5_owned_30 : decode cX5_owned 30 = .ok (.getfield 142, 3) := by decide +kernel
theorem dX5_owned_33 : decode cX5_owned 33 = .ok (.if_icmp .ge 36, 3) := by decide +kernel
theorem dX5_owned_36 : decode cX5_owned 36 = .ok (.iload_n 2, 1) := by decide +kernel
theorem dX5_owned_37 : decode cX5_owned 37 = .ok (.aload_n 0, 1) := by decide +kernel
theorem dX5_owned_38 : decode cX5_owned 38 = .ok (.iload_n 3, 1) := by decide +kernel
theorem dX5_owned_39 : decode cX5_owned 39 = .ok (.invokevirtual 179, 3) := by decide +kernel
theorem dX5_owned_42 : decode cX5_owned 42 = .ok (.ifCond .eq 7, 3) := by decide +kernel
theorem dX5_owned_45 : decode cX5_owned 45 = .ok (.iconst 0, 1) := by decide +kernel
theorem dX5_owned_46 : decode cX5_owned 46 = .ok (.goto 15, 3) := by decide +kernel
theorem dX5_owned_49 : decode cX5_owned 49 = .ok (.aload_n 0, 1) := by decide +kernel
theorem dX5_owned_50 : decode cX5_owned 50 = .ok (.iload_n 3, 1) := by decide +kernel
theorem dX5_owned_51 : decode cX5_owned 51 = .ok (.aload_n 0, 1) := by decide +kernel
theorem dX5_owned_52 : decode cX5_owned 52 = .ok (.getfield 28, 3) := by decide +kernel
theorem dX5_owned_55 : decode cX5_owned 55 = .ok (.iload_n 3, 1) := by decide +kernel
theorem dX5_owned_56 : decode cX5_owned 56 = .ok (.iaload, 1) := by decide +kernel
theorem dX5_owned_57 : decode cX5_owned 57 = .ok (.iload_n 1, 1) := by decide +kernel
theorem dX5_owned_58 : decode cX5_owned 58 = .ok (.invokevirtual 245, 3) := by decide +kernel
theorem dX5_owned_61 : decode cX5_owned 61 = .ok (.iadd, 1) := by decide +kernel
theorem dX5_owned_62 : decode cX5_owned 62 = .ok (.istore_n 2, 1) := by decide +kernel
theorem dX5_owned_63 : decode cX5_owned 63 = .ok (.iinc 3 1, 3) := by decide +kernel
theorem dX5_owned_66 : decode cX5_owned 66 = .ok (.goto (-38), 3) := by decide +kernel
theorem dX5_owned_69 : decode cX5_owned 69 = .ok (.iload_n 2, 1) := by decide +kernel
theorem dX5_owned_70 : decode cX5_owned 70 = .ok (.ldc 242, 2) := by decide +kernel
theorem dX5_owned_72 : decode cX5_owned 72 = .ok (.if_icmp .lt 8, 3) := by decide +kernel
theorem dX5_owned_75 : decode cX5_owned 75 = .ok (.bipush (-9), 2) := by decide +kernel
theorem dX5_owned_77 : decode cX5_owned 77 = .ok (.goto 4, 3) := by decide +kernel
theorem dX5_owned_80 : decode cX5_owned 80 = .ok (.iload_n 2, 1) := by decide +kernel
theorem dX5_owned_81 : decode cX5_owned 81 = .ok (.ireturn, 1) := by decide +kernel
theorem dX5_thrown_0 : decode cX5_thrown 0 = .ok (.aload_n 0, 1) := by decide +kernel
theorem dX5_thrown_1 : decode cX5_thrown 1 = .ok (.iload_n 1, 1) := by decide +kernel
theorem dX5_thrown_2 : decode cX5_thrown 2 = .ok (.invokevirtual 167, 3) := by decide +kernel
theorem dX5_thrown_5 : decode cX5_thrown 5 = .ok (.ifCond .eq 22, 3) := by decide +kernel
theorem dX5_thrown_8 : decode cX5_thrown 8 = .ok (.iload_n 2, 1) := by decide +kernel
theorem dX5_thrown_9 : decode cX5_thrown 9 = .ok (.invokestatic 191, 3) := by decide +kernel
theorem dX5_thrown_12 : decode cX5_thrown 12 = .ok (.ifCond .eq 15, 3) := by decide +kernel
theorem dX5_thrown_15 : decode cX5_thrown 15 = .ok (.iload_n 3, 1) := by decide +kernel
theorem dX5_thrown_16 : decode cX5_thrown 16 = .ok (.i2l, 1) := by decide +kernel
theorem dX5_thrown_17 : decode cX5_thrown 17 = .ok (.lconst 0, 1) := by decide +kernel
theorem dX5_thrown_18 : decode cX5_thrown 18 = .ok (.ldc2_w 243, 3) := by decide +kernel
theorem dX5_thrown_21 : decode cX5_thrown 21 = .ok (.invokestatic 84, 3) := by decide +kernel
theorem dX5_thrown_24 : decode cX5_thrown 24 = .ok (.ifCond .ne 5, 3) := by decide +kernel
theorem dX5_thrown_27 : decode cX5_thrown 27 = .ok (.iconst (-1), 1) := by decide +kernel
theorem dX5_thrown_28 : decode cX5_thrown 28 = .ok (.ireturn, 1) := by decide +kernel
theorem dX5_thrown_29 : decode cX5_thrown 29 = .ok (.iconst 0, 1) := by decide +kernel
theorem dX5_thrown_30 : decode cX5_thrown 30 = .ok (.istore 4, 2) := by decide +kernel
theorem dX5_thrown_32 : decode cX5_thrown 32 = .ok (.iconst 0, 1) := by decide +kernel
theorem dX5_thrown_33 : decode cX5_thrown 33 = .ok (.istore 5, 2) := by decide +kernel
theorem dX5_thrown_35 : decode cX5_thrown 35 = .ok (.iload 5, 2) := by decide +kernel
theorem dX5_thrown_37 : decode cX5_thrown 37 = .ok (.bipush 8, 2) := by decide +kernel
theorem dX5_thrown_39 : decode cX5_thrown 39 = .ok (.if_icmp .ge 34, 3) := by decide +kernel
theorem dX5_thrown_42 : decode cX5_thrown 42 = .ok (.iload 4, 2) := by decide +kernel
theorem dX5_thrown_44 : decode cX5_thrown 44 = .ok (.aload_n 0, 1) := by decide +kernel
theorem dX5_thrown_45 : decode cX5_thrown 45 = .ok (.iload_n 1, 1) := by decide +kernel
theorem dX5_thrown_46 : decode cX5_thrown 46 = .ok (.iload 5, 2) := by decide +kernel
theorem dX5_thrown_48 : decode cX5_thrown 48 = .ok (.iload_n 3, 1) := by decide +kernel
theorem dX5_thrown_49 : decode cX5_thrown 49 = .ok (.invokevirtual 201, 3) := by decide +kernel
theorem dX5_thrown_52 : decode cX5_thrown 52 = .ok (.iload_n 2, 1) := by decide +kernel
theorem dX5_thrown_53 : decode cX5_thrown 53 = .ok (.if_icmp .ne 10, 3) := by decide +kernel
theorem dX5_thrown_56 : decode cX5_thrown 56 = .ok (.iconst 1, 1) := by decide +kernel
theorem dX5_thrown_57 : decode cX5_thrown 57 = .ok (.iload 5, 2) := by decide +kernel
theorem dX5_thrown_59 : decode cX5_thrown 59 = .ok (.ishl, 1) := by decide +kernel
theorem dX5_thrown_60 : decode cX5_thrown 60 = .ok (.goto 4, 3) := by decide +kernel
theorem dX5_thrown_63 : decode cX5_thrown 63 = .ok (.iconst 0, 1) := by decide +kernel
theorem dX5_thrown_64 : decode cX5_thrown 64 = .ok (.ior, 1) := by decide +kernel
theorem dX5_thrown_65 : decode cX5_thrown 65 = .ok (.istore 4, 2) := by decide +kernel
theorem dX5_thrown_67 : decode cX5_thrown 67 = .ok (.iinc 5 1, 3) := by decide +kernel
theorem dX5_thrown_70 : decode cX5_thrown 70 = .ok (.goto (-35), 3) := by decide +kernel
theorem dX5_thrown_73 : decode cX5_thrown 73 = .ok (.iload 4, 2) := by decide +kernel
theorem dX5_thrown_75 : decode cX5_thrown 75 = .ok (.ireturn, 1) := by decide +kernel
theorem dX5_firstOrder_0 : decode cX5_firstOrder 0 = .ok (.aload_n 0, 1) := by decide +kernel
theorem dX5_firstOrder_1 : decode cX5_firstOrder 1 = .ok (.iconst 0, 1) := by decide +kernel
theorem dX5_firstOrder_2 : decode cX5_firstOrder 2 = .ok (.putfield 248, 3) := by decide +kernel
theorem dX5_firstOrder_5 : decode cX5_firstOrder 5 = .ok (.iconst 0, 1) := by decide +kernel
theorem dX5_firstOrder_6 : decode cX5_firstOrder 6 = .ok (.istore_n 1, 1) := by decide +kernel
theorem dX5_firstOrder_7 : decode cX5_firstOrder 7 = .ok (.iload_n 1, 1) := by decide +kernel
theorem dX5_firstOrder_8 : decode cX5_firstOrder 8 = .ok (.aload_n 0, 1) := by decide +kernel
theorem dX5_firstOrder_9 : decode cX5_firstOrder 9 = .ok (.getfield 142, 3) := by decide +kernel
theorem dX5_firstOrder_12 : decode cX5_firstOrder 12 = .ok (.if_icmp .ge 47, 3) := by decide +kernel
theorem dX5_firstOrder_15 : decode cX5_firstOrder 15 = .ok (.aload_n 0, 1) := by decide +kernel
theorem dX5_firstOrder_16 : decode cX5_firstOrder 16 = .ok (.iload_n 1, 1) := by decide +kernel
theorem dX5_firstOrder_17 : decode cX5_firstOrder 17 = .ok (.invokevirtual 179, 3) := by decide +kernel
theorem dX5_firstOrder_20 : decode cX5_firstOrder 20 = .ok (.ifCond .ne 33, 3) := by decide +kernel
theorem dX5_firstOrder_23 : decode cX5_firstOrder 23 = .ok (.aload_n 0, 1) := by decide +kernel
theorem dX5_firstOrder_24 : decode cX5_firstOrder 24 = .ok (.getfield 54, 3) := by decide +kernel
theorem dX5_firstOrder_27 : decode cX5_firstOrder 27 = .ok (.aload_n 0, 1) := by decide +kernel
theorem dX5_firstOrder_28 : decode cX5_firstOrder 28 = .ok (.getfield 248, 3) := by decide +kernel
theorem dX5_firstOrder_31 : decode cX5_firstOrder 31 = .ok (.iload_n 1, 1) := by decide +kernel
theorem dX5_firstOrder_32 : decode cX5_firstOrder 32 = .ok (.iastore, 1) := by decide +kernel
theorem dX5_firstOrder_33 : decode cX5_firstOrder 33 = .ok (.aload_n 0, 1) := by decide +kernel
theorem dX5_firstOrder_34 : decode cX5_firstOrder 34 = .ok (.getfield 57, 3) := by decide +kernel
theorem dX5_firstOrder_37 : decode cX5_firstOrder 37 = .ok (.aload_n 0, 1) := by decide +kernel
theorem dX5_firstOrder_38 : decode cX5_firstOrder 38 = .ok (.getfield 248, 3) := by decide +kernel
theorem dX5_firstOrder_41 : decode cX5_firstOrder 41 = .ok (.iload_n 1, 1) := by decide +kernel
theorem dX5_firstOrder_42 : decode cX5_firstOrder 42 = .ok (.iastore, 1) := by decide +kernel
theorem dX5_firstOrder_43 : decode cX5_firstOrder 43 = .ok (.aload_n 0, 1) := by decide +kernel
theorem dX5_firstOrder_44 : decode cX5_firstOrder 44 = .ok (.dup, 1) := by decide +kernel
theorem dX5_firstOrder_45 : decode cX5_firstOrder 45 = .ok (.getfield 248, 3) := by decide +kernel
theorem dX5_firstOrder_48 : decode cX5_firstOrder 48 = .ok (.iconst 1, 1) := by decide +kernel
theorem dX5_firstOrder_49 : decode cX5_firstOrder 49 = .ok (.iadd, 1) := by decide +kernel
theorem dX5_firstOrder_50 : decode cX5_firstOrder 50 = .ok (.putfield 248, 3) := by decide +kernel
theorem dX5_firstOrder_53 : decode cX5_firstOrder 53 = .ok (.iinc 1 1, 3) := by decide +kernel
theorem dX5_firstOrder_56 : decode cX5_firstOrder 56 = .ok (.goto (-49), 3) := by decide +kernel
theorem dX5_firstOrder_59 : decode cX5_firstOrder 59 = .ok (.return_, 1) := by decide +kernel
theorem dX5_exchanges_0 : decode cX5_exchanges 0 = .ok (.aload_n 0, 1) := by decide +kernel
theorem dX5_exchanges_1 : decode cX5_exchanges 1 = .ok (.getfield 57, 3) := by decide +kernel
theorem dX5_exchanges_4 : decode cX5_exchanges 4 = .ok (.iload_n 1, 1) := by decide +kernel
theorem dX5_exchanges_5 : decode cX5_exchanges 5 = .ok (.iaload, 1) := by decide +kernel
theorem dX5_exchanges_6 : decode cX5_exchanges 6 = .ok (.istore_n 3, 1) := by decide +kernel
theorem dX5_exchanges_7 : decode cX5_exchanges 7 = .ok (.aload_n 0, 1) := by decide +kernel
theorem dX5_exchanges_8 : decode cX5_exchanges 8 = .ok (.getfield 57, 3) := by decide +kernel
theorem dX5_exchanges_11 : decode cX5_exchanges 11 = .ok (.iload_n 1, 1) := by decide +kernel
theorem dX5_exchanges_12 : decode cX5_exchanges 12 = .ok (.aload_n 0, 1) := by decide +kernel
theorem dX5_exchanges_13 : decode cX5_exchanges 13 = .ok (.getfield 57, 3) := by decide +kernel
theorem dX5_exchanges_16 : decode cX5_exchanges 16 = .ok (.iload_n 2, 1) := by decide +kernel
theorem dX5_exchanges_17 : decode cX5_exchanges 17 = .ok (.iaload, 1) := by decide +kernel
theorem dX5_exchanges_18 : decode cX5_exchanges 18 = .ok (.iastore, 1) := by decide +kernel
theorem dX5_exchanges_19 : decode cX5_exchanges 19 = .ok (.aload_n 0, 1) := by decide +kernel
theorem dX5_exchanges_20 : decode cX5_exchanges 20 = .ok (.getfield 57, 3) := by decide +kernel
theorem dX5_exchanges_23 : decode cX5_exchanges 23 = .ok (.iload_n 2, 1) := by decide +kernel
theorem dX5_exchanges_24 : decode cX5_exchanges 24 = .ok (.iload_n 3, 1) := by decide +kernel
theorem dX5_exchanges_25 : decode cX5_exchanges 25 = .ok (.iastore, 1) := by decide +kernel
theorem dX5_exchanges_26 : decode cX5_exchanges 26 = .ok (.return_, 1) := by decide +kernel
theorem dX5_nextOrder_0 : decode cX5_nextOrder 0 = .ok (.aload_n 0, 1) := by decide +kernel
theorem dX5_nextOrder_1 : decode cX5_nextOrder 1 = .ok (.getfield 248, 3) := by decide +kernel
theorem dX5_nextOrder_4 : decode cX5_nextOrder 4 = .ok (.iconst 2, 1) := by decide +kernel
theorem dX5_nextOrder_5 : decode cX5_nextOrder 5 = .ok (.isub, 1) := by decide +kernel
theorem dX5_nextOrder_6 : decode cX5_nextOrder 6 = .ok (.istore_n 1, 1) := by decide +kernel
theorem dX5_nextOrder_7 : decode cX5_nextOrder 7 = .ok (.iload_n 1, 1) := by decide +kernel
theorem dX5_nextOrder_8 : decode cX5_nextOrder 8 = .ok (.ifCond .lt 26, 3) := by decide +kernel
theorem dX5_nextOrder_11 : decode cX5_nextOrder 11 = .ok (.aload_n 0, 1) := by decide +kernel
theorem dX5_nextOrder_12 : decode cX5_nextOrder 12 = .ok (.getfield 57, 3) := by decide +kernel
theorem dX5_nextOrder_15 : decode cX5_nextOrder 15 = .ok (.iload_n 1, 1) := by decide +kernel
theorem dX5_nextOrder_16 : decode cX5_nextOrder 16 = .ok (.iaload, 1) := by decide +kernel
theorem dX5_nextOrder_17 : decode cX5_nextOrder 17 = .ok (.aload_n 0, 1) := by decide +kernel
theorem dX5_nextOrder_18 : decode cX5_nextOrder 18 = .ok (.getfield 57, 3) := by decide +kernel
theorem dX5_nextOrder_21 : decode cX5_nextOrder 21 = .ok (.iload_n 1, 1) := by decide +kernel
theorem dX5_nextOrder_22 : decode cX5_nextOrder 22 = .ok (.iconst 1, 1) := by decide +kernel
theorem dX5_nextOrder_23 : decode cX5_nextOrder 23 = .ok (.iadd, 1) := by decide +kernel
theorem dX5_nextOrder_24 : decode cX5_nextOrder 24 = .ok (.iaload, 1) := by decide +kernel
theorem dX5_nextOrder_25 : decode cX5_nextOrder 25 = .ok (.if_icmp .le 9, 3) := by decide +kernel
theorem dX5_nextOrder_28 : decode cX5_nextOrder 28 = .ok (.iinc 1 (-1), 3) := by decide +kernel
theorem dX5_nextOrder_31 : decode cX5_nextOrder 31 = .ok (.goto (-24), 3) := by decide +kernel
theorem dX5_nextOrder_34 : decode cX5_nextOrder 34 = .ok (.iload_n 1, 1) := by decide +kernel
theorem dX5_nextOrder_35 : decode cX5_nextOrder 35 = .ok (.ifCond .ge 5, 3) := by decide +kernel
theorem dX5_nextOrder_38 : decode cX5_nextOrder 38 = .ok (.iconst 0, 1) := by decide +kernel
theorem dX5_nextOrder_39 : decode cX5_nextOrder 39 = .ok (.ireturn, 1) := by decide +kernel
theorem dX5_nextOrder_40 : decode cX5_nextOrder 40 = .ok (.aload_n 0, 1) := by decide +kernel
theorem dX5_nextOrder_41 : decode cX5_nextOrder 41 = .ok (.getfield 248, 3) := by decide +kernel
theorem dX5_nextOrder_44 : decode cX5_nextOrder 44 = .ok (.iconst 1, 1) := by decide +kernel
theorem dX5_nextOrder_45 : decode cX5_nextOrder 45 = .ok (.isub, 1) := by decide +kernel
theorem dX5_nextOrder_46 : decode cX5_nextOrder 46 = .ok (.istore_n 2, 1) := by decide +kernel
theorem dX5_nextOrder_47 : decode cX5_nextOrder 47 = .ok (.aload_n 0, 1) := by decide +kernel
theorem dX5_nextOrder_48 : decode cX5_nextOrder 48 = .ok (.getfield 57, 3) := by decide +kernel
theorem dX5_nextOrder_51 : decode cX5_nextOrder 51 = .ok (.iload_n 2, 1) := by decide +kernel
theorem dX5_nextOrder_52 : decode cX5_nextOrder 52 = .ok (.iaload, 1) := by decide +kernel
theorem dX5_nextOrder_53 : decode cX5_nextOrder 53 = .ok (.aload_n 0, 1) := by decide +kernel
theorem dX5_nextOrder_54 : decode cX5_nextOrder 54 = .ok (.getfield 57, 3) := by decide +kernel
theorem dX5_nextOrder_57 : decode cX5_nextOrder 57 = .ok (.iload_n 1, 1) := by decide +kernel
theorem dX5_nextOrder_58 : decode cX5_nextOrder 58 = .ok (.iaload, 1) := by decide +kernel
theorem dX5_nextOrder_59 : decode cX5_nextOrder 59 = .ok (.if_icmp .ge 9, 3) := by decide +kernel
theorem dX5_nextOrder_62 : decode cX5_nextOrder 62 = .ok (.iinc 2 (-1), 3) := by decide +kernel
theorem dX5_nextOrder_65 : decode cX5_nextOrder 65 = .ok (.goto (-18), 3) := by decide +kernel
theorem dX5_nextOrder_68 : decode cX5_nextOrder 68 = .ok (.aload_n 0, 1) := by decide +kernel
theorem dX5_nextOrder_69 : decode cX5_nextOrder 69 = .ok (.iload_n 1, 1) := by decide +kernel
theorem dX5_nextOrder_70 : decode cX5_nextOrder 70 = .ok (.iload_n 2, 1) := by decide +kernel
theorem dX5_nextOrder_71 : decode cX5_nextOrder 71 = .ok (.invokevirtual 251, 3) := by decide +kernel
theorem dX5_nextOrder_74 : decode cX5_nextOrder 74 = .ok (.iload_n 1, 1) := by decide +kernel
theorem dX5_nextOrder_75 : decode cX5_nextOrder 75 = .ok (.iconst 1, 1) := by decide +kernel
theorem dX5_nextOrder_76 : decode cX5_nextOrder 76 = .ok (.iadd, 1) := by decide +kernel
theorem dX5_nextOrder_77 : decode cX5_nextOrder 77 = .ok (.istore_n 3, 1) := by decide +kernel
theorem dX5_nextOrder_78 : decode cX5_nextOrder 78 = .ok (.aload_n 0, 1) := by decide +kernel
theorem dX5_nextOrder_79 : decode cX5_nextOrder 79 = .ok (.getfield 248, 3) := by decide +kernel
theorem dX5_nextOrder_82 : decode cX5_nextOrder 82 = .ok (.iconst 1, 1) := by decide +kernel
theorem dX5_nextOrder_83 : decode cX5_nextOrder 83 = .ok (.isub, 1) := by decide +kernel
theorem dX5_nextOrder_84 : decode cX5_nextOrder 84 = .ok (.istore 4, 2) := by decide +kernel
theorem dX5_nextOrder_86 : decode cX5_nextOrder 86 = .ok (.iload_n 3, 1) := by decide +kernel
theorem dX5_nextOrder_87 : decode cX5_nextOrder 87 = .ok (.iload 4, 2) := by decide +kernel
theorem dX5_nextOrder_89 : decode cX5_nextOrder 89 = .ok (.if_icmp .ge 19, 3) := by decide +kernel
theorem dX5_nextOrder_92 : decode cX5_nextOrder 92 = .ok (.aload_n 0, 1) := by decide +kernel
theorem dX5_nextOrder_93 : decode cX5_nextOrder 93 = .ok (.iload_n 3, 1) := by decide +kernel
theorem dX5_nextOrder_94 : decode cX5_nextOrder 94 = .ok (.iload 4, 2) := by decide +kernel
theorem dX5_nextOrder_96 : decode cX5_nextOrder 96 = .ok (.invokevirtual 251, 3) := by decide +kernel
theorem dX5_nextOrder_99 : decode cX5_nextOrder 99 = .ok (.iinc 3 1, 3) := by decide +kernel
theorem dX5_nextOrder_102 : decode cX5_nextOrder 102 = .ok (.iinc 4 (-1), 3) := by decide +kernel
theorem dX5_nextOrder_105 : decode cX5_nextOrder 105 = .ok (.goto (-19), 3) := by decide +kernel
theorem dX5_nextOrder_108 : decode cX5_nextOrder 108 = .ok (.iconst 1, 1) := by decide +kernel
theorem dX5_nextOrder_109 : decode cX5_nextOrder 109 = .ok (.ireturn, 1) := by decide +kernel
theorem dX5_stand_0 : decode cX5_stand 0 = .ok (.iload_n 1, 1) := by decide +kernel
theorem dX5_stand_1 : decode cX5_stand 1 = .ok (.invokestatic 90, 3) := by decide +kernel
theorem dX5_stand_4 : decode cX5_stand 4 = .ok (.ifCond .ne 5, 3) := by decide +kernel
theorem dX5_stand_7 : decode cX5_stand 7 = .ok (.iconst (-1), 1) := by decide +kernel
theorem dX5_stand_8 : decode cX5_stand 8 = .ok (.ireturn, 1) := by decide +kernel
theorem dX5_stand_9 : decode cX5_stand 9 = .ok (.aload_n 0, 1) := by decide +kernel
theorem dX5_stand_10 : decode cX5_stand 10 = .ok (.getfield 142, 3) := by decide +kernel
theorem dX5_stand_13 : decode cX5_stand 13 = .ok (.ifCond .ne 6, 3) := by decide +kernel
theorem dX5_stand_16 : decode cX5_stand 16 = .ok (.bipush (-4), 2) := by decide +kernel
theorem dX5_stand_18 : decode cX5_stand 18 = .ok (.ireturn, 1) := by decide +kernel
theorem dX5_stand_19 : decode cX5_stand 19 = .ok (.ldc 242, 2) := by decide +kernel
theorem dX5_stand_21 : decode cX5_stand 21 = .ok (.istore_n 2, 1) := by decide +kernel
theorem dX5_stand_22 : decode cX5_stand 22 = .ok (.aload_n 0, 1) := by decide +kernel
theorem dX5_stand_23 : decode cX5_stand 23 = .ok (.invokevirtual 254, 3) := by decide +kernel
theorem dX5_stand_26 : decode cX5_stand 26 = .ok (.iconst 1, 1) := by decide +kernel
theorem dX5_stand_27 : decode cX5_stand 27 = .ok (.istore_n 3, 1) := by decide +kernel
theorem dX5_stand_28 : decode cX5_stand 28 = .ok (.iload_n 3, 1) := by decide +kernel
theorem dX5_stand_29 : decode cX5_stand 29 = .ok (.ifCond .eq 91, 3) := by decide +kernel
theorem dX5_stand_32 : decode cX5_stand 32 = .ok (.iconst 0, 1) := by decide +kernel
theorem dX5_stand_33 : decode cX5_stand 33 = .ok (.istore 4, 2) := by decide +kernel
theorem dX5_stand_35 : decode cX5_stand 35 = .ok (.iconst 0, 1) := by decide +kernel
theorem dX5_stand_36 : decode cX5_stand 36 = .ok (.istore 5, 2) := by decide +kernel
theorem dX5_stand_38 : decode cX5_stand 38 = .ok (.iload 5, 2) := by decide +kernel
theorem dX5_stand_40 : decode cX5_stand 40 = .ok (.aload_n 0, 1) := by decide +kernel
theorem dX5_stand_41 : decode cX5_stand 41 = .ok (.getfield 248, 3) := by decide +kernel
theorem dX5_stand_44 : decode cX5_stand 44 = .ok (.if_icmp .ge 44, 3) := by decide +kernel
theorem dX5_stand_47 : decode cX5_stand 47 = .ok (.iload 4, 2) := by decide +kernel
theorem dX5_stand_49 : decode cX5_stand 49 = .ok (.aload_n 0, 1) := by decide +kernel
theorem dX5_stand_50 : decode cX5_stand 50 = .ok (.getfield 28, 3) := by decide +kernel
theorem dX5_stand_53 : decode cX5_stand 53 = .ok (.aload_n 0, 1) := by decide +kernel
theorem dX5_stand_54 : decode cX5_stand 54 = .ok (.getfield 57, 3) := by decide +kernel
theorem dX5_stand_57 : decode cX5_stand 57 = .ok (.iload 5, 2) := by decide +kernel
theorem dX5_stand_59 : decode cX5_stand 59 = .ok (.iaload, 1) := by decide +kernel
theorem dX5_stand_60 : decode cX5_stand 60 = .ok (.iaload, 1) := by decide +kernel
theorem dX5_stand_61 : decode cX5_stand 61 = .ok (.aload_n 0, 1) := by decide +kernel
theorem dX5_stand_62 : decode cX5_stand 62 = .ok (.getfield 31, 3) := by decide +kernel
theorem dX5_stand_65 : decode cX5_stand 65 = .ok (.iconst 0, 1) := by decide +kernel
theorem dX5_stand_66 : decode cX5_stand 66 = .ok (.aload_n 0, 1) := by decide +kernel
theorem dX5_stand_67 : decode cX5_stand 67 = .ok (.getfield 54, 3) := by decide +kernel
theorem dX5_stand_70 : decode cX5_stand 70 = .ok (.iload 5, 2) := by decide +kernel
theorem dX5_stand_72 : decode cX5_stand 72 = .ok (.iaload, 1) := by decide +kernel
theorem dX5_stand_73 : decode cX5_stand 73 = .ok (.iadd, 1) := by decide +kernel
theorem dX5_stand_74 : decode cX5_stand 74 = .ok (.iaload, 1) := by decide +kernel
theorem dX5_stand_75 : decode cX5_stand 75 = .ok (.isub, 1) := by decide +kernel
theorem dX5_stand_76 : decode cX5_stand 76 = .ok (.invokestatic 229, 3) := by decide +kernel
theorem dX5_stand_79 : decode cX5_stand 79 = .ok (.iadd, 1) := by decide +kernel
theorem dX5_stand_80 : decode cX5_stand 80 = .ok (.istore 4, 2) := by decide +kernel
theorem dX5_stand_82 : decode cX5_stand 82 = .ok (.iinc 5 1, 3) := by decide +kernel
theorem dX5_stand_85 : decode cX5_stand 85 = .ok (.goto (-47), 3) := by decide +kernel
theorem dX5_stand_88 : decode cX5_stand 88 = .ok (.iload 4, 2) := by decide +kernel
theorem dX5_stand_90 : decode cX5_stand 90 = .ok (.iload_n 2, 1) := by decide +kernel
theorem dX5_stand_91 : decode cX5_stand 91 = .ok (.if_icmp .ge 21, 3) := by decide +kernel
theorem dX5_stand_94 : decode cX5_stand 94 = .ok (.iload 4, 2) := by decide +kernel
theorem dX5_stand_96 : decode cX5_stand 96 = .ok (.istore_n 2, 1) := by decide +kernel
theorem dX5_stand_97 : decode cX5_stand 97 = .ok (.aload_n 0, 1) := by decide +kernel
theorem dX5_stand_98 : decode cX5_stand 98 = .ok (.getfield 57, 3) := by decide +kernel
theorem dX5_stand_101 : decode cX5_stand 101 = .ok (.iconst 0, 1) := by decide +kernel
theorem dX5_stand_102 : decode cX5_stand 102 = .ok (.aload_n 0, 1) := by decide +kernel
theorem dX5_stand_103 : decode cX5_stand 103 = .ok (.getfield 60, 3) := by decide +kernel
theorem dX5_stand_106 : decode cX5_stand 106 = .ok (.iconst 0, 1) := by decide +kernel
theorem dX5_stand_107 : decode cX5_stand 107 = .ok (.bipush 6, 2) := by decide +kernel
theorem dX5_stand_109 : decode cX5_stand 109 = .ok (.invokestatic 194, 3) := by decide +kernel
theorem dX5_stand_112 : decode cX5_stand 112 = .ok (.aload_n 0, 1) := by decide +kernel
theorem dX5_stand_113 : decode cX5_stand 113 = .ok (.invokevirtual 257, 3) := by decide +kernel
theorem dX5_stand_116 : decode cX5_stand 116 = .ok (.istore_n 3, 1) := by decide +kernel
theorem dX5_stand_117 : decode cX5_stand 117 = .ok (.goto (-89), 3) := by decide +kernel
theorem dX5_stand_120 : decode cX5_stand 120 = .ok (.aload_n 0, 1) := by decide +kernel
theorem dX5_stand_121 : decode cX5_stand 121 = .ok (.getfield 60, 3) := by decide +kernel
theorem dX5_stand_124 : decode cX5_stand 124 = .ok (.iconst 0, 1) := by decide +kernel
theorem dX5_stand_125 : decode cX5_stand 125 = .ok (.aload_n 0, 1) := by decide +kernel
theorem dX5_stand_126 : decode cX5_stand 126 = .ok (.getfield 13, 3) := by decide +kernel
theorem dX5_stand_129 : decode cX5_stand 129 = .ok (.bipush 40, 2) := by decide +kernel
theorem dX5_stand_131 : decode cX5_stand 131 = .ok (.iload_n 1, 1) := by decide +kernel
theorem dX5_stand_132 : decode cX5_stand 132 = .ok (.imul, 1) := by decide +kernel
theorem dX5_stand_133 : decode cX5_stand 133 = .ok (.aload_n 0, 1) := by decide +kernel
theorem dX5_stand_134 : decode cX5_stand 134 = .ok (.getfield 248, 3) := by decide +kernel
theorem dX5_stand_137 : decode cX5_stand 137 = .ok (.invokestatic 194, 3) := by decide +kernel
theorem dX5_stand_140 : decode cX5_stand 140 = .ok (.aload_n 0, 1) := by decide +kernel
theorem dX5_stand_141 : decode cX5_stand 141 = .ok (.getfield 7, 3) := by decide +kernel
theorem dX5_stand_144 : decode cX5_stand 144 = .ok (.iload_n 1, 1) := by decide +kernel
theorem dX5_stand_145 : decode cX5_stand 145 = .ok (.aload_n 0, 1) := by decide +kernel
theorem dX5_stand_146 : decode cX5_stand 146 = .ok (.getfield 248, 3) := by decide +kernel
theorem dX5_stand_149 : decode cX5_stand 149 = .ok (.iastore, 1) := by decide +kernel
theorem dX5_stand_150 : decode cX5_stand 150 = .ok (.iload_n 2, 1) := by decide +kernel
theorem dX5_stand_151 : decode cX5_stand 151 = .ok (.ireturn, 1) := by decide +kernel
theorem dX5_layFar_0 : decode cX5_layFar 0 = .ok (.iconst 0, 1) := by decide +kernel
theorem dX5_layFar_1 : decode cX5_layFar 1 = .ok (.istore_n 2, 1) := by decide +kernel
theorem dX5_layFar_2 : decode cX5_layFar 2 = .ok (.iload_n 2, 1) := by decide +kernel
theorem dX5_layFar_3 : decode cX5_layFar 3 = .ok (.bipush 10, 2) := by decide +kernel
theorem dX5_layFar_5 : decode cX5_layFar 5 = .ok (.if_icmp .ge 26, 3) := by decide +kernel
theorem dX5_layFar_8 : decode cX5_layFar 8 = .ok (.aload_n 0, 1) := by decide +kernel
theorem dX5_layFar_9 : decode cX5_layFar 9 = .ok (.getfield 63, 3) := by decide +kernel
theorem dX5_layFar_12 : decode cX5_layFar 12 = .ok (.iload_n 2, 1) := by decide +kernel
theorem dX5_layFar_13 : decode cX5_layFar 13 = .ok (.iload_n 2, 1) := by decide +kernel
theorem dX5_layFar_14 : decode cX5_layFar 14 = .ok (.iload_n 1, 1) := by decide +kernel
theorem dX5_layFar_15 : decode cX5_layFar 15 = .ok (.if_icmp .ne 7, 3) := by decide +kernel
theorem dX5_layFar_18 : decode cX5_layFar 18 = .ok (.iconst 0, 1) := by decide +kernel
theorem dX5_layFar_19 : decode cX5_layFar 19 = .ok (.goto 5, 3) := by decide +kernel
theorem dX5_layFar_22 : decode cX5_layFar 22 = .ok (.ldc 242, 2) := by decide +kernel
theorem dX5_layFar_24 : decode cX5_layFar 24 = .ok (.iastore, 1) := by decide +kernel
theorem dX5_layFar_25 : decode cX5_layFar 25 = .ok (.iinc 2 1, 3) := by decide +kernel
theorem dX5_layFar_28 : decode cX5_layFar 28 = .ok (.goto (-26), 3) := by decide +kernel
theorem dX5_layFar_31 : decode cX5_layFar 31 = .ok (.iconst 0, 1) := by decide +kernel
theorem dX5_layFar_32 : decode cX5_layFar 32 = .ok (.istore_n 2, 1) := by decide +kernel
theorem dX5_layFar_33 : decode cX5_layFar 33 = .ok (.iload_n 2, 1) := by decide +kernel
theorem dX5_layFar_34 : decode cX5_layFar 34 = .ok (.bipush 10, 2) := by decide +kernel
theorem dX5_layFar_36 : decode cX5_layFar 36 = .ok (.if_icmp .ge 107, 3) := by decide +kernel
theorem dX5_layFar_39 : decode cX5_layFar 39 = .ok (.iconst 0, 1) := by decide +kernel
theorem dX5_layFar_40 : decode cX5_layFar 40 = .ok (.istore_n 3, 1) := by decide +kernel
theorem dX5_layFar_41 : decode cX5_layFar 41 = .ok (.iload_n 3, 1) := by decide +kernel
theorem dX5_layFar_42 : decode cX5_layFar 42 = .ok (.bipush 10, 2) := by decide +kernel
theorem dX5_layFar_44 : decode cX5_layFar 44 = .ok (.if_icmp .ge 93, 3) := by decide +kernel
theorem dX5_layFar_47 : decode cX5_layFar 47 = .ok (.aload_n 0, 1) := by decide +kernel
theorem dX5_layFar_48 : decode cX5_layFar 48 = .ok (.getfield 63, 3) := by decide +kernel
theorem dX5_layFar_51 : decode cX5_layFar 51 = .ok (.iload_n 3, 1) := by decide +kernel
theorem dX5_layFar_52 : decode cX5_layFar 52 = .ok (.iconst 0, 1) := by decide +kernel
theorem dX5_layFar_53 : decode cX5_layFar 53 = .ok (.invokestatic 204, 3) := by decide +kernel
theorem dX5_layFar_56 : decode cX5_layFar 56 = .ok (.iaload, 1) := by decide +kernel
theorem dX5_layFar_57 : decode cX5_layFar 57 = .ok (.iconst 1, 1) := by decide +kernel
theorem dX5_layFar_58 : decode cX5_layFar 58 = .ok (.iadd, 1) := by decide +kernel
theorem dX5_layFar_59 : decode cX5_layFar 59 = .ok (.istore 4, 2) := by decide +kernel
theorem dX5_layFar_61 : decode cX5_layFar 61 = .ok (.aload_n 0, 1) := by decide +kernel
theorem dX5_layFar_62 : decode cX5_layFar 62 = .ok (.getfield 63, 3) := by decide +kernel
theorem dX5_layFar_65 : decode cX5_layFar 65 = .ok (.iload_n 3, 1) := by decide +kernel
theorem dX5_layFar_66 : decode cX5_layFar 66 = .ok (.iconst 1, 1) := by decide +kernel
theorem dX5_layFar_67 : decode cX5_layFar 67 = .ok (.invokestatic 204, 3) := by decide +kernel
theorem dX5_layFar_70 : decode cX5_layFar 70 = .ok (.iaload, 1) := by decide +kernel
theorem dX5_layFar_71 : decode cX5_layFar 71 = .ok (.iconst 1, 1) := by decide +kernel
theorem dX5_layFar_72 : decode cX5_layFar 72 = .ok (.iadd, 1) := by decide +kernel
theorem dX5_layFar_73 : decode cX5_layFar 73 = .ok (.istore 5, 2) := by decide +kernel
theorem dX5_layFar_75 : decode cX5_layFar 75 = .ok (.aload_n 0, 1) := by decide +kernel
theorem dX5_layFar_76 : decode cX5_layFar 76 = .ok (.getfield 63, 3) := by decide +kernel
theorem dX5_layFar_79 : decode cX5_layFar 79 = .ok (.iload_n 3, 1) := by decide +kernel
theorem dX5_layFar_80 : decode cX5_layFar 80 = .ok (.iload 4, 2) := by decide +kernel
theorem dX5_layFar_82 : decode cX5_layFar 82 = .ok (.aload_n 0, 1) := by decide +kernel
theorem dX5_layFar_83 : decode cX5_layFar 83 = .ok (.getfield 63, 3) := by decide +kernel
theorem dX5_layFar_86 : decode cX5_layFar 86 = .ok (.iload_n 3, 1) := by decide +kernel
theorem dX5_layFar_87 : decode cX5_layFar 87 = .ok (.iaload, 1) := by decide +kernel
theorem dX5_layFar_88 : decode cX5_layFar 88 = .ok (.if_icmp .ge 8, 3) := by decide +kernel
theorem dX5_layFar_91 : decode cX5_layFar 91 = .ok (.iload 4, 2) := by decide +kernel
theorem dX5_layFar_93 : decode cX5_layFar 93 = .ok (.goto 9, 3) := by decide +kernel
theorem dX5_layFar_96 : decode cX5_layFar 96 = .ok (.aload_n 0, 1) := by decide +kernel
theorem dX5_layFar_97 : decode cX5_layFar 97 = .ok (.getfield 63, 3) := by decide +kernel
theorem dX5_layFar_100 : decode cX5_layFar 100 = .ok (.iload_n 3, 1) := by decide +kernel
theorem dX5_layFar_101 : decode cX5_layFar 101 = .ok (.iaload, 1) := by decide +kernel
theorem dX5_layFar_102 : decode cX5_layFar 102 = .ok (.iastore, 1) := by decide +kernel
theorem dX5_layFar_103 : decode cX5_layFar 103 = .ok (.aload_n 0, 1) := by decide +kernel
theorem dX5_layFar_104 : decode cX5_layFar 104 = .ok (.getfield 63, 3) := by decide +kernel
theorem dX5_layFar_107 : decode cX5_layFar 107 = .ok (.iload_n 3, 1) := by decide +kernel
theorem dX5_layFar_108 : decode cX5_layFar 108 = .ok (.iload 5, 2) := by decide +kernel
theorem dX5_layFar_110 : decode cX5_layFar 110 = .ok (.aload_n 0, 1) := by decide +kernel
theorem dX5_layFar_111 : decode cX5_layFar 111 = .ok (.getfield 63, 3) := by decide +kernel
theorem dX5_layFar_114 : decode cX5_layFar 114 = .ok (.iload_n 3, 1) := by decide +kernel
theorem dX5_layFar_115 : decode cX5_layFar 115 = .ok (.iaload, 1) := by decide +kernel
theorem dX5_layFar_116 : decode cX5_layFar 116 = .ok (.if_icmp .ge 8, 3) := by decide +kernel
theorem dX5_layFar_119 : decode cX5_layFar 119 = .ok (.iload 5, 2) := by decide +kernel
theorem dX5_layFar_121 : decode cX5_layFar 121 = .ok (.goto 9, 3) := by decide +kernel
theorem dX5_layFar_124 : decode cX5_layFar 124 = .ok (.aload_n 0, 1) := by decide +kernel
theorem dX5_layFar_125 : decode cX5_layFar 125 = .ok (.getfield 63, 3) := by decide +kernel
theorem dX5_layFar_128 : decode cX5_layFar 128 = .ok (.iload_n 3, 1) := by decide +kernel
theorem dX5_layFar_129 : decode cX5_layFar 129 = .ok (.iaload, 1) := by decide +kernel
theorem dX5_layFar_130 : decode cX5_layFar 130 = .ok (.iastore, 1) := by decide +kernel
theorem dX5_layFar_131 : decode cX5_layFar 131 = .ok (.iinc 3 1, 3) := by decide +kernel
theorem dX5_layFar_134 : decode cX5_layFar 134 = .ok (.goto (-93), 3) := by decide +kernel
theorem dX5_layFar_137 : decode cX5_layFar 137 = .ok (.iinc 2 1, 3) := by decide +kernel
theorem dX5_layFar_140 : decode cX5_layFar 140 = .ok (.goto (-107), 3) := by decide +kernel
theorem dX5_layFar_143 : decode cX5_layFar 143 = .ok (.return_, 1) := by decide +kernel
theorem dX5_level_0 : decode cX5_level 0 = .ok (.iload_n 1, 1) := by decide +kernel
theorem dX5_level_1 : decode cX5_level 1 = .ok (.i2l, 1) := by decide +kernel
theorem dX5_level_2 : decode cX5_level 2 = .ok (.lconst 0, 1) := by decide +kernel
theorem dX5_level_3 : decode cX5_level 3 = .ok (.ldc2_w 261, 3) := by decide +kernel
theorem dX5_level_6 : decode cX5_level 6 = .ok (.invokestatic 84, 3) := by decide +kernel
theorem dX5_level_9 : decode cX5_level 9 = .ok (.ifCond .ne 5, 3) := by decide +kernel
theorem dX5_level_12 : decode cX5_level 12 = .ok (.iconst (-1), 1) := by decide +kernel
theorem dX5_level_13 : decode cX5_level 13 = .ok (.ireturn, 1) := by decide +kernel
theorem dX5_level_14 : decode cX5_level 14 = .ok (.aload_n 0, 1) := by decide +kernel
theorem dX5_level_15 : decode cX5_level 15 = .ok (.getfield 142, 3) := by decide +kernel
theorem dX5_level_18 : decode cX5_level 18 = .ok (.ifCond .ne 6, 3) := by decide +kernel
theorem dX5_level_21 : decode cX5_level 21 = .ok (.bipush (-4), 2) := by decide +kernel
theorem dX5_level_23 : decode cX5_level 23 = .ok (.ireturn, 1) := by decide +kernel
theorem dX5_level_24 : decode cX5_level 24 = .ok (.aload_n 0, 1) := by decide +kernel
theorem dX5_level_25 : decode cX5_level 25 = .ok (.iload_n 1, 1) := by decide +kernel
theorem dX5_level_26 : decode cX5_level 26 = .ok (.invokevirtual 263, 3) := by decide +kernel
theorem dX5_level_29 : decode cX5_level 29 = .ok (.aload_n 0, 1) := by decide +kernel
theorem dX5_level_30 : decode cX5_level 30 = .ok (.getfield 31, 3) := by decide +kernel
theorem dX5_level_33 : decode cX5_level 33 = .ok (.bipush 6, 2) := by decide +kernel
theorem dX5_level_35 : decode cX5_level 35 = .ok (.iaload, 1) := by decide +kernel
theorem dX5_level_36 : decode cX5_level 36 = .ok (.istore_n 2, 1) := by decide +kernel
theorem dX5_level_37 : decode cX5_level 37 = .ok (.aload_n 0, 1) := by decide +kernel
theorem dX5_level_38 : decode cX5_level 38 = .ok (.getfield 63, 3) := by decide +kernel
theorem dX5_level_41 : decode cX5_level 41 = .ok (.iload_n 2, 1) := by decide +kernel
theorem dX5_level_42 : decode cX5_level 42 = .ok (.iaload, 1) := by decide +kernel
theorem dX5_level_43 : decode cX5_level 43 = .ok (.istore_n 3, 1) := by decide +kernel
theorem dX5_level_44 : decode cX5_level 44 = .ok (.iload_n 3, 1) := by decide +kernel
theorem dX5_level_45 : decode cX5_level 45 = .ok (.ldc 242, 2) := by decide +kernel
theorem dX5_level_47 : decode cX5_level 47 = .ok (.if_icmp .lt 6, 3) := by decide +kernel
theorem dX5_level_50 : decode cX5_level 50 = .ok (.bipush (-9), 2) := by decide +kernel
theorem dX5_level_52 : decode cX5_level 52 = .ok (.ireturn, 1) := by decide +kernel
theorem dX5_level_53 : decode cX5_level 53 = .ok (.iconst 0, 1) := by decide +kernel
theorem dX5_level_54 : decode cX5_level 54 = .ok (.istore 4, 2) := by decide +kernel
theorem dX5_level_56 : decode cX5_level 56 = .ok (.iconst 0, 1) := by decide +kernel
theorem dX5_level_57 : decode cX5_level 57 = .ok (.istore 5, 2) := by decide +kernel
theorem dX5_level_59 : decode cX5_level 59 = .ok (.iload 5, 2) := by decide +kernel
theorem dX5_level_61 : decode cX5_level 61 = .ok (.iload_n 3, 1) := by decide +kernel
theorem dX5_level_62 : decode cX5_level 62 = .ok (.if_icmp .ge 60, 3) := by decide +kernel
theorem dX5_level_65 : decode cX5_level 65 = .ok (.aload_n 0, 1) := by decide +kernel
theorem dX5_level_66 : decode cX5_level 66 = .ok (.getfield 63, 3) := by decide +kernel
theorem dX5_level_69 : decode cX5_level 69 = .ok (.iload_n 2, 1) := by decide +kernel
theorem dX5_level_70 : decode cX5_level 70 = .ok (.iconst 0, 1) := by decide +kernel
theorem dX5_level_71 : decode cX5_level 71 = .ok (.invokestatic 204, 3) := by decide +kernel
theorem dX5_level_74 : decode cX5_level 74 = .ok (.iaload, 1) := by decide +kernel
theorem dX5_level_75 : decode cX5_level 75 = .ok (.iload_n 3, 1) := by decide +kernel
theorem dX5_level_76 : decode cX5_level 76 = .ok (.iload 5, 2) := by decide +kernel
theorem dX5_level_78 : decode cX5_level 78 = .ok (.isub, 1) := by decide +kernel
theorem dX5_level_79 : decode cX5_level 79 = .ok (.iconst 1, 1) := by decide +kernel
theorem dX5_level_80 : decode cX5_level 80 = .ok (.isub, 1) := by decide +kernel
theorem dX5_level_81 : decode cX5_level 81 = .ok (.if_icmp .eq 7, 3) := by decide +kernel
theorem dX5_level_84 : decode cX5_level 84 = .ok (.iconst 1, 1) := by decide +kernel
theorem dX5_level_85 : decode cX5_level 85 = .ok (.goto 4, 3) := by decide +kernel
theorem dX5_level_88 : decode cX5_level 88 = .ok (.iconst 0, 1) := by decide +kernel
theorem dX5_level_89 : decode cX5_level 89 = .ok (.istore 6, 2) := by decide +kernel
theorem dX5_level_91 : decode cX5_level 91 = .ok (.iload 4, 2) := by decide +kernel
theorem dX5_level_93 : decode cX5_level 93 = .ok (.iload 6, 2) := by decide +kernel
theorem dX5_level_95 : decode cX5_level 95 = .ok (.ifCond .eq 10, 3) := by decide +kernel
theorem dX5_level_98 : decode cX5_level 98 = .ok (.iconst 1, 1) := by decide +kernel
theorem dX5_level_99 : decode cX5_level 99 = .ok (.iload 5, 2) := by decide +kernel
theorem dX5_level_101 : decode cX5_level 101 = .ok (.ishl, 1) := by decide +kernel
theorem dX5_level_102 : decode cX5_level 102 = .ok (.goto 4, 3) := by decide +kernel
theorem dX5_level_105 : decode cX5_level 105 = .ok (.iconst 0, 1) := by decide +kernel
theorem dX5_level_106 : decode cX5_level 106 = .ok (.ior, 1) := by decide +kernel
theorem dX5_level_107 : decode cX5_level 107 = .ok (.istore 4, 2) := by decide +kernel
theorem dX5_level_109 : decode cX5_level 109 = .ok (.iload_n 2, 1) := by decide +kernel
theorem dX5_level_110 : decode cX5_level 110 = .ok (.iload 6, 2) := by decide +kernel
theorem dX5_level_112 : decode cX5_level 112 = .ok (.invokestatic 204, 3) := by decide +kernel
theorem dX5_level_115 : decode cX5_level 115 = .ok (.istore_n 2, 1) := by decide +kernel
theorem dX5_level_116 : decode cX5_level 116 = .ok (.iinc 5 1, 3) := by decide +kernel
theorem dX5_level_119 : decode cX5_level 119 = .ok (.goto (-60), 3) := by decide +kernel
theorem dX5_level_122 : decode cX5_level 122 = .ok (.aload_n 0, 1) := by decide +kernel
theorem dX5_level_123 : decode cX5_level 123 = .ok (.iload_n 3, 1) := by decide +kernel
theorem dX5_level_124 : decode cX5_level 124 = .ok (.iload 4, 2) := by decide +kernel
theorem dX5_level_126 : decode cX5_level 126 = .ok (.invokevirtual 239, 3) := by decide +kernel
theorem dX5_level_129 : decode cX5_level 129 = .ok (.ireturn, 1) := by decide +kernel
theorem dX5_placeOf_0 : decode cX5_placeOf 0 = .ok (.bipush 8, 2) := by decide +kernel
theorem dX5_placeOf_2 : decode cX5_placeOf 2 = .ok (.iload_n 1, 1) := by decide +kernel
theorem dX5_placeOf_3 : decode cX5_placeOf 3 = .ok (.iconst 2, 1) := by decide +kernel
theorem dX5_placeOf_4 : decode cX5_placeOf 4 = .ok (.irem, 1) := by decide +kernel
theorem dX5_placeOf_5 : decode cX5_placeOf 5 = .ok (.imul, 1) := by decide +kernel
theorem dX5_placeOf_6 : decode cX5_placeOf 6 = .ok (.aload_n 0, 1) := by decide +kernel
theorem dX5_placeOf_7 : decode cX5_placeOf 7 = .ok (.getfield 31, 3) := by decide +kernel
theorem dX5_placeOf_10 : decode cX5_placeOf 10 = .ok (.iconst 0, 1) := by decide +kernel
theorem dX5_placeOf_11 : decode cX5_placeOf 11 = .ok (.iload_n 1, 1) := by decide +kernel
theorem dX5_placeOf_12 : decode cX5_placeOf 12 = .ok (.iadd, 1) := by decide +kernel
theorem dX5_placeOf_13 : decode cX5_placeOf 13 = .ok (.iaload, 1) := by decide +kernel
theorem dX5_placeOf_14 : decode cX5_placeOf 14 = .ok (.iadd, 1) := by decide +kernel
theorem dX5_placeOf_15 : decode cX5_placeOf 15 = .ok (.ireturn, 1) := by decide +kernel
theorem dX5_homeBut_0 : decode cX5_homeBut 0 = .ok (.iconst 0, 1) := by decide +kernel
theorem dX5_homeBut_1 : decode cX5_homeBut 1 = .ok (.istore_n 3, 1) := by decide +kernel
theorem dX5_homeBut_2 : decode cX5_homeBut 2 = .ok (.iconst 0, 1) := by decide +kernel
theorem dX5_homeBut_3 : decode cX5_homeBut 3 = .ok (.istore 4, 2) := by decide +kernel
theorem dX5_homeBut_5 : decode cX5_homeBut 5 = .ok (.iload 4, 2) := by decide +kernel
theorem dX5_homeBut_7 : decode cX5_homeBut 7 = .ok (.aload_n 0, 1) := by decide +kernel
theorem dX5_homeBut_8 : decode cX5_homeBut 8 = .ok (.getfield 142, 3) := by decide +kernel
theorem dX5_homeBut_11 : decode cX5_homeBut 11 = .ok (.if_icmp .ge 48, 3) := by decide +kernel
theorem dX5_homeBut_14 : decode cX5_homeBut 14 = .ok (.iload_n 3, 1) := by decide +kernel
theorem dX5_homeBut_15 : decode cX5_homeBut 15 = .ok (.iload 4, 2) := by decide +kernel
theorem dX5_homeBut_17 : decode cX5_homeBut 17 = .ok (.iload_n 1, 1) := by decide +kernel
theorem dX5_homeBut_18 : decode cX5_homeBut 18 = .ok (.if_icmp .eq 21, 3) := by decide +kernel
theorem dX5_homeBut_21 : decode cX5_homeBut 21 = .ok (.aload_n 0, 1) := by decide +kernel
theorem dX5_homeBut_22 : decode cX5_homeBut 22 = .ok (.iload 4, 2) := by decide +kernel
theorem dX5_homeBut_24 : decode cX5_homeBut 24 = .ok (.invokevirtual 179, 3) := by decide +kernel
theorem dX5_homeBut_27 : decode cX5_homeBut 27 = .ok (.ifCond .ne 12, 3) := by decide +kernel
theorem dX5_homeBut_30 : decode cX5_homeBut 30 = .ok (.iload_n 2, 1) := by decide +kernel
theorem dX5_homeBut_31 : decode cX5_homeBut 31 = .ok (.iload 4, 2) := by decide +kernel
theorem dX5_homeBut_33 : decode cX5_homeBut 33 = .ok (.invokestatic 266, 3) := by decide +kernel
theorem dX5_homeBut_36 : decode cX5_homeBut 36 = .ok (.ifCond .eq 7, 3) := by decide +kernel
theorem dX5_homeBut_39 : decode cX5_homeBut 39 = .ok (.iconst 0, 1) := by decide +kernel
theorem dX5_homeBut_40 : decode cX5_homeBut 40 = .ok (.goto 11, 3) := by decide +kernel
theorem dX5_homeBut_43 : decode cX5_homeBut 43 = .ok (.iconst 1, 1) := by decide +kernel
theorem dX5_homeBut_44 : decode cX5_homeBut 44 = .ok (.aload_n 0, 1) := by decide +kernel
theorem dX5_homeBut_45 : decode cX5_homeBut 45 = .ok (.iload 4, 2) := by decide +kernel
theorem dX5_homeBut_47 : decode cX5_homeBut 47 = .ok (.invokevirtual 269, 3) := by decide +kernel
theorem dX5_homeBut_50 : decode cX5_homeBut 50 = .ok (.ishl, 1) := by decide +kernel
theorem dX5_homeBut_51 : decode cX5_homeBut 51 = .ok (.ior, 1) := by decide +kernel
theorem dX5_homeBut_52 : decode cX5_homeBut 52 = .ok (.istore_n 3, 1) := by decide +kernel
theorem dX5_homeBut_53 : decode cX5_homeBut 53 = .ok (.iinc 4 1, 3) := by decide +kernel
theorem dX5_homeBut_56 : decode cX5_homeBut 56 = .ok (.goto (-51), 3) := by decide +kernel
theorem dX5_homeBut_59 : decode cX5_homeBut 59 = .ok (.iconst 0, 1) := by decide +kernel
theorem dX5_homeBut_60 : decode cX5_homeBut 60 = .ok (.istore 4, 2) := by decide +kernel
theorem dX5_homeBut_62 : decode cX5_homeBut 62 = .ok (.iload 4, 2) := by decide +kernel
theorem dX5_homeBut_64 : decode cX5_homeBut 64 = .ok (.bipush 16, 2) := by decide +kernel
theorem dX5_homeBut_66 : decode cX5_homeBut 66 = .ok (.if_icmp .ge 32, 3) := by decide +kernel
theorem dX5_homeBut_69 : decode cX5_homeBut 69 = .ok (.aload_n 0, 1) := by decide +kernel
theorem dX5_homeBut_70 : decode cX5_homeBut 70 = .ok (.getfield 66, 3) := by decide +kernel
theorem dX5_homeBut_73 : decode cX5_homeBut 73 = .ok (.iload 4, 2) := by decide +kernel
theorem dX5_homeBut_75 : decode cX5_homeBut 75 = .ok (.iload 4, 2) := by decide +kernel
theorem dX5_homeBut_77 : decode cX5_homeBut 77 = .ok (.aload_n 0, 1) := by decide +kernel
theorem dX5_homeBut_78 : decode cX5_homeBut 78 = .ok (.iload_n 1, 1) := by decide +kernel
theorem dX5_homeBut_79 : decode cX5_homeBut 79 = .ok (.invokevirtual 269, 3) := by decide +kernel
theorem dX5_homeBut_82 : decode cX5_homeBut 82 = .ok (.if_icmp .ne 7, 3) := by decide +kernel
theorem dX5_homeBut_85 : decode cX5_homeBut 85 = .ok (.iconst 0, 1) := by decide +kernel
theorem dX5_homeBut_86 : decode cX5_homeBut 86 = .ok (.goto 5, 3) := by decide +kernel
theorem dX5_homeBut_89 : decode cX5_homeBut 89 = .ok (.ldc 242, 2) := by decide +kernel
theorem dX5_homeBut_91 : decode cX5_homeBut 91 = .ok (.iastore, 1) := by decide +kernel
theorem dX5_homeBut_92 : decode cX5_homeBut 92 = .ok (.iinc 4 1, 3) := by decide +kernel
theorem dX5_homeBut_95 : decode cX5_homeBut 95 = .ok (.goto (-33), 3) := by decide +kernel
theorem dX5_homeBut_98 : decode cX5_homeBut 98 = .ok (.iconst 0, 1) := by decide +kernel
theorem dX5_homeBut_99 : decode cX5_homeBut 99 = .ok (.istore 4, 2) := by decide +kernel
theorem dX5_homeBut_101 : decode cX5_homeBut 101 = .ok (.iload 4, 2) := by decide +kernel
theorem dX5_homeBut_103 : decode cX5_homeBut 103 = .ok (.bipush 16, 2) := by decide +kernel
theorem dX5_homeBut_105 : decode cX5_homeBut 105 = .ok (.if_icmp .ge 164, 3) := by decide +kernel
theorem dX5_homeBut_108 : decode cX5_homeBut 108 = .ok (.iconst 0, 1) := by decide +kernel
theorem dX5_homeBut_109 : decode cX5_homeBut 109 = .ok (.istore 5, 2) := by decide +kernel
theorem dX5_homeBut_111 : decode cX5_homeBut 111 = .ok (.iload 5, 2) := by decide +kernel
theorem dX5_homeBut_113 : decode cX5_homeBut 113 = .ok (.bipush 16, 2) := by decide +kernel
theorem dX5_homeBut_115 : decode cX5_homeBut 115 = .ok (.if_icmp .ge 148, 3) := by decide +kernel
theorem dX5_homeBut_118 : decode cX5_homeBut 118 = .ok (.iconst 0, 1) := by decide +kernel
theorem dX5_homeBut_119 : decode cX5_homeBut 119 = .ok (.istore 6, 2) := by decide +kernel
theorem dX5_homeBut_121 : decode cX5_homeBut 121 = .ok (.iload 6, 2) := by decide +kernel
theorem dX5_homeBut_123 : decode cX5_homeBut 123 = .ok (.bipush 16, 2) := by decide +kernel
theorem dX5_homeBut_125 : decode cX5_homeBut 125 = .ok (.if_icmp .ge 132, 3) := by decide +kernel
theorem dX5_homeBut_128 : decode cX5_homeBut 128 = .ok (.iload 5, 2) := by decide +kernel
theorem dX5_homeBut_130 : decode cX5_homeBut 130 = .ok (.bipush 8, 2) := by decide +kernel
theorem dX5_homeBut_132 : decode cX5_homeBut 132 = .ok (.idiv, 1) := by decide +kernel
theorem dX5_homeBut_133 : decode cX5_homeBut 133 = .ok (.iload 6, 2) := by decide +kernel
theorem dX5_homeBut_135 : decode cX5_homeBut 135 = .ok (.bipush 8, 2) := by decide +kernel
theorem dX5_homeBut_137 : decode cX5_homeBut 137 = .ok (.idiv, 1) := by decide +kernel
theorem dX5_homeBut_138 : decode cX5_homeBut 138 = .ok (.if_icmp .ne 23, 3) := by decide +kernel
theorem dX5_homeBut_141 : decode cX5_homeBut 141 = .ok (.iload 5, 2) := by decide +kernel
theorem dX5_homeBut_143 : decode cX5_homeBut 143 = .ok (.iload 6, 2) := by decide +kernel
theorem dX5_homeBut_145 : decode cX5_homeBut 145 = .ok (.isub, 1) := by decide +kernel
theorem dX5_homeBut_146 : decode cX5_homeBut 146 = .ok (.invokestatic 229, 3) := by decide +kernel
theorem dX5_homeBut_149 : decode cX5_homeBut 149 = .ok (.iconst 1, 1) := by decide +kernel
theorem dX5_homeBut_150 : decode cX5_homeBut 150 = .ok (.if_icmp .ne 7, 3) := by decide +kernel
theorem dX5_homeBut_153 : decode cX5_homeBut 153 = .ok (.iconst 1, 1) := by decide +kernel
theorem dX5_homeBut_154 : decode cX5_homeBut 154 = .ok (.goto 36, 3) := by decide +kernel
theorem dX5_homeBut_157 : decode cX5_homeBut 157 = .ok (.iconst 0, 1) := by decide +kernel
theorem dX5_homeBut_158 : decode cX5_homeBut 158 = .ok (.goto 32, 3) := by decide +kernel
theorem dX5_homeBut_161 : decode cX5_homeBut 161 = .ok (.iload 5, 2) := by decide +kernel
theorem dX5_homeBut_163 : decode cX5_homeBut 163 = .ok (.bipush 8, 2) := by decide +kernel
theorem dX5_homeBut_165 : decode cX5_homeBut 165 = .ok (.irem, 1) := by decide +kernel
theorem dX5_homeBut_166 : decode cX5_homeBut 166 = .ok (.iload 6, 2) := by decide +kernel
theorem dX5_homeBut_168 : decode cX5_homeBut 168 = .ok (.bipush 8, 2) := by decide +kernel
theorem dX5_homeBut_170 : decode cX5_homeBut 170 = .ok (.irem, 1) := by decide +kernel
theorem dX5_homeBut_171 : decode cX5_homeBut 171 = .ok (.if_icmp .ne 18, 3) := by decide +kernel
theorem dX5_homeBut_174 : decode cX5_homeBut 174 = .ok (.iload 5, 2) := by decide +kernel
theorem dX5_homeBut_176 : decode cX5_homeBut 176 = .ok (.bipush 8, 2) := by decide +kernel
theorem dX5_homeBut_178 : decode cX5_homeBut 178 = .ok (.irem, 1) := by decide +kernel
theorem dX5_homeBut_179 : decode cX5_homeBut 179 = .ok (.bipush 7, 2) := by decide +kernel
theorem dX5_homeBut_181 : decode cX5_homeBut 181 = .ok (.irem, 1) := by decide +kernel
theorem dX5_homeBut_182 : decode cX5_homeBut 182 = .ok (.ifCond .ne 7, 3) := by decide +kernel
theorem dX5_homeBut_185 : decode cX5_homeBut 185 = .ok (.iconst 1, 1) := by decide +kernel
theorem dX5_homeBut_186 : decode cX5_homeBut 186 = .ok (.goto 4, 3) := by decide +kernel
theorem dX5_homeBut_189 : decode cX5_homeBut 189 = .ok (.iconst 0, 1) := by decide +kernel
theorem dX5_homeBut_190 : decode cX5_homeBut 190 = .ok (.istore 7, 2) := by decide +kernel
theorem dX5_homeBut_192 : decode cX5_homeBut 192 = .ok (.aload_n 0, 1) := by decide +kernel
theorem dX5_homeBut_193 : decode cX5_homeBut 193 = .ok (.getfield 66, 3) := by decide +kernel
theorem dX5_homeBut_196 : decode cX5_homeBut 196 = .ok (.iload 6, 2) := by decide +kernel
theorem dX5_homeBut_198 : decode cX5_homeBut 198 = .ok (.iload 7, 2) := by decide +kernel
theorem dX5_homeBut_200 : decode cX5_homeBut 200 = .ok (.ifCond .eq 43, 3) := by decide +kernel
theorem dX5_homeBut_203 : decode cX5_homeBut 203 = .ok (.iload_n 3, 1) := by decide +kernel
theorem dX5_homeBut_204 : decode cX5_homeBut 204 = .ok (.iload 6, 2) := by decide +kernel
theorem dX5_homeBut_206 : decode cX5_homeBut 206 = .ok (.invokestatic 266, 3) := by decide +kernel
theorem dX5_homeBut_209 : decode cX5_homeBut 209 = .ok (.ifCond .ne 34, 3) := by decide +kernel
theorem dX5_homeBut_212 : decode cX5_homeBut 212 = .ok (.aload_n 0, 1) := by decide +kernel
theorem dX5_homeBut_213 : decode cX5_homeBut 213 = .ok (.getfield 66, 3) := by decide +kernel
theorem dX5_homeBut_216 : decode cX5_homeBut 216 = .ok (.iload 5, 2) := by decide +kernel
theorem dX5_homeBut_218 : decode cX5_homeBut 218 = .ok (.iaload, 1) := by decide +kernel
theorem dX5_homeBut_219 : decode cX5_homeBut 219 = .ok (.iconst 1, 1) := by decide +kernel
theorem dX5_homeBut_220 : decode cX5_homeBut 220 = .ok (.iadd, 1) := by decide +kernel
theorem dX5_homeBut_221 : decode cX5_homeBut 221 = .ok (.aload_n 0, 1) := by decide +kernel
theorem dX5_homeBut_222 : decode cX5_homeBut 222 = .ok (.getfield 66, 3) := by decide +kernel
theorem dX5_homeBut_225 : decode cX5_homeBut 225 = .ok (.iload 6, 2) := by decide +kernel
theorem dX5_homeBut_227 : decode cX5_homeBut 227 = .ok (.iaload, 1) := by decide +kernel
theorem dX5_homeBut_228 : decode cX5_homeBut 228 = .ok (.if_icmp .ge 15, 3) := by decide +kernel
theorem dX5_homeBut_231 : decode cX5_homeBut 231 = .ok (.aload_n 0, 1) := by decide +kernel
theorem dX5_homeBut_232 : decode cX5_homeBut 232 = .ok (.getfield 66, 3) := by decide +kernel
theorem dX5_homeBut_235 : decode cX5_homeBut 235 = .ok (.iload 5, 2) := by decide +kernel
theorem dX5_homeBut_237 : decode cX5_homeBut 237 = .ok (.iaload, 1) := by decide +kernel
theorem dX5_homeBut_238 : decode cX5_homeBut 238 = .ok (.iconst 1, 1) := by decide +kernel
theorem dX5_homeBut_239 : decode cX5_homeBut 239 = .ok (.iadd, 1) := by decide +kernel
theorem dX5_homeBut_240 : decode cX5_homeBut 240 = .ok (.goto 10, 3) := by decide +kernel
theorem dX5_homeBut_243 : decode cX5_homeBut 243 = .ok (.aload_n 0, 1) := by decide +kernel
theorem dX5_homeBut_244 : decode cX5_homeBut 244 = .ok (.getfield 66, 3) := by decide +kernel
theorem dX5_homeBut_247 : decode cX5_homeBut 247 = .ok (.iload 6, 2) := by decide +kernel
theorem dX5_homeBut_249 : decode cX5_homeBut 249 = .ok (.iaload, 1) := by decide +kernel
theorem dX5_homeBut_250 : decode cX5_homeBut 250 = .ok (.iastore, 1) := by decide +kernel
theorem dX5_homeBut_251 : decode cX5_homeBut 251 = .ok (.iinc 6 1, 3) := by decide +kernel
theorem dX5_homeBut_254 : decode cX5_homeBut 254 = .ok (.goto (-133), 3) := by decide +kernel
theorem dX5_homeBut_257 : decode cX5_homeBut 257 = .ok (.iinc 5 1, 3) := by decide +kernel
theorem dX5_homeBut_260 : decode cX5_homeBut 260 = .ok (.goto (-149), 3) := by decide +kernel
theorem dX5_homeBut_263 : decode cX5_homeBut 263 = .ok (.iinc 4 1, 3) := by decide +kernel
theorem dX5_homeBut_266 : decode cX5_homeBut 266 = .ok (.goto (-165), 3) := by decide +kernel
theorem dX5_homeBut_269 : decode cX5_homeBut 269 = .ok (.aload_n 0, 1) := by decide +kernel
theorem dX5_homeBut_270 : decode cX5_homeBut 270 = .ok (.getfield 66, 3) := by decide +kernel
theorem dX5_homeBut_273 : decode cX5_homeBut 273 = .ok (.aload_n 0, 1) := by decide +kernel
theorem dX5_homeBut_274 : decode cX5_homeBut 274 = .ok (.getfield 28, 3) := by decide +kernel
theorem dX5_homeBut_277 : decode cX5_homeBut 277 = .ok (.iload_n 1, 1) := by decide +kernel
theorem dX5_homeBut_278 : decode cX5_homeBut 278 = .ok (.iaload, 1) := by decide +kernel
theorem dX5_homeBut_279 : decode cX5_homeBut 279 = .ok (.iaload, 1) := by decide +kernel
theorem dX5_homeBut_280 : decode cX5_homeBut 280 = .ok (.ldc 242, 2) := by decide +kernel
theorem dX5_homeBut_282 : decode cX5_homeBut 282 = .ok (.if_icmp .lt 8, 3) := by decide +kernel
theorem dX5_homeBut_285 : decode cX5_homeBut 285 = .ok (.bipush (-9), 2) := by decide +kernel
theorem dX5_homeBut_287 : decode cX5_homeBut 287 = .ok (.goto 14, 3) := by decide +kernel
theorem dX5_homeBut_290 : decode cX5_homeBut 290 = .ok (.aload_n 0, 1) := by decide +kernel
theorem dX5_homeBut_291 : decode cX5_homeBut 291 = .ok (.getfield 66, 3) := by decide +kernel
theorem dX5_homeBut_294 : decode cX5_homeBut 294 = .ok (.aload_n 0, 1) := by decide +kernel
theorem dX5_homeBut_295 : decode cX5_homeBut 295 = .ok (.getfield 28, 3) := by decide +kernel
theorem dX5_homeBut_298 : decode cX5_homeBut 298 = .ok (.iload_n 1, 1) := by decide +kernel
theorem dX5_homeBut_299 : decode cX5_homeBut 299 = .ok (.iaload, 1) := by decide +kernel
theorem dX5_homeBut_300 : decode cX5_homeBut 300 = .ok (.iaload, 1) := by decide +kernel
theorem dX5_homeBut_301 : decode cX5_homeBut 301 = .ok (.ireturn, 1) := by decide +kernel
theorem dX5_home_0 : decode cX5_home 0 = .ok (.aload_n 0, 1) := by decide +kernel
theorem dX5_home_1 : decode cX5_home 1 = .ok (.iload_n 1, 1) := by decide +kernel
theorem dX5_home_2 : decode cX5_home 2 = .ok (.invokevirtual 167, 3) := by decide +kernel
theorem dX5_home_5 : decode cX5_home 5 = .ok (.ifCond .ne 5, 3) := by decide +kernel
theorem dX5_home_8 : decode cX5_home 8 = .ok (.iconst (-1), 1) := by decide +kernel
theorem dX5_home_9 : decode cX5_home 9 = .ok (.ireturn, 1) := by decide +kernel
theorem dX5_home_10 : decode cX5_home 10 = .ok (.aload_n 0, 1) := by decide +kernel
theorem dX5_home_11 : decode cX5_home 11 = .ok (.iload_n 1, 1) := by decide +kernel
theorem dX5_home_12 : decode cX5_home 12 = .ok (.invokevirtual 179, 3) := by decide +kernel
theorem dX5_home_15 : decode cX5_home 15 = .ok (.ifCond .eq 8, 3) := by decide +kernel
theorem dX5_home_18 : decode cX5_home 18 = .ok (.bipush (-4), 2) := by decide +kernel
theorem dX5_home_20 : decode cX5_home 20 = .ok (.goto 9, 3) := by decide +kernel
theorem dX5_home_23 : decode cX5_home 23 = .ok (.aload_n 0, 1) := by decide +kernel
theorem dX5_home_24 : decode cX5_home 24 = .ok (.iload_n 1, 1) := by decide +kernel
theorem dX5_home_25 : decode cX5_home 25 = .ok (.iconst 0, 1) := by decide +kernel
theorem dX5_home_26 : decode cX5_home 26 = .ok (.invokevirtual 272, 3) := by decide +kernel
theorem dX5_home_29 : decode cX5_home 29 = .ok (.ireturn, 1) := by decide +kernel
theorem dX5_stops_0 : decode cX5_stops 0 = .ok (.aload_n 0, 1) := by decide +kernel
theorem dX5_stops_1 : decode cX5_stops 1 = .ok (.iload_n 1, 1) := by decide +kernel
theorem dX5_stops_2 : decode cX5_stops 2 = .ok (.invokevirtual 167, 3) := by decide +kernel
theorem dX5_stops_5 : decode cX5_stops 5 = .ok (.ifCond .ne 5, 3) := by decide +kernel
theorem dX5_stops_8 : decode cX5_stops 8 = .ok (.iconst (-1), 1) := by decide +kernel
theorem dX5_stops_9 : decode cX5_stops 9 = .ok (.ireturn, 1) := by decide +kernel
theorem dX5_stops_10 : decode cX5_stops 10 = .ok (.aload_n 0, 1) := by decide +kernel
theorem dX5_stops_11 : decode cX5_stops 11 = .ok (.iload_n 1, 1) := by decide +kernel
theorem dX5_stops_12 : decode cX5_stops 12 = .ok (.invokevirtual 179, 3) := by decide +kernel
theorem dX5_stops_15 : decode cX5_stops 15 = .ok (.ifCond .eq 6, 3) := by decide +kernel
theorem dX5_stops_18 : decode cX5_stops 18 = .ok (.bipush (-4), 2) := by decide +kernel
theorem dX5_stops_20 : decode cX5_stops 20 = .ok (.ireturn, 1) := by decide +kernel
theorem dX5_stops_21 : decode cX5_stops 21 = .ok (.aload_n 0, 1) := by decide +kernel
theorem dX5_stops_22 : decode cX5_stops 22 = .ok (.iload_n 1, 1) := by decide +kernel
theorem dX5_stops_23 : decode cX5_stops 23 = .ok (.iconst 0, 1) := by decide +kernel
theorem dX5_stops_24 : decode cX5_stops 24 = .ok (.invokevirtual 272, 3) := by decide +kernel
theorem dX5_stops_27 : decode cX5_stops 27 = .ok (.bipush (-9), 2) := by decide +kernel
theorem dX5_stops_29 : decode cX5_stops 29 = .ok (.if_icmp .eq 5, 3) := by decide +kernel
theorem dX5_stops_32 : decode cX5_stops 32 = .ok (.iconst 0, 1) := by decide +kernel
theorem dX5_stops_33 : decode cX5_stops 33 = .ok (.ireturn, 1) := by decide +kernel
theorem dX5_stops_34 : decode cX5_stops 34 = .ok (.iconst 0, 1) := by decide +kernel
theorem dX5_stops_35 : decode cX5_stops 35 = .ok (.istore_n 2, 1) := by decide +kernel
theorem dX5_stops_36 : decode cX5_stops 36 = .ok (.iconst 0, 1) := by decide +kernel
theorem dX5_stops_37 : decode cX5_stops 37 = .ok (.istore_n 3, 1) := by decide +kernel
theorem dX5_stops_38 : decode cX5_stops 38 = .ok (.iload_n 3, 1) := by decide +kernel
theorem dX5_stops_39 : decode cX5_stops 39 = .ok (.aload_n 0, 1) := by decide +kernel
theorem dX5_stops_40 : decode cX5_stops 40 = .ok (.getfield 142, 3) := by decide +kernel
theorem dX5_stops_43 : decode cX5_stops 43 = .ok (.if_icmp .ge 45, 3) := by decide +kernel
theorem dX5_stops_46 : decode cX5_stops 46 = .ok (.iload_n 2, 1) := by decide +kernel
theorem dX5_stops_47 : decode cX5_stops 47 = .ok (.iload_n 3, 1) := by decide +kernel
theorem dX5_stops_48 : decode cX5_stops 48 = .ok (.iload_n 1, 1) := by decide +kernel
theorem dX5_stops_49 : decode cX5_stops 49 = .ok (.if_icmp .eq 30, 3) := by decide +kernel
theorem dX5_stops_52 : decode cX5_stops 52 = .ok (.aload_n 0, 1) := by decide +kernel
theorem dX5_stops_53 : decode cX5_stops 53 = .ok (.iload_n 3, 1) := by decide +kernel
theorem dX5_stops_54 : decode cX5_stops 54 = .ok (.invokevirtual 179, 3) := by decide +kernel
theorem dX5_stops_57 : decode cX5_stops 57 = .ok (.ifCond .ne 22, 3) := by decide +kernel
theorem dX5_stops_60 : decode cX5_stops 60 = .ok (.aload_n 0, 1) := by decide +kernel
theorem dX5_stops_61 : decode cX5_stops 61 = .ok (.iload_n 1, 1) := by decide +kernel
theorem dX5_stops_62 : decode cX5_stops 62 = .ok (.iconst 1, 1) := by decide +kernel
theorem dX5_stops_63 : decode cX5_stops 63 = .ok (.iload_n 3, 1) := by decide +kernel
theorem dX5_stops_64 : decode cX5_stops 64 = .ok (.ishl, 1) := by decide +kernel
theorem dX5_stops_65 : decode cX5_stops 65 = .ok (.invokevirtual 272, 3) := by decide +kernel
theorem dX5_stops_68 : decode cX5_stops 68 = .ok (.bipush (-9), 2) := by decide +kernel
theorem dX5_stops_70 : decode cX5_stops 70 = .ok (.if_icmp .eq 9, 3) := by decide +kernel
theorem dX5_stops_73 : decode cX5_stops 73 = .ok (.iconst 1, 1) := by decide +kernel
theorem dX5_stops_74 : decode cX5_stops 74 = .ok (.iload_n 3, 1) := by decide +kernel
theorem dX5_stops_75 : decode cX5_stops 75 = .ok (.ishl, 1) := by decide +kernel
theorem dX5_stops_76 : decode cX5_stops 76 = .ok (.goto 4, 3) := by decide +kernel
theorem dX5_stops_79 : decode cX5_stops 79 = .ok (.iconst 0, 1) := by decide +kernel
theorem dX5_stops_80 : decode cX5_stops 80 = .ok (.ior, 1) := by decide +kernel
theorem dX5_stops_81 : decode cX5_stops 81 = .ok (.istore_n 2, 1) := by decide +kernel
theorem dX5_stops_82 : decode cX5_stops 82 = .ok (.iinc 3 1, 3) := by decide +kernel
theorem dX5_stops_85 : decode cX5_stops 85 = .ok (.goto (-47), 3) := by decide +kernel
theorem dX5_stops_88 : decode cX5_stops 88 = .ok (.iload_n 2, 1) := by decide +kernel
theorem dX5_stops_89 : decode cX5_stops 89 = .ok (.ireturn, 1) := by decide +kernel
theorem dX5_wrongPairs_0 : decode cX5_wrongPairs 0 = .ok (.aload_n 0, 1) := by decide +kernel
theorem dX5_wrongPairs_1 : decode cX5_wrongPairs 1 = .ok (.getfield 7, 3) := by decide +kernel
theorem dX5_wrongPairs_4 : decode cX5_wrongPairs 4 = .ok (.iload_n 1, 1) := by decide +kernel
theorem dX5_wrongPairs_5 : decode cX5_wrongPairs 5 = .ok (.iaload, 1) := by decide +kernel
theorem dX5_wrongPairs_6 : decode cX5_wrongPairs 6 = .ok (.ifCond .ge 5, 3) := by decide +kernel
theorem dX5_wrongPairs_9 : decode cX5_wrongPairs 9 = .ok (.iconst 1, 1) := by decide +kernel
theorem dX5_wrongPairs_10 : decode cX5_wrongPairs 10 = .ok (.ireturn, 1) := by decide +kernel
theorem dX5_wrongPairs_11 : decode cX5_wrongPairs 11 = .ok (.aload_n 0, 1) := by decide +kernel
theorem dX5_wrongPairs_12 : decode cX5_wrongPairs 12 = .ok (.getfield 7, 3) := by decide +kernel
theorem dX5_wrongPairs_15 : decode cX5_wrongPairs 15 = .ok (.iload_n 1, 1) := by decide +kernel
theorem dX5_wrongPairs_16 : decode cX5_wrongPairs 16 = .ok (.iaload, 1) := by decide +kernel
theorem dX5_wrongPairs_17 : decode cX5_wrongPairs 17 = .ok (.iconst 2, 1) := by decide +kernel
theorem dX5_wrongPairs_18 : decode cX5_wrongPairs 18 = .ok (.irem, 1) := by decide +kernel
theorem dX5_wrongPairs_19 : decode cX5_wrongPairs 19 = .ok (.iconst 1, 1) := by decide +kernel
theorem dX5_wrongPairs_20 : decode cX5_wrongPairs 20 = .ok (.if_icmp .eq 14, 3) := by decide +kernel
theorem dX5_wrongPairs_23 : decode cX5_wrongPairs 23 = .ok (.aload_n 0, 1) := by decide +kernel
theorem dX5_wrongPairs_24 : decode cX5_wrongPairs 24 = .ok (.getfield 7, 3) := by decide +kernel
theorem dX5_wrongPairs_27 : decode cX5_wrongPairs 27 = .ok (.iload_n 1, 1) := by decide +kernel
theorem dX5_wrongPairs_28 : decode cX5_wrongPairs 28 = .ok (.iaload, 1) := by decide +kernel
theorem dX5_wrongPairs_29 : decode cX5_wrongPairs 29 = .ok (.bipush 12, 2) := by decide +kernel
theorem dX5_wrongPairs_31 : decode cX5_wrongPairs 31 = .ok (.if_icmp .le 5, 3) := by decide +kernel
theorem dX5_wrongPairs_34 : decode cX5_wrongPairs 34 = .ok (.iconst 5, 1) := by decide +kernel
theorem dX5_wrongPairs_35 : decode cX5_wrongPairs 35 = .ok (.ireturn, 1) := by decide +kernel
theorem dX5_wrongPairs_36 : decode cX5_wrongPairs 36 = .ok (.iconst 1, 1) := by decide +kernel
theorem dX5_wrongPairs_37 : decode cX5_wrongPairs 37 = .ok (.istore_n 2, 1) := by decide +kernel
theorem dX5_wrongPairs_38 : decode cX5_wrongPairs 38 = .ok (.iconst 0, 1) := by decide +kernel
theorem dX5_wrongPairs_39 : decode cX5_wrongPairs 39 = .ok (.istore_n 3, 1) := by decide +kernel
theorem dX5_wrongPairs_40 : decode cX5_wrongPairs 40 = .ok (.iload_n 3, 1) := by decide +kernel
theorem dX5_wrongPairs_41 : decode cX5_wrongPairs 41 = .ok (.aload_n 0, 1) := by decide +kernel
theorem dX5_wrongPairs_42 : decode cX5_wrongPairs 42 = .ok (.getfield 7, 3) := by decide +kernel
theorem dX5_wrongPairs_45 : decode cX5_wrongPairs 45 = .ok (.iload_n 1, 1) := by decide +kernel
theorem dX5_wrongPairs_46 : decode cX5_wrongPairs 46 = .ok (.iaload, 1) := by decide +kernel
theorem dX5_wrongPairs_47 : decode cX5_wrongPairs 47 = .ok (.if_icmp .ge 60, 3) := by decide +kernel
theorem dX5_wrongPairs_50 : decode cX5_wrongPairs 50 = .ok (.iload_n 2, 1) := by decide +kernel
theorem dX5_wrongPairs_51 : decode cX5_wrongPairs 51 = .ok (.ifCond .eq 48, 3) := by decide +kernel
theorem dX5_wrongPairs_54 : decode cX5_wrongPairs 54 = .ok (.aload_n 0, 1) := by decide +kernel
theorem dX5_wrongPairs_55 : decode cX5_wrongPairs 55 = .ok (.getfield 13, 3) := by decide +kernel
theorem dX5_wrongPairs_58 : decode cX5_wrongPairs 58 = .ok (.bipush 40, 2) := by decide +kernel
theorem dX5_wrongPairs_60 : decode cX5_wrongPairs 60 = .ok (.iload_n 1, 1) := by decide +kernel
theorem dX5_wrongPairs_61 : decode cX5_wrongPairs 61 = .ok (.imul, 1) := by decide +kernel
theorem dX5_wrongPairs_62 : decode cX5_wrongPairs 62 = .ok (.iload_n 3, 1) := by decide +kernel
theorem dX5_wrongPairs_63 : decode cX5_wrongPairs 63 = .ok (.iadd, 1) := by decide +kernel
theorem dX5_wrongPairs_64 : decode cX5_wrongPairs 64 = .ok (.iaload, 1) := by decide +kernel
theorem dX5_wrongPairs_65 : decode cX5_wrongPairs 65 = .ok (.i2l, 1) := by decide +kernel
theorem dX5_wrongPairs_66 : decode cX5_wrongPairs 66 = .ok (.lconst 0, 1) := by decide +kernel
theorem dX5_wrongPairs_67 : decode cX5_wrongPairs 67 = .ok (.ldc2_w 243, 3) := by decide +kernel
theorem dX5_wrongPairs_70 : decode cX5_wrongPairs 70 = .ok (.invokestatic 84, 3) := by decide +kernel
theorem dX5_wrongPairs_73 : decode cX5_wrongPairs 73 = .ok (.ifCond .eq 26, 3) := by decide +kernel
theorem dX5_wrongPairs_76 : decode cX5_wrongPairs 76 = .ok (.aload_n 0, 1) := by decide +kernel
theorem dX5_wrongPairs_77 : decode cX5_wrongPairs 77 = .ok (.getfield 13, 3) := by decide +kernel
theorem dX5_wrongPairs_80 : decode cX5_wrongPairs 80 = .ok (.bipush 40, 2) := by decide +kernel
theorem dX5_wrongPairs_82 : decode cX5_wrongPairs 82 = .ok (.iload_n 1, 1) := by decide +kernel
theorem dX5_wrongPairs_83 : decode cX5_wrongPairs 83 = .ok (.imul, 1) := by decide +kernel
theorem dX5_wrongPairs_84 : decode cX5_wrongPairs 84 = .ok (.iload_n 3, 1) := by decide +kernel
theorem dX5_wrongPairs_85 : decode cX5_wrongPairs 85 = .ok (.iadd, 1) := by decide +kernel
theorem dX5_wrongPairs_86 : decode cX5_wrongPairs 86 = .ok (.iconst 1, 1) := by decide +kernel
theorem dX5_wrongPairs_87 : decode cX5_wrongPairs 87 = .ok (.iadd, 1) := by decide +kernel
theorem dX5_wrongPairs_88 : decode cX5_wrongPairs 88 = .ok (.iaload, 1) := by decide +kernel
theorem dX5_wrongPairs_89 : decode cX5_wrongPairs 89 = .ok (.invokestatic 191, 3) := by decide +kernel
theorem dX5_wrongPairs_92 : decode cX5_wrongPairs 92 = .ok (.ifCond .eq 7, 3) := by decide +kernel
theorem dX5_wrongPairs_95 : decode cX5_wrongPairs 95 = .ok (.iconst 1, 1) := by decide +kernel
theorem dX5_wrongPairs_96 : decode cX5_wrongPairs 96 = .ok (.goto 4, 3) := by decide +kernel
theorem dX5_wrongPairs_99 : decode cX5_wrongPairs 99 = .ok (.iconst 0, 1) := by decide +kernel
theorem dX5_wrongPairs_100 : decode cX5_wrongPairs 100 = .ok (.istore_n 2, 1) := by decide +kernel
theorem dX5_wrongPairs_101 : decode cX5_wrongPairs 101 = .ok (.iinc 3 2, 3) := by decide +kernel
theorem dX5_wrongPairs_104 : decode cX5_wrongPairs 104 = .ok (.goto (-64), 3) := by decide +kernel
theorem dX5_wrongPairs_107 : decode cX5_wrongPairs 107 = .ok (.iload_n 2, 1) := by decide +kernel
theorem dX5_wrongPairs_108 : decode cX5_wrongPairs 108 = .ok (.ifCond .eq 7, 3) := by decide +kernel
theorem dX5_wrongPairs_111 : decode cX5_wrongPairs 111 = .ok (.iconst 0, 1) := by decide +kernel
theorem dX5_wrongPairs_112 : decode cX5_wrongPairs 112 = .ok (.goto 4, 3) := by decide +kernel
theorem dX5_wrongPairs_115 : decode cX5_wrongPairs 115 = .ok (.iconst 3, 1) := by decide +kernel
theorem dX5_wrongPairs_116 : decode cX5_wrongPairs 116 = .ok (.ireturn, 1) := by decide +kernel
theorem dX5_isSo_0 : decode cX5_isSo 0 = .ok (.iconst 1, 1) := by decide +kernel
theorem dX5_isSo_1 : decode cX5_isSo 1 = .ok (.istore 5, 2) := by decide +kernel
theorem dX5_isSo_3 : decode cX5_isSo 3 = .ok (.iconst 0, 1) := by decide +kernel
theorem dX5_isSo_4 : decode cX5_isSo 4 = .ok (.istore 6, 2) := by decide +kernel
theorem dX5_isSo_6 : decode cX5_isSo 6 = .ok (.iload 6, 2) := by decide +kernel
theorem dX5_isSo_8 : decode cX5_isSo 8 = .ok (.aload_n 0, 1) := by decide +kernel
theorem dX5_isSo_9 : decode cX5_isSo 9 = .ok (.getfield 7, 3) := by decide +kernel
theorem dX5_isSo_12 : decode cX5_isSo 12 = .ok (.iload_n 1, 1) := by decide +kernel
theorem dX5_isSo_13 : decode cX5_isSo 13 = .ok (.iaload, 1) := by decide +kernel
theorem dX5_isSo_14 : decode cX5_isSo 14 = .ok (.if_icmp .ge 58, 3) := by decide +kernel
theorem dX5_isSo_17 : decode cX5_isSo 17 = .ok (.iload 5, 2) := by decide +kernel
theorem dX5_isSo_19 : decode cX5_isSo 19 = .ok (.ifCond .eq 44, 3) := by decide +kernel
theorem dX5_isSo_22 : decode cX5_isSo 22 = .ok (.aload_n 0, 1) := by decide +kernel
theorem dX5_isSo_23 : decode cX5_isSo 23 = .ok (.iload_n 2, 1) := by decide +kernel
theorem dX5_isSo_24 : decode cX5_isSo 24 = .ok (.iload_n 3, 1) := by decide +kernel
theorem dX5_isSo_25 : decode cX5_isSo 25 = .ok (.iload 4, 2) := by decide +kernel
theorem dX5_isSo_27 : decode cX5_isSo 27 = .ok (.aload_n 0, 1) := by decide +kernel
theorem dX5_isSo_28 : decode cX5_isSo 28 = .ok (.getfield 13, 3) := by decide +kernel
theorem dX5_isSo_31 : decode cX5_isSo 31 = .ok (.bipush 40, 2) := by decide +kernel
theorem dX5_isSo_33 : decode cX5_isSo 33 = .ok (.iload_n 1, 1) := by decide +kernel
theorem dX5_isSo_34 : decode cX5_isSo 34 = .ok (.imul, 1) := by decide +kernel
theorem dX5_isSo_35 : decode cX5_isSo 35 = .ok (.iload 6, 2) := by decide +kernel
theorem dX5_isSo_37 : decode cX5_isSo 37 = .ok (.iadd, 1) := by decide +kernel
theorem dX5_isSo_38 : decode cX5_isSo 38 = .ok (.iaload, 1) := by decide +kernel
theorem dX5_isSo_39 : decode cX5_isSo 39 = .ok (.invokevirtual 164, 3) := by decide +kernel
theorem dX5_isSo_42 : decode cX5_isSo 42 = .ok (.aload_n 0, 1) := by decide +kernel
theorem dX5_isSo_43 : decode cX5_isSo 43 = .ok (.getfield 13, 3) := by decide +kernel
theorem dX5_isSo_46 : decode cX5_isSo 46 = .ok (.bipush 40, 2) := by decide +kernel
theorem dX5_isSo_48 : decode cX5_isSo 48 = .ok (.iload_n 1, 1) := by decide +kernel
theorem dX5_isSo_49 : decode cX5_isSo 49 = .ok (.imul, 1) := by decide +kernel
theorem dX5_isSo_50 : decode cX5_isSo 50 = .ok (.iload 6, 2) := by decide +kernel
theorem dX5_isSo_52 : decode cX5_isSo 52 = .ok (.iadd, 1) := by decide +kernel
theorem dX5_isSo_53 : decode cX5_isSo 53 = .ok (.iconst 1, 1) := by decide +kernel
theorem dX5_isSo_54 : decode cX5_isSo 54 = .ok (.iadd, 1) := by decide +kernel
theorem dX5_isSo_55 : decode cX5_isSo 55 = .ok (.iaload, 1) := by decide +kernel
theorem dX5_isSo_56 : decode cX5_isSo 56 = .ok (.if_icmp .ne 7, 3) := by decide +kernel
theorem dX5_isSo_59 : decode cX5_isSo 59 = .ok (.iconst 1, 1) := by decide +kernel
theorem dX5_isSo_60 : decode cX5_isSo 60 = .ok (.goto 4, 3) := by decide +kernel
theorem dX5_isSo_63 : decode cX5_isSo 63 = .ok (.iconst 0, 1) := by decide +kernel
theorem dX5_isSo_64 : decode cX5_isSo 64 = .ok (.istore 5, 2) := by decide +kernel
theorem dX5_isSo_66 : decode cX5_isSo 66 = .ok (.iinc 6 2, 3) := by decide +kernel
theorem dX5_isSo_69 : decode cX5_isSo 69 = .ok (.goto (-63), 3) := by decide +kernel
theorem dX5_isSo_72 : decode cX5_isSo 72 = .ok (.iload 5, 2) := by decide +kernel
theorem dX5_isSo_74 : decode cX5_isSo 74 = .ok (.ireturn, 1) := by decide +kernel
theorem dX5_starts_0 : decode cX5_starts 0 = .ok (.aload_n 0, 1) := by decide +kernel
theorem dX5_starts_1 : decode cX5_starts 1 = .ok (.iload_n 1, 1) := by decide +kernel
theorem dX5_starts_2 : decode cX5_starts 2 = .ok (.invokevirtual 167, 3) := by decide +kernel
theorem dX5_starts_5 : decode cX5_starts 5 = .ok (.ifCond .eq 10, 3) := by decide +kernel
theorem dX5_starts_8 : decode cX5_starts 8 = .ok (.iload_n 2, 1) := by decide +kernel
theorem dX5_starts_9 : decode cX5_starts 9 = .ok (.invokestatic 90, 3) := by decide +kernel
theorem dX5_starts_12 : decode cX5_starts 12 = .ok (.ifCond .ne 5, 3) := by decide +kernel
theorem dX5_starts_15 : decode cX5_starts 15 = .ok (.iconst (-1), 1) := by decide +kernel
theorem dX5_starts_16 : decode cX5_starts 16 = .ok (.ireturn, 1) := by decide +kernel
theorem dX5_starts_17 : decode cX5_starts 17 = .ok (.aload_n 0, 1) := by decide +kernel
theorem dX5_starts_18 : decode cX5_starts 18 = .ok (.iload_n 2, 1) := by decide +kernel
theorem dX5_starts_19 : decode cX5_starts 19 = .ok (.invokevirtual 275, 3) := by decide +kernel
theorem dX5_starts_22 : decode cX5_starts 22 = .ok (.istore_n 3, 1) := by decide +kernel
theorem dX5_starts_23 : decode cX5_starts 23 = .ok (.iload_n 3, 1) := by decide +kernel
theorem dX5_starts_24 : decode cX5_starts 24 = .ok (.ifCond .eq 9, 3) := by decide +kernel
theorem dX5_starts_27 : decode cX5_starts 27 = .ok (.aload_n 0, 1) := by decide +kernel
theorem dX5_starts_28 : decode cX5_starts 28 = .ok (.iload_n 3, 1) := by decide +kernel
theorem dX5_starts_29 : decode cX5_starts 29 = .ok (.invokevirtual 94, 3) := by decide +kernel
theorem dX5_starts_32 : decode cX5_starts 32 = .ok (.ireturn, 1) := by decide +kernel
theorem dX5_starts_33 : decode cX5_starts 33 = .ok (.iconst 0, 1) := by decide +kernel
theorem dX5_starts_34 : decode cX5_starts 34 = .ok (.istore 4, 2) := by decide +kernel
theorem dX5_starts_36 : decode cX5_starts 36 = .ok (.iconst 0, 1) := by decide +kernel
theorem dX5_starts_37 : decode cX5_starts 37 = .ok (.istore 5, 2) := by decide +kernel
theorem dX5_starts_39 : decode cX5_starts 39 = .ok (.iload 5, 2) := by decide +kernel
theorem dX5_starts_41 : decode cX5_starts 41 = .ok (.bipush 8, 2) := by decide +kernel
theorem dX5_starts_43 : decode cX5_starts 43 = .ok (.if_icmp .ge 44, 3) := by decide +kernel
theorem dX5_starts_46 : decode cX5_starts 46 = .ok (.iload 4, 2) := by decide +kernel
theorem dX5_starts_48 : decode cX5_starts 48 = .ok (.aload_n 0, 1) := by decide +kernel
theorem dX5_starts_49 : decode cX5_starts 49 = .ok (.iload_n 2, 1) := by decide +kernel
theorem dX5_starts_50 : decode cX5_starts 50 = .ok (.aload_n 0, 1) := by decide +kernel
theorem dX5_starts_51 : decode cX5_starts 51 = .ok (.getfield 22, 3) := by decide +kernel
theorem dX5_starts_54 : decode cX5_starts 54 = .ok (.iload_n 1, 1) := by decide +kernel
theorem dX5_starts_55 : decode cX5_starts 55 = .ok (.iaload, 1) := by decide +kernel
theorem dX5_starts_56 : decode cX5_starts 56 = .ok (.aload_n 0, 1) := by decide +kernel
theorem dX5_starts_57 : decode cX5_starts 57 = .ok (.getfield 25, 3) := by decide +kernel
theorem dX5_starts_60 : decode cX5_starts 60 = .ok (.iload_n 1, 1) := by decide +kernel
theorem dX5_starts_61 : decode cX5_starts 61 = .ok (.iaload, 1) := by decide +kernel
theorem dX5_starts_62 : decode cX5_starts 62 = .ok (.iload 5, 2) := by decide +kernel
theorem dX5_starts_64 : decode cX5_starts 64 = .ok (.invokevirtual 278, 3) := by decide +kernel
theorem dX5_starts_67 : decode cX5_starts 67 = .ok (.ifCond .eq 10, 3) := by decide +kernel
theorem dX5_starts_70 : decode cX5_starts 70 = .ok (.iconst 1, 1) := by decide +kernel
theorem dX5_starts_71 : decode cX5_starts 71 = .ok (.iload 5, 2) := by decide +kernel
theorem dX5_starts_73 : decode cX5_starts 73 = .ok (.ishl, 1) := by decide +kernel
theorem dX5_starts_74 : decode cX5_starts 74 = .ok (.goto 4, 3) := by decide +kernel
theorem dX5_starts_77 : decode cX5_starts 77 = .ok (.iconst 0, 1) := by decide +kernel
theorem dX5_starts_78 : decode cX5_starts 78 = .ok (.ior, 1) := by decide +kernel
theorem dX5_starts_79 : decode cX5_starts 79 = .ok (.istore 4, 2) := by decide +kernel
theorem dX5_starts_81 : decode cX5_starts 81 = .ok (.iinc 5 1, 3) := by decide +kernel
theorem dX5_starts_84 : decode cX5_starts 84 = .ok (.goto (-45), 3) := by decide +kernel
theorem dX5_starts_87 : decode cX5_starts 87 = .ok (.iload 4, 2) := by decide +kernel
theorem dX5_starts_89 : decode cX5_starts 89 = .ok (.ireturn, 1) := by decide +kernel
theorem dX5_weights_0 : decode cX5_weights 0 = .ok (.aload_n 0, 1) := by decide +kernel
theorem dX5_weights_1 : decode cX5_weights 1 = .ok (.iload_n 1, 1) := by decide +kernel
theorem dX5_weights_2 : decode cX5_weights 2 = .ok (.invokevirtual 167, 3) := by decide +kernel
theorem dX5_weights_5 : decode cX5_weights 5 = .ok (.ifCond .eq 10, 3) := by decide +kernel
theorem dX5_weights_8 : decode cX5_weights 8 = .ok (.iload_n 2, 1) := by decide +kernel
theorem dX5_weights_9 : decode cX5_weights 9 = .ok (.invokestatic 90, 3) := by decide +kernel
theorem dX5_weights_12 : decode cX5_weights 12 = .ok (.ifCond .ne 5, 3) := by decide +kernel
theorem dX5_weights_15 : decode cX5_weights 15 = .ok (.iconst (-1), 1) := by decide +kernel
theorem dX5_weights_16 : decode cX5_weights 16 = .ok (.ireturn, 1) := by decide +kernel
theorem dX5_weights_17 : decode cX5_weights 17 = .ok (.aload_n 0, 1) := by decide +kernel
theorem dX5_weights_18 : decode cX5_weights 18 = .ok (.iload_n 2, 1) := by decide +kernel
theorem dX5_weights_19 : decode cX5_weights 19 = .ok (.invokevirtual 275, 3) := by decide +kernel
theorem dX5_weights_22 : decode cX5_weights 22 = .ok (.istore_n 3, 1) := by decide +kernel
theorem dX5_weights_23 : decode cX5_weights 23 = .ok (.iload_n 3, 1) := by decide +kernel
theorem dX5_weights_24 : decode cX5_weights 24 = .ok (.ifCond .eq 9, 3) := by decide +kernel
theorem dX5_weights_27 : decode cX5_weights 27 = .ok (.aload_n 0, 1) := by decide +kernel
theorem dX5_weights_28 : decode cX5_weights 28 = .ok (.iload_n 3, 1) := by decide +kernel
theorem dX5_weights_29 : decode cX5_weights 29 = .ok (.invokevirtual 94, 3) := by decide +kernel
theorem dX5_weights_32 : decode cX5_weights 32 = .ok (.ireturn, 1) := by decide +kernel
theorem dX5_weights_33 : decode cX5_weights 33 = .ok (.aload_n 0, 1) := by decide +kernel
theorem dX5_weights_34 : decode cX5_weights 34 = .ok (.iload_n 1, 1) := by decide +kernel
theorem dX5_weights_35 : decode cX5_weights 35 = .ok (.invokevirtual 179, 3) := by decide +kernel
theorem dX5_weights_38 : decode cX5_weights 38 = .ok (.ifCond .eq 6, 3) := by decide +kernel
theorem dX5_weights_41 : decode cX5_weights 41 = .ok (.bipush (-4), 2) := by decide +kernel
theorem dX5_weights_43 : decode cX5_weights 43 = .ok (.ireturn, 1) := by decide +kernel
theorem dX5_weights_44 : decode cX5_weights 44 = .ok (.iconst 0, 1) := by decide +kernel
theorem dX5_weights_45 : decode cX5_weights 45 = .ok (.istore 4, 2) := by decide +kernel
theorem dX5_weights_47 : decode cX5_weights 47 = .ok (.iconst 0, 1) := by decide +kernel
theorem dX5_weights_48 : decode cX5_weights 48 = .ok (.istore 5, 2) := by decide +kernel
theorem dX5_weights_50 : decode cX5_weights 50 = .ok (.iload 5, 2) := by decide +kernel
theorem dX5_weights_52 : decode cX5_weights 52 = .ok (.bipush 10, 2) := by decide +kernel
theorem dX5_weights_54 : decode cX5_weights 54 = .ok (.if_icmp .ge 46, 3) := by decide +kernel
theorem dX5_weights_57 : decode cX5_weights 57 = .ok (.iload 4, 2) := by decide +kernel
theorem dX5_weights_59 : decode cX5_weights 59 = .ok (.aload_n 0, 1) := by decide +kernel
theorem dX5_weights_60 : decode cX5_weights 60 = .ok (.iload_n 2, 1) := by decide +kernel
theorem dX5_weights_61 : decode cX5_weights 61 = .ok (.aload_n 0, 1) := by decide +kernel
theorem dX5_weights_62 : decode cX5_weights 62 = .ok (.getfield 22, 3) := by decide +kernel
theorem dX5_weights_65 : decode cX5_weights 65 = .ok (.iload_n 1, 1) := by decide +kernel
theorem dX5_weights_66 : decode cX5_weights 66 = .ok (.iaload, 1) := by decide +kernel
theorem dX5_weights_67 : decode cX5_weights 67 = .ok (.iload 5, 2) := by decide +kernel
theorem dX5_weights_69 : decode cX5_weights 69 = .ok (.aload_n 0, 1) := by decide +kernel
theorem dX5_weights_70 : decode cX5_weights 70 = .ok (.getfield 31, 3) := by decide +kernel
theorem dX5_weights_73 : decode cX5_weights 73 = .ok (.iconst 0, 1) := by decide +kernel
theorem dX5_weights_74 : decode cX5_weights 74 = .ok (.iload_n 1, 1) := by decide +kernel
theorem dX5_weights_75 : decode cX5_weights 75 = .ok (.iadd, 1) := by decide +kernel
theorem dX5_weights_76 : decode cX5_weights 76 = .ok (.iaload, 1) := by decide +kernel
theorem dX5_weights_77 : decode cX5_weights 77 = .ok (.invokevirtual 278, 3) := by decide +kernel
theorem dX5_weights_80 : decode cX5_weights 80 = .ok (.ifCond .eq 10, 3) := by decide +kernel
theorem dX5_weights_83 : decode cX5_weights 83 = .ok (.iconst 1, 1) := by decide +kernel
theorem dX5_weights_84 : decode cX5_weights 84 = .ok (.iload 5, 2) := by decide +kernel
theorem dX5_weights_86 : decode cX5_weights 86 = .ok (.ishl, 1) := by decide +kernel
theorem dX5_weights_87 : decode cX5_weights 87 = .ok (.goto 4, 3) := by decide +kernel
theorem dX5_weights_90 : decode cX5_weights 90 = .ok (.iconst 0, 1) := by decide +kernel
theorem dX5_weights_91 : decode cX5_weights 91 = .ok (.ior, 1) := by decide +kernel
theorem dX5_weights_92 : decode cX5_weights 92 = .ok (.istore 4, 2) := by decide +kernel
theorem dX5_weights_94 : decode cX5_weights 94 = .ok (.iinc 5 1, 3) := by decide +kernel
theorem dX5_weights_97 : decode cX5_weights 97 = .ok (.goto (-47), 3) := by decide +kernel
theorem dX5_weights_100 : decode cX5_weights 100 = .ok (.iload 4, 2) := by decide +kernel
theorem dX5_weights_102 : decode cX5_weights 102 = .ok (.ireturn, 1) := by decide +kernel
theorem dX5_kinds_0 : decode cX5_kinds 0 = .ok (.aload_n 0, 1) := by decide +kernel
theorem dX5_kinds_1 : decode cX5_kinds 1 = .ok (.iload_n 1, 1) := by decide +kernel
theorem dX5_kinds_2 : decode cX5_kinds 2 = .ok (.invokevirtual 167, 3) := by decide +kernel
theorem dX5_kinds_5 : decode cX5_kinds 5 = .ok (.ifCond .eq 10, 3) := by decide +kernel
theorem dX5_kinds_8 : decode cX5_kinds 8 = .ok (.iload_n 2, 1) := by decide +kernel
theorem dX5_kinds_9 : decode cX5_kinds 9 = .ok (.invokestatic 90, 3) := by decide +kernel
theorem dX5_kinds_12 : decode cX5_kinds 12 = .ok (.ifCond .ne 5, 3) := by decide +kernel
theorem dX5_kinds_15 : decode cX5_kinds 15 = .ok (.iconst (-1), 1) := by decide +kernel
theorem dX5_kinds_16 : decode cX5_kinds 16 = .ok (.ireturn, 1) := by decide +kernel
theorem dX5_kinds_17 : decode cX5_kinds 17 = .ok (.aload_n 0, 1) := by decide +kernel
theorem dX5_kinds_18 : decode cX5_kinds 18 = .ok (.iload_n 2, 1) := by decide +kernel
theorem dX5_kinds_19 : decode cX5_kinds 19 = .ok (.invokevirtual 275, 3) := by decide +kernel
theorem dX5_kinds_22 : decode cX5_kinds 22 = .ok (.istore_n 3, 1) := by decide +kernel
theorem dX5_kinds_23 : decode cX5_kinds 23 = .ok (.iload_n 3, 1) := by decide +kernel
theorem dX5_kinds_24 : decode cX5_kinds 24 = .ok (.ifCond .eq 9, 3) := by decide +kernel
theorem dX5_kinds_27 : decode cX5_kinds 27 = .ok (.aload_n 0, 1) := by decide +kernel
theorem dX5_kinds_28 : decode cX5_kinds 28 = .ok (.iload_n 3, 1) := by decide +kernel
theorem dX5_kinds_29 : decode cX5_kinds 29 = .ok (.invokevirtual 94, 3) := by decide +kernel
theorem dX5_kinds_32 : decode cX5_kinds 32 = .ok (.ireturn, 1) := by decide +kernel
theorem dX5_kinds_33 : decode cX5_kinds 33 = .ok (.aload_n 0, 1) := by decide +kernel
theorem dX5_kinds_34 : decode cX5_kinds 34 = .ok (.iload_n 1, 1) := by decide +kernel
theorem dX5_kinds_35 : decode cX5_kinds 35 = .ok (.invokevirtual 179, 3) := by decide +kernel
theorem dX5_kinds_38 : decode cX5_kinds 38 = .ok (.ifCond .eq 6, 3) := by decide +kernel
theorem dX5_kinds_41 : decode cX5_kinds 41 = .ok (.bipush (-4), 2) := by decide +kernel
theorem dX5_kinds_43 : decode cX5_kinds 43 = .ok (.ireturn, 1) := by decide +kernel
theorem dX5_kinds_44 : decode cX5_kinds 44 = .ok (.iconst 0, 1) := by decide +kernel
theorem dX5_kinds_45 : decode cX5_kinds 45 = .ok (.istore 4, 2) := by decide +kernel
theorem dX5_kinds_47 : decode cX5_kinds 47 = .ok (.iconst 0, 1) := by decide +kernel
theorem dX5_kinds_48 : decode cX5_kinds 48 = .ok (.istore 5, 2) := by decide +kernel
theorem dX5_kinds_50 : decode cX5_kinds 50 = .ok (.iload 5, 2) := by decide +kernel
theorem dX5_kinds_52 : decode cX5_kinds 52 = .ok (.bipush 6, 2) := by decide +kernel
theorem dX5_kinds_54 : decode cX5_kinds 54 = .ok (.if_icmp .ge 46, 3) := by decide +kernel
theorem dX5_kinds_57 : decode cX5_kinds 57 = .ok (.iload 4, 2) := by decide +kernel
theorem dX5_kinds_59 : decode cX5_kinds 59 = .ok (.aload_n 0, 1) := by decide +kernel
theorem dX5_kinds_60 : decode cX5_kinds 60 = .ok (.iload_n 2, 1) := by decide +kernel
theorem dX5_kinds_61 : decode cX5_kinds 61 = .ok (.iload 5, 2) := by decide +kernel
theorem dX5_kinds_63 : decode cX5_kinds 63 = .ok (.aload_n 0, 1) := by decide +kernel
theorem dX5_kinds_64 : decode cX5_kinds 64 = .ok (.getfield 25, 3) := by decide +kernel
theorem dX5_kinds_67 : decode cX5_kinds 67 = .ok (.iload_n 1, 1) := by decide +kernel
theorem dX5_kinds_68 : decode cX5_kinds 68 = .ok (.iaload, 1) := by decide +kernel
theorem dX5_kinds_69 : decode cX5_kinds 69 = .ok (.aload_n 0, 1) := by decide +kernel
theorem dX5_kinds_70 : decode cX5_kinds 70 = .ok (.getfield 31, 3) := by decide +kernel
theorem dX5_kinds_73 : decode cX5_kinds 73 = .ok (.iconst 0, 1) := by decide +kernel
theorem dX5_kinds_74 : decode cX5_kinds 74 = .ok (.iload_n 1, 1) := by decide +kernel
theorem dX5_kinds_75 : decode cX5_kinds 75 = .ok (.iadd, 1) := by decide +kernel
theorem dX5_kinds_76 : decode cX5_kinds 76 = .ok (.iaload, 1) := by decide +kernel
theorem dX5_kinds_77 : decode cX5_kinds 77 = .ok (.invokevirtual 278, 3) := by decide +kernel
theorem dX5_kinds_80 : decode cX5_kinds 80 = .ok (.ifCond .eq 10, 3) := by decide +kernel
theorem dX5_kinds_83 : decode cX5_kinds 83 = .ok (.iconst 1, 1) := by decide +kernel
theorem dX5_kinds_84 : decode cX5_kinds 84 = .ok (.iload 5, 2) := by decide +kernel
theorem dX5_kinds_86 : decode cX5_kinds 86 = .ok (.ishl, 1) := by decide +kernel
theorem dX5_kinds_87 : decode cX5_kinds 87 = .ok (.goto 4, 3) := by decide +kernel
theorem dX5_kinds_90 : decode cX5_kinds 90 = .ok (.iconst 0, 1) := by decide +kernel
theorem dX5_kinds_91 : decode cX5_kinds 91 = .ok (.ior, 1) := by decide +kernel
theorem dX5_kinds_92 : decode cX5_kinds 92 = .ok (.istore 4, 2) := by decide +kernel
theorem dX5_kinds_94 : decode cX5_kinds 94 = .ok (.iinc 5 1, 3) := by decide +kernel
theorem dX5_kinds_97 : decode cX5_kinds 97 = .ok (.goto (-47), 3) := by decide +kernel
theorem dX5_kinds_100 : decode cX5_kinds 100 = .ok (.iload 4, 2) := by decide +kernel
theorem dX5_kinds_102 : decode cX5_kinds 102 = .ok (.ireturn, 1) := by decide +kernel
theorem dX5_night_0 : decode cX5_night 0 = .ok (.aload_n 0, 1) := by decide +kernel
theorem dX5_night_1 : decode cX5_night 1 = .ok (.iload_n 1, 1) := by decide +kernel
theorem dX5_night_2 : decode cX5_night 2 = .ok (.invokevirtual 167, 3) := by decide +kernel
theorem dX5_night_5 : decode cX5_night 5 = .ok (.ifCond .eq 35, 3) := by decide +kernel
theorem dX5_night_8 : decode cX5_night 8 = .ok (.iload_n 2, 1) := by decide +kernel
theorem dX5_night_9 : decode cX5_night 9 = .ok (.invokestatic 191, 3) := by decide +kernel
theorem dX5_night_12 : decode cX5_night 12 = .ok (.ifCond .eq 28, 3) := by decide +kernel
theorem dX5_night_15 : decode cX5_night 15 = .ok (.iload_n 3, 1) := by decide +kernel
theorem dX5_night_16 : decode cX5_night 16 = .ok (.invokestatic 191, 3) := by decide +kernel
theorem dX5_night_19 : decode cX5_night 19 = .ok (.ifCond .eq 21, 3) := by decide +kernel
theorem dX5_night_22 : decode cX5_night 22 = .ok (.iload_n 2, 1) := by decide +kernel
theorem dX5_night_23 : decode cX5_night 23 = .ok (.iload_n 3, 1) := by decide +kernel
theorem dX5_night_24 : decode cX5_night 24 = .ok (.if_icmp .eq 16, 3) := by decide +kernel
theorem dX5_night_27 : decode cX5_night 27 = .ok (.iload 4, 2) := by decide +kernel
theorem dX5_night_29 : decode cX5_night 29 = .ok (.i2l, 1) := by decide +kernel
theorem dX5_night_30 : decode cX5_night 30 = .ok (.lconst 0, 1) := by decide +kernel
theorem dX5_night_31 : decode cX5_night 31 = .ok (.ldc2_w 88, 3) := by decide +kernel
theorem dX5_night_34 : decode cX5_night 34 = .ok (.invokestatic 84, 3) := by decide +kernel
theorem dX5_night_37 : decode cX5_night 37 = .ok (.ifCond .ne 5, 3) := by decide +kernel
theorem dX5_night_40 : decode cX5_night 40 = .ok (.iconst (-1), 1) := by decide +kernel
theorem dX5_night_41 : decode cX5_night 41 = .ok (.ireturn, 1) := by decide +kernel
theorem dX5_night_42 : decode cX5_night 42 = .ok (.aload_n 0, 1) := by decide +kernel
theorem dX5_night_43 : decode cX5_night 43 = .ok (.iload_n 1, 1) := by decide +kernel
theorem dX5_night_44 : decode cX5_night 44 = .ok (.invokevirtual 179, 3) := by decide +kernel
theorem dX5_night_47 : decode cX5_night 47 = .ok (.ifCond .eq 6, 3) := by decide +kernel
theorem dX5_night_50 : decode cX5_night 50 = .ok (.bipush (-4), 2) := by decide +kernel
theorem dX5_night_52 : decode cX5_night 52 = .ok (.ireturn, 1) := by decide +kernel
theorem dX5_night_53 : decode cX5_night 53 = .ok (.iconst 0, 1) := by decide +kernel
theorem dX5_night_54 : decode cX5_night 54 = .ok (.istore 5, 2) := by decide +kernel
theorem dX5_night_56 : decode cX5_night 56 = .ok (.iload 5, 2) := by decide +kernel
theorem dX5_night_58 : decode cX5_night 58 = .ok (.bipush 8, 2) := by decide +kernel
theorem dX5_night_60 : decode cX5_night 60 = .ok (.if_icmp .ge 31, 3) := by decide +kernel
theorem dX5_night_63 : decode cX5_night 63 = .ok (.aload_n 0, 1) := by decide +kernel
theorem dX5_night_64 : decode cX5_night 64 = .ok (.getfield 69, 3) := by decide +kernel
theorem dX5_night_67 : decode cX5_night 67 = .ok (.iload 5, 2) := by decide +kernel
theorem dX5_night_69 : decode cX5_night 69 = .ok (.iload 5, 2) := by decide +kernel
theorem dX5_night_71 : decode cX5_night 71 = .ok (.iload_n 2, 1) := by decide +kernel
theorem dX5_night_72 : decode cX5_night 72 = .ok (.isub, 1) := by decide +kernel
theorem dX5_night_73 : decode cX5_night 73 = .ok (.invokestatic 229, 3) := by decide +kernel
theorem dX5_night_76 : decode cX5_night 76 = .ok (.iload 5, 2) := by decide +kernel
theorem dX5_night_78 : decode cX5_night 78 = .ok (.iload_n 3, 1) := by decide +kernel
theorem dX5_night_79 : decode cX5_night 79 = .ok (.isub, 1) := by decide +kernel
theorem dX5_night_80 : decode cX5_night 80 = .ok (.invokestatic 229, 3) := by decide +kernel
theorem dX5_night_83 : decode cX5_night 83 = .ok (.isub, 1) := by decide +kernel
theorem dX5_night_84 : decode cX5_night 84 = .ok (.iastore, 1) := by decide +kernel
theorem dX5_night_85 : decode cX5_night 85 = .ok (.iinc 5 1, 3) := by decide +kernel
theorem dX5_night_88 : decode cX5_night 88 = .ok (.goto (-32), 3) := by decide +kernel
theorem dX5_night_91 : decode cX5_night 91 = .ok (.iconst 2, 1) := by decide +kernel
theorem dX5_night_92 : decode cX5_night 92 = .ok (.iload 4, 2) := by decide +kernel
theorem dX5_night_94 : decode cX5_night 94 = .ok (.imul, 1) := by decide +kernel
theorem dX5_night_95 : decode cX5_night 95 = .ok (.iconst 1, 1) := by decide +kernel
theorem dX5_night_96 : decode cX5_night 96 = .ok (.isub, 1) := by decide +kernel
theorem dX5_night_97 : decode cX5_night 97 = .ok (.istore 5, 2) := by decide +kernel
theorem dX5_night_99 : decode cX5_night 99 = .ok (.iload 5, 2) := by decide +kernel
theorem dX5_night_101 : decode cX5_night 101 = .ok (.ifCond .lt 160, 3) := by decide +kernel
theorem dX5_night_104 : decode cX5_night 104 = .ok (.iconst 0, 1) := by decide +kernel
theorem dX5_night_105 : decode cX5_night 105 = .ok (.istore 6, 2) := by decide +kernel
theorem dX5_night_107 : decode cX5_night 107 = .ok (.iload 6, 2) := by decide +kernel
theorem dX5_night_109 : decode cX5_night 109 = .ok (.bipush 8, 2) := by decide +kernel
theorem dX5_night_111 : decode cX5_night 111 = .ok (.if_icmp .ge 129, 3) := by decide +kernel
theorem dX5_night_114 : decode cX5_night 114 = .ok (.aload_n 0, 1) := by decide +kernel
theorem dX5_night_115 : decode cX5_night 115 = .ok (.getfield 69, 3) := by decide +kernel
theorem dX5_night_118 : decode cX5_night 118 = .ok (.iload 6, 2) := by decide +kernel
theorem dX5_night_120 : decode cX5_night 120 = .ok (.iconst 1, 1) := by decide +kernel
theorem dX5_night_121 : decode cX5_night 121 = .ok (.iadd, 1) := by decide +kernel
theorem dX5_night_122 : decode cX5_night 122 = .ok (.invokestatic 157, 3) := by decide +kernel
theorem dX5_night_125 : decode cX5_night 125 = .ok (.iaload, 1) := by decide +kernel
theorem dX5_night_126 : decode cX5_night 126 = .ok (.istore 7, 2) := by decide +kernel
theorem dX5_night_128 : decode cX5_night 128 = .ok (.aload_n 0, 1) := by decide +kernel
theorem dX5_night_129 : decode cX5_night 129 = .ok (.getfield 69, 3) := by decide +kernel
theorem dX5_night_132 : decode cX5_night 132 = .ok (.iload 6, 2) := by decide +kernel
theorem dX5_night_134 : decode cX5_night 134 = .ok (.iconst 1, 1) := by decide +kernel
theorem dX5_night_135 : decode cX5_night 135 = .ok (.isub, 1) := by decide +kernel
theorem dX5_night_136 : decode cX5_night 136 = .ok (.invokestatic 157, 3) := by decide +kernel
theorem dX5_night_139 : decode cX5_night 139 = .ok (.iaload, 1) := by decide +kernel
theorem dX5_night_140 : decode cX5_night 140 = .ok (.istore 8, 2) := by decide +kernel
theorem dX5_night_142 : decode cX5_night 142 = .ok (.aload_n 0, 1) := by decide +kernel
theorem dX5_night_143 : decode cX5_night 143 = .ok (.getfield 69, 3) := by decide +kernel
theorem dX5_night_146 : decode cX5_night 146 = .ok (.iload 6, 2) := by decide +kernel
theorem dX5_night_148 : decode cX5_night 148 = .ok (.iaload, 1) := by decide +kernel
theorem dX5_night_149 : decode cX5_night 149 = .ok (.istore 9, 2) := by decide +kernel
theorem dX5_night_151 : decode cX5_night 151 = .ok (.iload 5, 2) := by decide +kernel
theorem dX5_night_153 : decode cX5_night 153 = .ok (.iconst 2, 1) := by decide +kernel
theorem dX5_night_154 : decode cX5_night 154 = .ok (.irem, 1) := by decide +kernel
theorem dX5_night_155 : decode cX5_night 155 = .ok (.ifCond .ne 38, 3) := by decide +kernel
theorem dX5_night_158 : decode cX5_night 158 = .ok (.iload 7, 2) := by decide +kernel
theorem dX5_night_160 : decode cX5_night 160 = .ok (.iload 9, 2) := by decide +kernel
theorem dX5_night_162 : decode cX5_night 162 = .ok (.if_icmp .le 8, 3) := by decide +kernel
theorem dX5_night_165 : decode cX5_night 165 = .ok (.iload 7, 2) := by decide +kernel
theorem dX5_night_167 : decode cX5_night 167 = .ok (.goto 5, 3) := by decide +kernel
theorem dX5_night_170 : decode cX5_night 170 = .ok (.iload 9, 2) := by decide +kernel
theorem dX5_night_172 : decode cX5_night 172 = .ok (.istore 9, 2) := by decide +kernel
theorem dX5_night_174 : decode cX5_night 174 = .ok (.iload 8, 2) := by decide +kernel
theorem dX5_night_176 : decode cX5_night 176 = .ok (.iload 9, 2) := by decide +kernel
theorem dX5_night_178 : decode cX5_night 178 = .ok (.if_icmp .le 8, 3) := by decide +kernel
theorem dX5_night_181 : decode cX5_night 181 = .ok (.iload 8, 2) := by decide +kernel
theorem dX5_night_183 : decode cX5_night 183 = .ok (.goto 5, 3) := by decide +kernel
theorem dX5_night_186 : decode cX5_night 186 = .ok (.iload 9, 2) := by decide +kernel
theorem dX5_night_188 : decode cX5_night 188 = .ok (.istore 9, 2) := by decide +kernel
theorem dX5_night_190 : decode cX5_night 190 = .ok (.goto 35, 3) := by decide +kernel
theorem dX5_night_193 : decode cX5_night 193 = .ok (.iload 7, 2) := by decide +kernel
theorem dX5_night_195 : decode cX5_night 195 = .ok (.iload 9, 2) := by decide +kernel
theorem dX5_night_197 : decode cX5_night 197 = .ok (.if_icmp .ge 8, 3) := by decide +kernel
theorem dX5_night_200 : decode cX5_night 200 = .ok (.iload 7, 2) := by decide +kernel
theorem dX5_night_202 : decode cX5_night 202 = .ok (.goto 5, 3) := by decide +kernel
theorem dX5_night_205 : decode cX5_night 205 = .ok (.iload 9, 2) := by decide +kernel
theorem dX5_night_207 : decode cX5_night 207 = .ok (.istore 9, 2) := by decide +kernel
theorem dX5_night_209 : decode cX5_night 209 = .ok (.iload 8, 2) := by decide +kernel
theorem dX5_night_211 : decode cX5_night 211 = .ok (.iload 9, 2) := by decide +kernel
theorem dX5_night_213 : decode cX5_night 213 = .ok (.if_icmp .ge 8, 3) := by decide +kernel
theorem dX5_night_216 : decode cX5_night 216 = .ok (.iload 8, 2) := by decide +kernel
theorem dX5_night_218 : decode cX5_night 218 = .ok (.goto 5, 3) := by decide +kernel
theorem dX5_night_221 : decode cX5_night 221 = .ok (.iload 9, 2) := by decide +kernel
theorem dX5_night_223 : decode cX5_night 223 = .ok (.istore 9, 2) := by decide +kernel
theorem dX5_night_225 : decode cX5_night 225 = .ok (.aload_n 0, 1) := by decide +kernel
theorem dX5_night_226 : decode cX5_night 226 = .ok (.getfield 72, 3) := by decide +kernel
theorem dX5_night_229 : decode cX5_night 229 = .ok (.iload 6, 2) := by decide +kernel
theorem dX5_night_231 : decode cX5_night 231 = .ok (.iload 9, 2) := by decide +kernel
theorem dX5_night_233 : decode cX5_night 233 = .ok (.iastore, 1) := by decide +kernel
theorem dX5_night_234 : decode cX5_night 234 = .ok (.iinc 6 1, 3) := by decide +kernel
theorem dX5_night_237 : decode cX5_night 237 = .ok (.goto (-130), 3) := by decide +kernel
theorem dX5_night_240 : decode cX5_night 240 = .ok (.aload_n 0, 1) := by decide +kernel
theorem dX5_night_241 : decode cX5_night 241 = .ok (.getfield 72, 3) := by decide +kernel
theorem dX5_night_244 : decode cX5_night 244 = .ok (.iconst 0, 1) := by decide +kernel
theorem dX5_night_245 : decode cX5_night 245 = .ok (.aload_n 0, 1) := by decide +kernel
theorem dX5_night_246 : decode cX5_night 246 = .ok (.getfield 69, 3) := by decide +kernel
theorem dX5_night_249 : decode cX5_night 249 = .ok (.iconst 0, 1) := by decide +kernel
theorem dX5_night_250 : decode cX5_night 250 = .ok (.bipush 8, 2) := by decide +kernel
theorem dX5_night_252 : decode cX5_night 252 = .ok (.invokestatic 194, 3) := by decide +kernel
theorem dX5_night_255 : decode cX5_night 255 = .ok (.iinc 5 (-1), 3) := by decide +kernel
theorem dX5_night_258 : decode cX5_night 258 = .ok (.goto (-159), 3) := by decide +kernel
theorem dX5_night_261 : decode cX5_night 261 = .ok (.aload_n 0, 1) := by decide +kernel
theorem dX5_night_262 : decode cX5_night 262 = .ok (.aload_n 0, 1) := by decide +kernel
theorem dX5_night_263 : decode cX5_night 263 = .ok (.getfield 69, 3) := by decide +kernel
theorem dX5_night_266 : decode cX5_night 266 = .ok (.aload_n 0, 1) := by decide +kernel
theorem dX5_night_267 : decode cX5_night 267 = .ok (.getfield 31, 3) := by decide +kernel
theorem dX5_night_270 : decode cX5_night 270 = .ok (.iconst 0, 1) := by decide +kernel
theorem dX5_night_271 : decode cX5_night 271 = .ok (.iload_n 1, 1) := by decide +kernel
theorem dX5_night_272 : decode cX5_night 272 = .ok (.iadd, 1) := by decide +kernel
theorem dX5_night_273 : decode cX5_night 273 = .ok (.iaload, 1) := by decide +kernel
theorem dX5_night_274 : decode cX5_night 274 = .ok (.iaload, 1) := by decide +kernel
theorem dX5_night_275 : decode cX5_night 275 = .ok (.invokevirtual 98, 3) := by decide +kernel
theorem dX5_night_278 : decode cX5_night 278 = .ok (.ireturn, 1) := by decide +kernel
theorem dX5_fraction_0 : decode cX5_fraction 0 = .ok (.lload_n 1, 1) := by decide +kernel
theorem dX5_fraction_1 : decode cX5_fraction 1 = .ok (.lstore 5, 2) := by decide +kernel
theorem dX5_fraction_3 : decode cX5_fraction 3 = .ok (.lload_n 3, 1) := by decide +kernel
theorem dX5_fraction_4 : decode cX5_fraction 4 = .ok (.lstore 7, 2) := by decide +kernel
theorem dX5_fraction_6 : decode cX5_fraction 6 = .ok (.lload 7, 2) := by decide +kernel
theorem dX5_fraction_8 : decode cX5_fraction 8 = .ok (.lconst 0, 1) := by decide +kernel
theorem dX5_fraction_9 : decode cX5_fraction 9 = .ok (.lcmp, 1) := by decide +kernel
theorem dX5_fraction_10 : decode cX5_fraction 10 = .ok (.ifCond .eq 21, 3) := by decide +kernel
theorem dX5_fraction_13 : decode cX5_fraction 13 = .ok (.lload 5, 2) := by decide +kernel
theorem dX5_fraction_15 : decode cX5_fraction 15 = .ok (.lload 7, 2) := by decide +kernel
theorem dX5_fraction_17 : decode cX5_fraction 17 = .ok (.lrem, 1) := by decide +kernel
theorem dX5_fraction_18 : decode cX5_fraction 18 = .ok (.lstore 9, 2) := by decide +kernel
theorem dX5_fraction_20 : decode cX5_fraction 20 = .ok (.lload 7, 2) := by decide +kernel
theorem dX5_fraction_22 : decode cX5_fraction 22 = .ok (.lstore 5, 2) := by decide +kernel
theorem dX5_fraction_24 : decode cX5_fraction 24 = .ok (.lload 9, 2) := by decide +kernel
theorem dX5_fraction_26 : decode cX5_fraction 26 = .ok (.lstore 7, 2) := by decide +kernel
theorem dX5_fraction_28 : decode cX5_fraction 28 = .ok (.goto (-22), 3) := by decide +kernel
theorem dX5_fraction_31 : decode cX5_fraction 31 = .ok (.aload_n 0, 1) := by decide +kernel
theorem dX5_fraction_32 : decode cX5_fraction 32 = .ok (.lload_n 1, 1) := by decide +kernel
theorem dX5_fraction_33 : decode cX5_fraction 33 = .ok (.lload 5, 2) := by decide +kernel
theorem dX5_fraction_35 : decode cX5_fraction 35 = .ok (.ldiv, 1) := by decide +kernel
theorem dX5_fraction_36 : decode cX5_fraction 36 = .ok (.putfield 282, 3) := by decide +kernel
theorem dX5_fraction_39 : decode cX5_fraction 39 = .ok (.aload_n 0, 1) := by decide +kernel
theorem dX5_fraction_40 : decode cX5_fraction 40 = .ok (.lload_n 3, 1) := by decide +kernel
theorem dX5_fraction_41 : decode cX5_fraction 41 = .ok (.lload 5, 2) := by decide +kernel
theorem dX5_fraction_43 : decode cX5_fraction 43 = .ok (.ldiv, 1) := by decide +kernel
theorem dX5_fraction_44 : decode cX5_fraction 44 = .ok (.putfield 44, 3) := by decide +kernel
theorem dX5_fraction_47 : decode cX5_fraction 47 = .ok (.iconst 1, 1) := by decide +kernel
theorem dX5_fraction_48 : decode cX5_fraction 48 = .ok (.ireturn, 1) := by decide +kernel
theorem dX5_weighed_0 : decode cX5_weighed 0 = .ok (.lconst 0, 1) := by decide +kernel
theorem dX5_weighed_1 : decode cX5_weighed 1 = .ok (.lstore 5, 2) := by decide +kernel
theorem dX5_weighed_3 : decode cX5_weighed 3 = .ok (.lconst 1, 1) := by decide +kernel
theorem dX5_weighed_4 : decode cX5_weighed 4 = .ok (.lstore 7, 2) := by decide +kernel
end
section
theorem dX5_weighed_6 : decode cX5_weighed 6 = .ok (.iconst 0, 1) := by decide +kernel
theorem dX5_weighed_7 : decode cX5_weighed 7 = .ok (.istore 9, 2) := by decide +kernel
theorem dX5_weighed_9 : decode cX5_weighed 9 = .ok (.iload 9, 2) := by decide +kernel
theorem dX5_weighed_11 : decode cX5_weighed 11 = .ok (.iconst 1, 1) := by decide +kernel
theorem dX5_weighed_12 : decode cX5_weighed 12 = .ok (.iload_n 3, 1) := by decide +kernel
theorem dX5_weighed_13 : decode cX5_weighed 13 = .ok (.ishl, 1) := by decide +kernel
theorem dX5_weighed_14 : decode cX5_weighed 14 = .ok (.if_icmp .ge 140, 3) := by decide +kernel
theorem dX5_weighed_17 : decode cX5_weighed 17 = .ok (.lconst 1, 1) := by decide +kernel
theorem dX5_weighed_18 : decode cX5_weighed 18 = .ok (.lstore 10, 2) := by decide +kernel
theorem dX5_weighed_20 : decode cX5_weighed 20 = .ok (.aload_n 0, 1) := by decide +kernel
theorem dX5_weighed_21 : decode cX5_weighed 21 = .ok (.getfield 31, 3) := by decide +kernel
theorem dX5_weighed_24 : decode cX5_weighed 24 = .ok (.iconst 0, 1) := by decide +kernel
theorem dX5_weighed_25 : decode cX5_weighed 25 = .ok (.iload_n 1, 1) := by decide +kernel
theorem dX5_weighed_26 : decode cX5_weighed 26 = .ok (.iadd, 1) := by decide +kernel
theorem dX5_weighed_27 : decode cX5_weighed 27 = .ok (.iaload, 1) := by decide +kernel
theorem dX5_weighed_28 : decode cX5_weighed 28 = .ok (.istore 12, 2) := by decide +kernel
theorem dX5_weighed_30 : decode cX5_weighed 30 = .ok (.iconst 0, 1) := by decide +kernel
theorem dX5_weighed_31 : decode cX5_weighed 31 = .ok (.istore 13, 2) := by decide +kernel
theorem dX5_weighed_33 : decode cX5_weighed 33 = .ok (.iload 13, 2) := by decide +kernel
theorem dX5_weighed_35 : decode cX5_weighed 35 = .ok (.iload_n 3, 1) := by decide +kernel
theorem dX5_weighed_36 : decode cX5_weighed 36 = .ok (.if_icmp .ge 81, 3) := by decide +kernel
theorem dX5_weighed_39 : decode cX5_weighed 39 = .ok (.lload 10, 2) := by decide +kernel
theorem dX5_weighed_41 : decode cX5_weighed 41 = .ok (.iload 9, 2) := by decide +kernel
theorem dX5_weighed_43 : decode cX5_weighed 43 = .ok (.iload 13, 2) := by decide +kernel
theorem dX5_weighed_45 : decode cX5_weighed 45 = .ok (.invokestatic 266, 3) := by decide +kernel
theorem dX5_weighed_48 : decode cX5_weighed 48 = .ok (.ifCond .eq 9, 3) := by decide +kernel
theorem dX5_weighed_51 : decode cX5_weighed 51 = .ok (.iload 4, 2) := by decide +kernel
theorem dX5_weighed_53 : decode cX5_weighed 53 = .ok (.i2l, 1) := by decide +kernel
theorem dX5_weighed_54 : decode cX5_weighed 54 = .ok (.goto 9, 3) := by decide +kernel
theorem dX5_weighed_57 : decode cX5_weighed 57 = .ok (.bipush 12, 2) := by decide +kernel
theorem dX5_weighed_59 : decode cX5_weighed 59 = .ok (.iload 4, 2) := by decide +kernel
theorem dX5_weighed_61 : decode cX5_weighed 61 = .ok (.isub, 1) := by decide +kernel
theorem dX5_weighed_62 : decode cX5_weighed 62 = .ok (.i2l, 1) := by decide +kernel
theorem dX5_weighed_63 : decode cX5_weighed 63 = .ok (.lmul, 1) := by decide +kernel
theorem dX5_weighed_64 : decode cX5_weighed 64 = .ok (.lstore 10, 2) := by decide +kernel
theorem dX5_weighed_66 : decode cX5_weighed 66 = .ok (.iload 9, 2) := by decide +kernel
theorem dX5_weighed_68 : decode cX5_weighed 68 = .ok (.iload 13, 2) := by decide +kernel
theorem dX5_weighed_70 : decode cX5_weighed 70 = .ok (.invokestatic 266, 3) := by decide +kernel
theorem dX5_weighed_73 : decode cX5_weighed 73 = .ok (.ifCond .eq 8, 3) := by decide +kernel
theorem dX5_weighed_76 : decode cX5_weighed 76 = .ok (.iload 12, 2) := by decide +kernel
theorem dX5_weighed_78 : decode cX5_weighed 78 = .ok (.goto 31, 3) := by decide +kernel
theorem dX5_weighed_81 : decode cX5_weighed 81 = .ok (.aload_n 0, 1) := by decide +kernel
theorem dX5_weighed_82 : decode cX5_weighed 82 = .ok (.aload_n 0, 1) := by decide +kernel
theorem dX5_weighed_83 : decode cX5_weighed 83 = .ok (.getfield 22, 3) := by decide +kernel
theorem dX5_weighed_86 : decode cX5_weighed 86 = .ok (.iload_n 1, 1) := by decide +kernel
theorem dX5_weighed_87 : decode cX5_weighed 87 = .ok (.iaload, 1) := by decide +kernel
theorem dX5_weighed_88 : decode cX5_weighed 88 = .ok (.aload_n 0, 1) := by decide +kernel
theorem dX5_weighed_89 : decode cX5_weighed 89 = .ok (.getfield 25, 3) := by decide +kernel
theorem dX5_weighed_92 : decode cX5_weighed 92 = .ok (.iload_n 1, 1) := by decide +kernel
theorem dX5_weighed_93 : decode cX5_weighed 93 = .ok (.iaload, 1) := by decide +kernel
theorem dX5_weighed_94 : decode cX5_weighed 94 = .ok (.iload 12, 2) := by decide +kernel
theorem dX5_weighed_96 : decode cX5_weighed 96 = .ok (.aload_n 0, 1) := by decide +kernel
theorem dX5_weighed_97 : decode cX5_weighed 97 = .ok (.getfield 31, 3) := by decide +kernel
theorem dX5_weighed_100 : decode cX5_weighed 100 = .ok (.bipush 7, 2) := by decide +kernel
theorem dX5_weighed_102 : decode cX5_weighed 102 = .ok (.iaload, 1) := by decide +kernel
theorem dX5_weighed_103 : decode cX5_weighed 103 = .ok (.iload 13, 2) := by decide +kernel
theorem dX5_weighed_105 : decode cX5_weighed 105 = .ok (.iadd, 1) := by decide +kernel
theorem dX5_weighed_106 : decode cX5_weighed 106 = .ok (.invokevirtual 160, 3) := by decide +kernel
theorem dX5_weighed_109 : decode cX5_weighed 109 = .ok (.istore 12, 2) := by decide +kernel
theorem dX5_weighed_111 : decode cX5_weighed 111 = .ok (.iinc 13 1, 3) := by decide +kernel
theorem dX5_weighed_114 : decode cX5_weighed 114 = .ok (.goto (-81), 3) := by decide +kernel
theorem dX5_weighed_117 : decode cX5_weighed 117 = .ok (.lload 5, 2) := by decide +kernel
theorem dX5_weighed_119 : decode cX5_weighed 119 = .ok (.lload 10, 2) := by decide +kernel
theorem dX5_weighed_121 : decode cX5_weighed 121 = .ok (.iload_n 2, 1) := by decide +kernel
theorem dX5_weighed_122 : decode cX5_weighed 122 = .ok (.bipush (-9), 2) := by decide +kernel
theorem dX5_weighed_124 : decode cX5_weighed 124 = .ok (.if_icmp .ne 8, 3) := by decide +kernel
theorem dX5_weighed_127 : decode cX5_weighed 127 = .ok (.iload 12, 2) := by decide +kernel
theorem dX5_weighed_129 : decode cX5_weighed 129 = .ok (.goto 14, 3) := by decide +kernel
theorem dX5_weighed_132 : decode cX5_weighed 132 = .ok (.iload 12, 2) := by decide +kernel
theorem dX5_weighed_134 : decode cX5_weighed 134 = .ok (.iload_n 2, 1) := by decide +kernel
theorem dX5_weighed_135 : decode cX5_weighed 135 = .ok (.if_icmp .ne 7, 3) := by decide +kernel
theorem dX5_weighed_138 : decode cX5_weighed 138 = .ok (.iconst 1, 1) := by decide +kernel
theorem dX5_weighed_139 : decode cX5_weighed 139 = .ok (.goto 4, 3) := by decide +kernel
theorem dX5_weighed_142 : decode cX5_weighed 142 = .ok (.iconst 0, 1) := by decide +kernel
theorem dX5_weighed_143 : decode cX5_weighed 143 = .ok (.i2l, 1) := by decide +kernel
theorem dX5_weighed_144 : decode cX5_weighed 144 = .ok (.lmul, 1) := by decide +kernel
theorem dX5_weighed_145 : decode cX5_weighed 145 = .ok (.ladd, 1) := by decide +kernel
theorem dX5_weighed_146 : decode cX5_weighed 146 = .ok (.lstore 5, 2) := by decide +kernel
theorem dX5_weighed_148 : decode cX5_weighed 148 = .ok (.iinc 9 1, 3) := by decide +kernel
theorem dX5_weighed_151 : decode cX5_weighed 151 = .ok (.goto (-142), 3) := by decide +kernel
theorem dX5_weighed_154 : decode cX5_weighed 154 = .ok (.iconst 0, 1) := by decide +kernel
theorem dX5_weighed_155 : decode cX5_weighed 155 = .ok (.istore 9, 2) := by decide +kernel
theorem dX5_weighed_157 : decode cX5_weighed 157 = .ok (.iload 9, 2) := by decide +kernel
theorem dX5_weighed_159 : decode cX5_weighed 159 = .ok (.iload_n 3, 1) := by decide +kernel
theorem dX5_weighed_160 : decode cX5_weighed 160 = .ok (.if_icmp .ge 17, 3) := by decide +kernel
theorem dX5_weighed_163 : decode cX5_weighed 163 = .ok (.lload 7, 2) := by decide +kernel
theorem dX5_weighed_165 : decode cX5_weighed 165 = .ok (.ldc2_w 285, 3) := by decide +kernel
theorem dX5_weighed_168 : decode cX5_weighed 168 = .ok (.lmul, 1) := by decide +kernel
theorem dX5_weighed_169 : decode cX5_weighed 169 = .ok (.lstore 7, 2) := by decide +kernel
theorem dX5_weighed_171 : decode cX5_weighed 171 = .ok (.iinc 9 1, 3) := by decide +kernel
theorem dX5_weighed_174 : decode cX5_weighed 174 = .ok (.goto (-17), 3) := by decide +kernel
theorem dX5_weighed_177 : decode cX5_weighed 177 = .ok (.aload_n 0, 1) := by decide +kernel
theorem dX5_weighed_178 : decode cX5_weighed 178 = .ok (.lload 5, 2) := by decide +kernel
theorem dX5_weighed_180 : decode cX5_weighed 180 = .ok (.lload 7, 2) := by decide +kernel
theorem dX5_weighed_182 : decode cX5_weighed 182 = .ok (.invokevirtual 287, 3) := by decide +kernel
theorem dX5_weighed_185 : decode cX5_weighed 185 = .ok (.ireturn, 1) := by decide +kernel
theorem dX5_odds_0 : decode cX5_odds 0 = .ok (.aload_n 0, 1) := by decide +kernel
theorem dX5_odds_1 : decode cX5_odds 1 = .ok (.iload_n 1, 1) := by decide +kernel
theorem dX5_odds_2 : decode cX5_odds 2 = .ok (.invokevirtual 167, 3) := by decide +kernel
theorem dX5_odds_5 : decode cX5_odds 5 = .ok (.ifCond .eq 35, 3) := by decide +kernel
theorem dX5_odds_8 : decode cX5_odds 8 = .ok (.iload_n 2, 1) := by decide +kernel
theorem dX5_odds_9 : decode cX5_odds 9 = .ok (.invokestatic 191, 3) := by decide +kernel
theorem dX5_odds_12 : decode cX5_odds 12 = .ok (.ifCond .eq 28, 3) := by decide +kernel
theorem dX5_odds_15 : decode cX5_odds 15 = .ok (.iload_n 3, 1) := by decide +kernel
theorem dX5_odds_16 : decode cX5_odds 16 = .ok (.i2l, 1) := by decide +kernel
theorem dX5_odds_17 : decode cX5_odds 17 = .ok (.lconst 0, 1) := by decide +kernel
theorem dX5_odds_18 : decode cX5_odds 18 = .ok (.ldc2_w 291, 3) := by decide +kernel
theorem dX5_odds_21 : decode cX5_odds 21 = .ok (.invokestatic 84, 3) := by decide +kernel
theorem dX5_odds_24 : decode cX5_odds 24 = .ok (.ifCond .eq 16, 3) := by decide +kernel
theorem dX5_odds_27 : decode cX5_odds 27 = .ok (.iload 4, 2) := by decide +kernel
theorem dX5_odds_29 : decode cX5_odds 29 = .ok (.i2l, 1) := by decide +kernel
theorem dX5_odds_30 : decode cX5_odds 30 = .ok (.lconst 0, 1) := by decide +kernel
theorem dX5_odds_31 : decode cX5_odds 31 = .ok (.ldc2_w 285, 3) := by decide +kernel
theorem dX5_odds_34 : decode cX5_odds 34 = .ok (.invokestatic 84, 3) := by decide +kernel
theorem dX5_odds_37 : decode cX5_odds 37 = .ok (.ifCond .ne 5, 3) := by decide +kernel
theorem dX5_odds_40 : decode cX5_odds 40 = .ok (.iconst (-1), 1) := by decide +kernel
theorem dX5_odds_41 : decode cX5_odds 41 = .ok (.ireturn, 1) := by decide +kernel
theorem dX5_odds_42 : decode cX5_odds 42 = .ok (.aload_n 0, 1) := by decide +kernel
theorem dX5_odds_43 : decode cX5_odds 43 = .ok (.iload_n 1, 1) := by decide +kernel
theorem dX5_odds_44 : decode cX5_odds 44 = .ok (.invokevirtual 179, 3) := by decide +kernel
theorem dX5_odds_47 : decode cX5_odds 47 = .ok (.ifCond .eq 8, 3) := by decide +kernel
theorem dX5_odds_50 : decode cX5_odds 50 = .ok (.bipush (-4), 2) := by decide +kernel
theorem dX5_odds_52 : decode cX5_odds 52 = .ok (.goto 12, 3) := by decide +kernel
theorem dX5_odds_55 : decode cX5_odds 55 = .ok (.aload_n 0, 1) := by decide +kernel
theorem dX5_odds_56 : decode cX5_odds 56 = .ok (.iload_n 1, 1) := by decide +kernel
theorem dX5_odds_57 : decode cX5_odds 57 = .ok (.iload_n 2, 1) := by decide +kernel
theorem dX5_odds_58 : decode cX5_odds 58 = .ok (.iload_n 3, 1) := by decide +kernel
theorem dX5_odds_59 : decode cX5_odds 59 = .ok (.iload 4, 2) := by decide +kernel
theorem dX5_odds_61 : decode cX5_odds 61 = .ok (.invokevirtual 293, 3) := by decide +kernel
theorem dX5_odds_64 : decode cX5_odds 64 = .ok (.ireturn, 1) := by decide +kernel
theorem dX5_mid_0 : decode cX5_mid 0 = .ok (.aload_n 0, 1) := by decide +kernel
theorem dX5_mid_1 : decode cX5_mid 1 = .ok (.iload_n 1, 1) := by decide +kernel
theorem dX5_mid_2 : decode cX5_mid 2 = .ok (.invokevirtual 167, 3) := by decide +kernel
theorem dX5_mid_5 : decode cX5_mid 5 = .ok (.ifCond .eq 27, 3) := by decide +kernel
theorem dX5_mid_8 : decode cX5_mid 8 = .ok (.iload_n 2, 1) := by decide +kernel
theorem dX5_mid_9 : decode cX5_mid 9 = .ok (.i2l, 1) := by decide +kernel
theorem dX5_mid_10 : decode cX5_mid 10 = .ok (.lconst 0, 1) := by decide +kernel
theorem dX5_mid_11 : decode cX5_mid 11 = .ok (.ldc2_w 291, 3) := by decide +kernel
theorem dX5_mid_14 : decode cX5_mid 14 = .ok (.invokestatic 84, 3) := by decide +kernel
theorem dX5_mid_17 : decode cX5_mid 17 = .ok (.ifCond .eq 15, 3) := by decide +kernel
theorem dX5_mid_20 : decode cX5_mid 20 = .ok (.iload_n 3, 1) := by decide +kernel
theorem dX5_mid_21 : decode cX5_mid 21 = .ok (.i2l, 1) := by decide +kernel
theorem dX5_mid_22 : decode cX5_mid 22 = .ok (.lconst 0, 1) := by decide +kernel
theorem dX5_mid_23 : decode cX5_mid 23 = .ok (.ldc2_w 285, 3) := by decide +kernel
theorem dX5_mid_26 : decode cX5_mid 26 = .ok (.invokestatic 84, 3) := by decide +kernel
theorem dX5_mid_29 : decode cX5_mid 29 = .ok (.ifCond .ne 5, 3) := by decide +kernel
theorem dX5_mid_32 : decode cX5_mid 32 = .ok (.iconst (-1), 1) := by decide +kernel
theorem dX5_mid_33 : decode cX5_mid 33 = .ok (.ireturn, 1) := by decide +kernel
theorem dX5_mid_34 : decode cX5_mid 34 = .ok (.aload_n 0, 1) := by decide +kernel
theorem dX5_mid_35 : decode cX5_mid 35 = .ok (.iload_n 1, 1) := by decide +kernel
theorem dX5_mid_36 : decode cX5_mid 36 = .ok (.invokevirtual 179, 3) := by decide +kernel
theorem dX5_mid_39 : decode cX5_mid 39 = .ok (.ifCond .eq 8, 3) := by decide +kernel
theorem dX5_mid_42 : decode cX5_mid 42 = .ok (.bipush (-4), 2) := by decide +kernel
theorem dX5_mid_44 : decode cX5_mid 44 = .ok (.goto 12, 3) := by decide +kernel
theorem dX5_mid_47 : decode cX5_mid 47 = .ok (.aload_n 0, 1) := by decide +kernel
theorem dX5_mid_48 : decode cX5_mid 48 = .ok (.iload_n 1, 1) := by decide +kernel
theorem dX5_mid_49 : decode cX5_mid 49 = .ok (.bipush (-9), 2) := by decide +kernel
theorem dX5_mid_51 : decode cX5_mid 51 = .ok (.iload_n 2, 1) := by decide +kernel
theorem dX5_mid_52 : decode cX5_mid 52 = .ok (.iload_n 3, 1) := by decide +kernel
theorem dX5_mid_53 : decode cX5_mid 53 = .ok (.invokevirtual 293, 3) := by decide +kernel
theorem dX5_mid_56 : decode cX5_mid 56 = .ok (.ireturn, 1) := by decide +kernel
theorem dX5_plays_0 : decode cX5_plays 0 = .ok (.iload_n 1, 1) := by decide +kernel
theorem dX5_plays_1 : decode cX5_plays 1 = .ok (.ifCond .ne 11, 3) := by decide +kernel
theorem dX5_plays_4 : decode cX5_plays 4 = .ok (.aload_n 0, 1) := by decide +kernel
theorem dX5_plays_5 : decode cX5_plays 5 = .ok (.iconst 0, 1) := by decide +kernel
theorem dX5_plays_6 : decode cX5_plays 6 = .ok (.invokevirtual 215, 3) := by decide +kernel
theorem dX5_plays_9 : decode cX5_plays 9 = .ok (.goto 64, 3) := by decide +kernel
theorem dX5_plays_12 : decode cX5_plays 12 = .ok (.iload_n 1, 1) := by decide +kernel
theorem dX5_plays_13 : decode cX5_plays 13 = .ok (.iconst 1, 1) := by decide +kernel
theorem dX5_plays_14 : decode cX5_plays 14 = .ok (.if_icmp .ne 21, 3) := by decide +kernel
theorem dX5_plays_17 : decode cX5_plays 17 = .ok (.aload_n 0, 1) := by decide +kernel
theorem dX5_plays_18 : decode cX5_plays 18 = .ok (.iload_n 2, 1) := by decide +kernel
theorem dX5_plays_19 : decode cX5_plays 19 = .ok (.iconst 1, 1) := by decide +kernel
theorem dX5_plays_20 : decode cX5_plays 20 = .ok (.invokevirtual 219, 3) := by decide +kernel
theorem dX5_plays_23 : decode cX5_plays 23 = .ok (.ifCond .eq 12, 3) := by decide +kernel
theorem dX5_plays_26 : decode cX5_plays 26 = .ok (.aload_n 0, 1) := by decide +kernel
theorem dX5_plays_27 : decode cX5_plays 27 = .ok (.iload_n 2, 1) := by decide +kernel
theorem dX5_plays_28 : decode cX5_plays 28 = .ok (.iconst 1, 1) := by decide +kernel
theorem dX5_plays_29 : decode cX5_plays 29 = .ok (.invokevirtual 222, 3) := by decide +kernel
theorem dX5_plays_32 : decode cX5_plays 32 = .ok (.goto 41, 3) := by decide +kernel
theorem dX5_plays_35 : decode cX5_plays 35 = .ok (.iload_n 1, 1) := by decide +kernel
theorem dX5_plays_36 : decode cX5_plays 36 = .ok (.iconst 2, 1) := by decide +kernel
theorem dX5_plays_37 : decode cX5_plays 37 = .ok (.if_icmp .ne 19, 3) := by decide +kernel
theorem dX5_plays_40 : decode cX5_plays 40 = .ok (.aload_n 0, 1) := by decide +kernel
theorem dX5_plays_41 : decode cX5_plays 41 = .ok (.iload_n 2, 1) := by decide +kernel
theorem dX5_plays_42 : decode cX5_plays 42 = .ok (.invokevirtual 226, 3) := by decide +kernel
theorem dX5_plays_45 : decode cX5_plays 45 = .ok (.ifCond .eq 11, 3) := by decide +kernel
theorem dX5_plays_48 : decode cX5_plays 48 = .ok (.aload_n 0, 1) := by decide +kernel
theorem dX5_plays_49 : decode cX5_plays 49 = .ok (.iload_n 2, 1) := by decide +kernel
theorem dX5_plays_50 : decode cX5_plays 50 = .ok (.invokevirtual 232, 3) := by decide +kernel
theorem dX5_plays_53 : decode cX5_plays 53 = .ok (.goto 20, 3) := by decide +kernel
theorem dX5_plays_56 : decode cX5_plays 56 = .ok (.iload_n 1, 1) := by decide +kernel
theorem dX5_plays_57 : decode cX5_plays 57 = .ok (.iconst 3, 1) := by decide +kernel
theorem dX5_plays_58 : decode cX5_plays 58 = .ok (.if_icmp .ne 10, 3) := by decide +kernel
theorem dX5_plays_61 : decode cX5_plays 61 = .ok (.aload_n 0, 1) := by decide +kernel
theorem dX5_plays_62 : decode cX5_plays 62 = .ok (.invokevirtual 212, 3) := by decide +kernel
theorem dX5_plays_65 : decode cX5_plays 65 = .ok (.goto 8, 3) := by decide +kernel
theorem dX5_plays_68 : decode cX5_plays 68 = .ok (.aload_n 0, 1) := by decide +kernel
theorem dX5_plays_69 : decode cX5_plays 69 = .ok (.iconst 1, 1) := by decide +kernel
theorem dX5_plays_70 : decode cX5_plays 70 = .ok (.invokevirtual 215, 3) := by decide +kernel
theorem dX5_plays_73 : decode cX5_plays 73 = .ok (.return_, 1) := by decide +kernel
theorem dX5_lots_0 : decode cX5_lots 0 = .ok (.iload_n 1, 1) := by decide +kernel
theorem dX5_lots_1 : decode cX5_lots 1 = .ok (.i2l, 1) := by decide +kernel
theorem dX5_lots_2 : decode cX5_lots 2 = .ok (.lconst 1, 1) := by decide +kernel
theorem dX5_lots_3 : decode cX5_lots 3 = .ok (.ldc2_w 243, 3) := by decide +kernel
theorem dX5_lots_6 : decode cX5_lots 6 = .ok (.invokestatic 84, 3) := by decide +kernel
theorem dX5_lots_9 : decode cX5_lots 9 = .ok (.ifCond .eq 15, 3) := by decide +kernel
theorem dX5_lots_12 : decode cX5_lots 12 = .ok (.iload_n 2, 1) := by decide +kernel
theorem dX5_lots_13 : decode cX5_lots 13 = .ok (.i2l, 1) := by decide +kernel
theorem dX5_lots_14 : decode cX5_lots 14 = .ok (.lconst 1, 1) := by decide +kernel
theorem dX5_lots_15 : decode cX5_lots 15 = .ok (.ldc2_w 296, 3) := by decide +kernel
theorem dX5_lots_18 : decode cX5_lots 18 = .ok (.invokestatic 84, 3) := by decide +kernel
theorem dX5_lots_21 : decode cX5_lots 21 = .ok (.ifCond .ne 5, 3) := by decide +kernel
theorem dX5_lots_24 : decode cX5_lots 24 = .ok (.iconst (-1), 1) := by decide +kernel
theorem dX5_lots_25 : decode cX5_lots 25 = .ok (.ireturn, 1) := by decide +kernel
theorem dX5_lots_26 : decode cX5_lots 26 = .ok (.aload_n 0, 1) := by decide +kernel
theorem dX5_lots_27 : decode cX5_lots 27 = .ok (.getfield 142, 3) := by decide +kernel
theorem dX5_lots_30 : decode cX5_lots 30 = .ok (.ifCond .ne 6, 3) := by decide +kernel
theorem dX5_lots_33 : decode cX5_lots 33 = .ok (.bipush (-4), 2) := by decide +kernel
theorem dX5_lots_35 : decode cX5_lots 35 = .ok (.ireturn, 1) := by decide +kernel
theorem dX5_lots_36 : decode cX5_lots 36 = .ok (.aload_n 0, 1) := by decide +kernel
theorem dX5_lots_37 : decode cX5_lots 37 = .ok (.getfield 148, 3) := by decide +kernel
theorem dX5_lots_40 : decode cX5_lots 40 = .ok (.iload_n 1, 1) := by decide +kernel
theorem dX5_lots_41 : decode cX5_lots 41 = .ok (.iadd, 1) := by decide +kernel
theorem dX5_lots_42 : decode cX5_lots 42 = .ok (.bipush 40, 2) := by decide +kernel
theorem dX5_lots_44 : decode cX5_lots 44 = .ok (.if_icmp .le 6, 3) := by decide +kernel
theorem dX5_lots_47 : decode cX5_lots 47 = .ok (.bipush (-2), 2) := by decide +kernel
theorem dX5_lots_49 : decode cX5_lots 49 = .ok (.ireturn, 1) := by decide +kernel
theorem dX5_lots_50 : decode cX5_lots 50 = .ok (.iload_n 2, 1) := by decide +kernel
theorem dX5_lots_51 : decode cX5_lots 51 = .ok (.i2l, 1) := by decide +kernel
theorem dX5_lots_52 : decode cX5_lots 52 = .ok (.lstore_n 3, 1) := by decide +kernel
theorem dX5_lots_53 : decode cX5_lots 53 = .ok (.iconst 0, 1) := by decide +kernel
theorem dX5_lots_54 : decode cX5_lots 54 = .ok (.istore 5, 2) := by decide +kernel
theorem dX5_lots_56 : decode cX5_lots 56 = .ok (.iload 5, 2) := by decide +kernel
theorem dX5_lots_58 : decode cX5_lots 58 = .ok (.iload_n 1, 1) := by decide +kernel
theorem dX5_lots_59 : decode cX5_lots 59 = .ok (.if_icmp .ge 41, 3) := by decide +kernel
theorem dX5_lots_62 : decode cX5_lots 62 = .ok (.ldc2_w 298, 3) := by decide +kernel
theorem dX5_lots_65 : decode cX5_lots 65 = .ok (.lload_n 3, 1) := by decide +kernel
theorem dX5_lots_66 : decode cX5_lots 66 = .ok (.lmul, 1) := by decide +kernel
theorem dX5_lots_67 : decode cX5_lots 67 = .ok (.ldc2_w 300, 3) := by decide +kernel
theorem dX5_lots_70 : decode cX5_lots 70 = .ok (.lrem, 1) := by decide +kernel
theorem dX5_lots_71 : decode cX5_lots 71 = .ok (.lstore_n 3, 1) := by decide +kernel
theorem dX5_lots_72 : decode cX5_lots 72 = .ok (.aload_n 0, 1) := by decide +kernel
theorem dX5_lots_73 : decode cX5_lots 73 = .ok (.lload_n 3, 1) := by decide +kernel
theorem dX5_lots_74 : decode cX5_lots 74 = .ok (.ldc2_w 302, 3) := by decide +kernel
theorem dX5_lots_77 : decode cX5_lots 77 = .ok (.ldiv, 1) := by decide +kernel
theorem dX5_lots_78 : decode cX5_lots 78 = .ok (.ldc2_w 170, 3) := by decide +kernel
theorem dX5_lots_81 : decode cX5_lots 81 = .ok (.lrem, 1) := by decide +kernel
theorem dX5_lots_82 : decode cX5_lots 82 = .ok (.l2i, 1) := by decide +kernel
theorem dX5_lots_83 : decode cX5_lots 83 = .ok (.lload_n 3, 1) := by decide +kernel
theorem dX5_lots_84 : decode cX5_lots 84 = .ok (.aload_n 0, 1) := by decide +kernel
theorem dX5_lots_85 : decode cX5_lots 85 = .ok (.getfield 142, 3) := by decide +kernel
theorem dX5_lots_88 : decode cX5_lots 88 = .ok (.i2l, 1) := by decide +kernel
theorem dX5_lots_89 : decode cX5_lots 89 = .ok (.lrem, 1) := by decide +kernel
theorem dX5_lots_90 : decode cX5_lots 90 = .ok (.l2i, 1) := by decide +kernel
theorem dX5_lots_91 : decode cX5_lots 91 = .ok (.invokevirtual 304, 3) := by decide +kernel
theorem dX5_lots_94 : decode cX5_lots 94 = .ok (.iinc 5 1, 3) := by decide +kernel
theorem dX5_lots_97 : decode cX5_lots 97 = .ok (.goto (-41), 3) := by decide +kernel
theorem dX5_lots_100 : decode cX5_lots 100 = .ok (.aload_n 0, 1) := by decide +kernel
theorem dX5_lots_101 : decode cX5_lots 101 = .ok (.getfield 31, 3) := by decide +kernel
theorem dX5_lots_104 : decode cX5_lots 104 = .ok (.bipush 6, 2) := by decide +kernel
theorem dX5_lots_106 : decode cX5_lots 106 = .ok (.iaload, 1) := by decide +kernel
theorem dX5_lots_107 : decode cX5_lots 107 = .ok (.ireturn, 1) := by decide +kernel
theorem dX5_asked_0 : decode cX5_asked 0 = .ok (.aload_n 0, 1) := by decide +kernel
theorem dX5_asked_1 : decode cX5_asked 1 = .ok (.getfield 79, 3) := by decide +kernel
theorem dX5_asked_4 : decode cX5_asked 4 = .ok (.ireturn, 1) := by decide +kernel
theorem dX5_upper_0 : decode cX5_upper 0 = .ok (.aload_n 0, 1) := by decide +kernel
theorem dX5_upper_1 : decode cX5_upper 1 = .ok (.getfield 282, 3) := by decide +kernel
theorem dX5_upper_4 : decode cX5_upper 4 = .ok (.lreturn, 1) := by decide +kernel
theorem dX5_lower_0 : decode cX5_lower 0 = .ok (.aload_n 0, 1) := by decide +kernel
theorem dX5_lower_1 : decode cX5_lower 1 = .ok (.getfield 44, 3) := by decide +kernel
theorem dX5_lower_4 : decode cX5_lower 4 = .ok (.lreturn, 1) := by decide +kernel
theorem dX5_counted_0 : decode cX5_counted 0 = .ok (.iconst 0, 1) := by decide +kernel
theorem dX5_counted_1 : decode cX5_counted 1 = .ok (.istore_n 2, 1) := by decide +kernel
theorem dX5_counted_2 : decode cX5_counted 2 = .ok (.iconst 0, 1) := by decide +kernel
theorem dX5_counted_3 : decode cX5_counted 3 = .ok (.istore_n 3, 1) := by decide +kernel
theorem dX5_counted_4 : decode cX5_counted 4 = .ok (.iload_n 3, 1) := by decide +kernel
theorem dX5_counted_5 : decode cX5_counted 5 = .ok (.aload_n 0, 1) := by decide +kernel
theorem dX5_counted_6 : decode cX5_counted 6 = .ok (.getfield 142, 3) := by decide +kernel
theorem dX5_counted_9 : decode cX5_counted 9 = .ok (.if_icmp .ge 32, 3) := by decide +kernel
theorem dX5_counted_12 : decode cX5_counted 12 = .ok (.iload_n 1, 1) := by decide +kernel
theorem dX5_counted_13 : decode cX5_counted 13 = .ok (.iconst 5, 1) := by decide +kernel
theorem dX5_counted_14 : decode cX5_counted 14 = .ok (.if_icmp .ne 27, 3) := by decide +kernel
theorem dX5_counted_17 : decode cX5_counted 17 = .ok (.iload_n 2, 1) := by decide +kernel
theorem dX5_counted_18 : decode cX5_counted 18 = .ok (.aload_n 0, 1) := by decide +kernel
theorem dX5_counted_19 : decode cX5_counted 19 = .ok (.iload_n 3, 1) := by decide +kernel
theorem dX5_counted_20 : decode cX5_counted 20 = .ok (.invokevirtual 179, 3) := by decide +kernel
theorem dX5_counted_23 : decode cX5_counted 23 = .ok (.ifCond .eq 9, 3) := by decide +kernel
theorem dX5_counted_26 : decode cX5_counted 26 = .ok (.iconst 1, 1) := by decide +kernel
theorem dX5_counted_27 : decode cX5_counted 27 = .ok (.iload_n 3, 1) := by decide +kernel
theorem dX5_counted_28 : decode cX5_counted 28 = .ok (.ishl, 1) := by decide +kernel
theorem dX5_counted_29 : decode cX5_counted 29 = .ok (.goto 4, 3) := by decide +kernel
theorem dX5_counted_32 : decode cX5_counted 32 = .ok (.iconst 0, 1) := by decide +kernel
theorem dX5_counted_33 : decode cX5_counted 33 = .ok (.ior, 1) := by decide +kernel
theorem dX5_counted_34 : decode cX5_counted 34 = .ok (.istore_n 2, 1) := by decide +kernel
theorem dX5_counted_35 : decode cX5_counted 35 = .ok (.iinc 3 1, 3) := by decide +kernel
theorem dX5_counted_38 : decode cX5_counted 38 = .ok (.goto (-34), 3) := by decide +kernel
theorem dX5_counted_41 : decode cX5_counted 41 = .ok (.iconst 0, 1) := by decide +kernel
theorem dX5_counted_42 : decode cX5_counted 42 = .ok (.istore_n 3, 1) := by decide +kernel
theorem dX5_counted_43 : decode cX5_counted 43 = .ok (.iload_n 3, 1) := by decide +kernel
theorem dX5_counted_44 : decode cX5_counted 44 = .ok (.bipush 6, 2) := by decide +kernel
theorem dX5_counted_46 : decode cX5_counted 46 = .ok (.if_icmp .ge 32, 3) := by decide +kernel
theorem dX5_counted_49 : decode cX5_counted 49 = .ok (.iload_n 1, 1) := by decide +kernel
theorem dX5_counted_50 : decode cX5_counted 50 = .ok (.bipush 8, 2) := by decide +kernel
theorem dX5_counted_52 : decode cX5_counted 52 = .ok (.if_icmp .ne 26, 3) := by decide +kernel
theorem dX5_counted_55 : decode cX5_counted 55 = .ok (.iload_n 2, 1) := by decide +kernel
theorem dX5_counted_56 : decode cX5_counted 56 = .ok (.aload_n 0, 1) := by decide +kernel
theorem dX5_counted_57 : decode cX5_counted 57 = .ok (.getfield 7, 3) := by decide +kernel
theorem dX5_counted_60 : decode cX5_counted 60 = .ok (.iload_n 3, 1) := by decide +kernel
theorem dX5_counted_61 : decode cX5_counted 61 = .ok (.iaload, 1) := by decide +kernel
theorem dX5_counted_62 : decode cX5_counted 62 = .ok (.ifCond .ge 7, 3) := by decide +kernel
theorem dX5_counted_65 : decode cX5_counted 65 = .ok (.iconst 0, 1) := by decide +kernel
theorem dX5_counted_66 : decode cX5_counted 66 = .ok (.goto 4, 3) := by decide +kernel
theorem dX5_counted_69 : decode cX5_counted 69 = .ok (.iconst 1, 1) := by decide +kernel
theorem dX5_counted_70 : decode cX5_counted 70 = .ok (.iadd, 1) := by decide +kernel
theorem dX5_counted_71 : decode cX5_counted 71 = .ok (.istore_n 2, 1) := by decide +kernel
theorem dX5_counted_72 : decode cX5_counted 72 = .ok (.iinc 3 1, 3) := by decide +kernel
theorem dX5_counted_75 : decode cX5_counted 75 = .ok (.goto (-32), 3) := by decide +kernel
theorem dX5_counted_78 : decode cX5_counted 78 = .ok (.iconst 0, 1) := by decide +kernel
theorem dX5_counted_79 : decode cX5_counted 79 = .ok (.istore_n 3, 1) := by decide +kernel
theorem dX5_counted_80 : decode cX5_counted 80 = .ok (.iload_n 3, 1) := by decide +kernel
theorem dX5_counted_81 : decode cX5_counted 81 = .ok (.iconst 4, 1) := by decide +kernel
theorem dX5_counted_82 : decode cX5_counted 82 = .ok (.if_icmp .ge 32, 3) := by decide +kernel
theorem dX5_counted_85 : decode cX5_counted 85 = .ok (.iload_n 1, 1) := by decide +kernel
theorem dX5_counted_86 : decode cX5_counted 86 = .ok (.bipush 9, 2) := by decide +kernel
theorem dX5_counted_88 : decode cX5_counted 88 = .ok (.if_icmp .ne 26, 3) := by decide +kernel
theorem dX5_counted_91 : decode cX5_counted 91 = .ok (.iload_n 2, 1) := by decide +kernel
theorem dX5_counted_92 : decode cX5_counted 92 = .ok (.aload_n 0, 1) := by decide +kernel
theorem dX5_counted_93 : decode cX5_counted 93 = .ok (.getfield 16, 3) := by decide +kernel
theorem dX5_counted_96 : decode cX5_counted 96 = .ok (.iload_n 3, 1) := by decide +kernel
theorem dX5_counted_97 : decode cX5_counted 97 = .ok (.iaload, 1) := by decide +kernel
theorem dX5_counted_98 : decode cX5_counted 98 = .ok (.ifCond .ge 7, 3) := by decide +kernel
theorem dX5_counted_101 : decode cX5_counted 101 = .ok (.iconst 0, 1) := by decide +kernel
theorem dX5_counted_102 : decode cX5_counted 102 = .ok (.goto 4, 3) := by decide +kernel
theorem dX5_counted_105 : decode cX5_counted 105 = .ok (.iconst 1, 1) := by decide +kernel
theorem dX5_counted_106 : decode cX5_counted 106 = .ok (.iadd, 1) := by decide +kernel
theorem dX5_counted_107 : decode cX5_counted 107 = .ok (.istore_n 2, 1) := by decide +kernel
theorem dX5_counted_108 : decode cX5_counted 108 = .ok (.iinc 3 1, 3) := by decide +kernel
theorem dX5_counted_111 : decode cX5_counted 111 = .ok (.goto (-31), 3) := by decide +kernel
theorem dX5_counted_114 : decode cX5_counted 114 = .ok (.iconst 0, 1) := by decide +kernel
theorem dX5_counted_115 : decode cX5_counted 115 = .ok (.istore_n 3, 1) := by decide +kernel
theorem dX5_counted_116 : decode cX5_counted 116 = .ok (.iload_n 3, 1) := by decide +kernel
theorem dX5_counted_117 : decode cX5_counted 117 = .ok (.iconst 3, 1) := by decide +kernel
theorem dX5_counted_118 : decode cX5_counted 118 = .ok (.if_icmp .ge 32, 3) := by decide +kernel
theorem dX5_counted_121 : decode cX5_counted 121 = .ok (.iload_n 1, 1) := by decide +kernel
theorem dX5_counted_122 : decode cX5_counted 122 = .ok (.bipush 10, 2) := by decide +kernel
theorem dX5_counted_124 : decode cX5_counted 124 = .ok (.if_icmp .ne 26, 3) := by decide +kernel
theorem dX5_counted_127 : decode cX5_counted 127 = .ok (.iload_n 2, 1) := by decide +kernel
theorem dX5_counted_128 : decode cX5_counted 128 = .ok (.aload_n 0, 1) := by decide +kernel
theorem dX5_counted_129 : decode cX5_counted 129 = .ok (.getfield 40, 3) := by decide +kernel
theorem dX5_counted_132 : decode cX5_counted 132 = .ok (.iload_n 3, 1) := by decide +kernel
theorem dX5_counted_133 : decode cX5_counted 133 = .ok (.baload, 1) := by decide +kernel
theorem dX5_counted_134 : decode cX5_counted 134 = .ok (.ifCond .eq 7, 3) := by decide +kernel
theorem dX5_counted_137 : decode cX5_counted 137 = .ok (.iconst 1, 1) := by decide +kernel
theorem dX5_counted_138 : decode cX5_counted 138 = .ok (.goto 4, 3) := by decide +kernel
theorem dX5_counted_141 : decode cX5_counted 141 = .ok (.iconst 0, 1) := by decide +kernel
theorem dX5_counted_142 : decode cX5_counted 142 = .ok (.iadd, 1) := by decide +kernel
theorem dX5_counted_143 : decode cX5_counted 143 = .ok (.istore_n 2, 1) := by decide +kernel
theorem dX5_counted_144 : decode cX5_counted 144 = .ok (.iinc 3 1, 3) := by decide +kernel
theorem dX5_counted_147 : decode cX5_counted 147 = .ok (.goto (-31), 3) := by decide +kernel
theorem dX5_counted_150 : decode cX5_counted 150 = .ok (.iload_n 1, 1) := by decide +kernel
theorem dX5_counted_151 : decode cX5_counted 151 = .ok (.tableswitch 88 0 7 #[45, 50, 58, 63, 71, 88, 76, 82], 45) := by decide +kernel
theorem dX5_counted_196 : decode cX5_counted 196 = .ok (.aload_n 0, 1) := by decide +kernel
theorem dX5_counted_197 : decode cX5_counted 197 = .ok (.getfield 142, 3) := by decide +kernel
theorem dX5_counted_200 : decode cX5_counted 200 = .ok (.ireturn, 1) := by decide +kernel
theorem dX5_counted_201 : decode cX5_counted 201 = .ok (.aload_n 0, 1) := by decide +kernel
theorem dX5_counted_202 : decode cX5_counted 202 = .ok (.getfield 31, 3) := by decide +kernel
theorem dX5_counted_205 : decode cX5_counted 205 = .ok (.bipush 7, 2) := by decide +kernel
theorem dX5_counted_207 : decode cX5_counted 207 = .ok (.iaload, 1) := by decide +kernel
theorem dX5_counted_208 : decode cX5_counted 208 = .ok (.ireturn, 1) := by decide +kernel
theorem dX5_counted_209 : decode cX5_counted 209 = .ok (.aload_n 0, 1) := by decide +kernel
theorem dX5_counted_210 : decode cX5_counted 210 = .ok (.getfield 148, 3) := by decide +kernel
theorem dX5_counted_213 : decode cX5_counted 213 = .ok (.ireturn, 1) := by decide +kernel
theorem dX5_counted_214 : decode cX5_counted 214 = .ok (.aload_n 0, 1) := by decide +kernel
theorem dX5_counted_215 : decode cX5_counted 215 = .ok (.getfield 31, 3) := by decide +kernel
theorem dX5_counted_218 : decode cX5_counted 218 = .ok (.bipush 6, 2) := by decide +kernel
theorem dX5_counted_220 : decode cX5_counted 220 = .ok (.iaload, 1) := by decide +kernel
theorem dX5_counted_221 : decode cX5_counted 221 = .ok (.ireturn, 1) := by decide +kernel
theorem dX5_counted_222 : decode cX5_counted 222 = .ok (.aload_n 0, 1) := by decide +kernel
theorem dX5_counted_223 : decode cX5_counted 223 = .ok (.getfield 145, 3) := by decide +kernel
theorem dX5_counted_226 : decode cX5_counted 226 = .ok (.ireturn, 1) := by decide +kernel
theorem dX5_counted_227 : decode cX5_counted 227 = .ok (.aload_n 0, 1) := by decide +kernel
theorem dX5_counted_228 : decode cX5_counted 228 = .ok (.iconst 1, 1) := by decide +kernel
theorem dX5_counted_229 : decode cX5_counted 229 = .ok (.invokevirtual 188, 3) := by decide +kernel
theorem dX5_counted_232 : decode cX5_counted 232 = .ok (.ireturn, 1) := by decide +kernel
theorem dX5_counted_233 : decode cX5_counted 233 = .ok (.aload_n 0, 1) := by decide +kernel
theorem dX5_counted_234 : decode cX5_counted 234 = .ok (.iconst 2, 1) := by decide +kernel
theorem dX5_counted_235 : decode cX5_counted 235 = .ok (.invokevirtual 188, 3) := by decide +kernel
theorem dX5_counted_238 : decode cX5_counted 238 = .ok (.ireturn, 1) := by decide +kernel
theorem dX5_counted_239 : decode cX5_counted 239 = .ok (.iload_n 2, 1) := by decide +kernel
theorem dX5_counted_240 : decode cX5_counted 240 = .ok (.ireturn, 1) := by decide +kernel
theorem dX5_count_0 : decode cX5_count 0 = .ok (.iload_n 1, 1) := by decide +kernel
theorem dX5_count_1 : decode cX5_count 1 = .ok (.i2l, 1) := by decide +kernel
theorem dX5_count_2 : decode cX5_count 2 = .ok (.lconst 0, 1) := by decide +kernel
theorem dX5_count_3 : decode cX5_count 3 = .ok (.ldc2_w 307, 3) := by decide +kernel
theorem dX5_count_6 : decode cX5_count 6 = .ok (.invokestatic 84, 3) := by decide +kernel
theorem dX5_count_9 : decode cX5_count 9 = .ok (.ifCond .eq 11, 3) := by decide +kernel
theorem dX5_count_12 : decode cX5_count 12 = .ok (.aload_n 0, 1) := by decide +kernel
theorem dX5_count_13 : decode cX5_count 13 = .ok (.iload_n 1, 1) := by decide +kernel
theorem dX5_count_14 : decode cX5_count 14 = .ok (.invokevirtual 309, 3) := by decide +kernel
theorem dX5_count_17 : decode cX5_count 17 = .ok (.goto 4, 3) := by decide +kernel
theorem dX5_count_20 : decode cX5_count 20 = .ok (.iconst (-1), 1) := by decide +kernel
theorem dX5_count_21 : decode cX5_count 21 = .ok (.ireturn, 1) := by decide +kernel
theorem dX5_finding_0 : decode cX5_finding 0 = .ok (.aload_n 0, 1) := by decide +kernel
theorem dX5_finding_1 : decode cX5_finding 1 = .ok (.getfield 75, 3) := by decide +kernel
theorem dX5_finding_4 : decode cX5_finding 4 = .ok (.ireturn, 1) := by decide +kernel
theorem dX5_findings_0 : decode cX5_findings 0 = .ok (.iload_n 1, 1) := by decide +kernel
theorem dX5_findings_1 : decode cX5_findings 1 = .ok (.i2l, 1) := by decide +kernel
theorem dX5_findings_2 : decode cX5_findings 2 = .ok (.lconst 1, 1) := by decide +kernel
theorem dX5_findings_3 : decode cX5_findings 3 = .ok (.ldc2_w 82, 3) := by decide +kernel
theorem dX5_findings_6 : decode cX5_findings 6 = .ok (.invokestatic 84, 3) := by decide +kernel
theorem dX5_findings_9 : decode cX5_findings 9 = .ok (.ifCond .eq 12, 3) := by decide +kernel
theorem dX5_findings_12 : decode cX5_findings 12 = .ok (.aload_n 0, 1) := by decide +kernel
theorem dX5_findings_13 : decode cX5_findings 13 = .ok (.getfield 48, 3) := by decide +kernel
theorem dX5_findings_16 : decode cX5_findings 16 = .ok (.iload_n 1, 1) := by decide +kernel
theorem dX5_findings_17 : decode cX5_findings 17 = .ok (.iaload, 1) := by decide +kernel
theorem dX5_findings_18 : decode cX5_findings 18 = .ok (.goto 4, 3) := by decide +kernel
theorem dX5_findings_21 : decode cX5_findings 21 = .ok (.iconst (-1), 1) := by decide +kernel
theorem dX5_findings_22 : decode cX5_findings 22 = .ok (.ireturn, 1) := by decide +kernel
theorem dX5_digest_0 : decode cX5_digest 0 = .ok (.ldc2_w 312, 3) := by decide +kernel
theorem dX5_digest_3 : decode cX5_digest 3 = .ok (.lstore_n 1, 1) := by decide +kernel
theorem dX5_digest_4 : decode cX5_digest 4 = .ok (.iconst 0, 1) := by decide +kernel
theorem dX5_digest_5 : decode cX5_digest 5 = .ok (.istore_n 3, 1) := by decide +kernel
theorem dX5_digest_6 : decode cX5_digest 6 = .ok (.iload_n 3, 1) := by decide +kernel
theorem dX5_digest_7 : decode cX5_digest 7 = .ok (.bipush 11, 2) := by decide +kernel
theorem dX5_digest_9 : decode cX5_digest 9 = .ok (.if_icmp .ge 22, 3) := by decide +kernel
theorem dX5_digest_12 : decode cX5_digest 12 = .ok (.ldc2_w 314, 3) := by decide +kernel
theorem dX5_digest_15 : decode cX5_digest 15 = .ok (.lload_n 1, 1) := by decide +kernel
theorem dX5_digest_16 : decode cX5_digest 16 = .ok (.lmul, 1) := by decide +kernel
theorem dX5_digest_17 : decode cX5_digest 17 = .ok (.aload_n 0, 1) := by decide +kernel
theorem dX5_digest_18 : decode cX5_digest 18 = .ok (.iload_n 3, 1) := by decide +kernel
theorem dX5_digest_19 : decode cX5_digest 19 = .ok (.invokevirtual 309, 3) := by decide +kernel
theorem dX5_digest_22 : decode cX5_digest 22 = .ok (.i2l, 1) := by decide +kernel
theorem dX5_digest_23 : decode cX5_digest 23 = .ok (.ladd, 1) := by decide +kernel
theorem dX5_digest_24 : decode cX5_digest 24 = .ok (.lstore_n 1, 1) := by decide +kernel
theorem dX5_digest_25 : decode cX5_digest 25 = .ok (.iinc 3 1, 3) := by decide +kernel
theorem dX5_digest_28 : decode cX5_digest 28 = .ok (.goto (-22), 3) := by decide +kernel
theorem dX5_digest_31 : decode cX5_digest 31 = .ok (.iconst 0, 1) := by decide +kernel
theorem dX5_digest_32 : decode cX5_digest 32 = .ok (.istore_n 3, 1) := by decide +kernel
theorem dX5_digest_33 : decode cX5_digest 33 = .ok (.iload_n 3, 1) := by decide +kernel
theorem dX5_digest_34 : decode cX5_digest 34 = .ok (.aload_n 0, 1) := by decide +kernel
theorem dX5_digest_35 : decode cX5_digest 35 = .ok (.getfield 142, 3) := by decide +kernel
theorem dX5_digest_38 : decode cX5_digest 38 = .ok (.if_icmp .ge 39, 3) := by decide +kernel
theorem dX5_digest_41 : decode cX5_digest 41 = .ok (.iconst 0, 1) := by decide +kernel
theorem dX5_digest_42 : decode cX5_digest 42 = .ok (.istore 4, 2) := by decide +kernel
theorem dX5_digest_44 : decode cX5_digest 44 = .ok (.iload 4, 2) := by decide +kernel
theorem dX5_digest_46 : decode cX5_digest 46 = .ok (.iconst 5, 1) := by decide +kernel
theorem dX5_digest_47 : decode cX5_digest 47 = .ok (.if_icmp .ge 24, 3) := by decide +kernel
theorem dX5_digest_50 : decode cX5_digest 50 = .ok (.ldc2_w 314, 3) := by decide +kernel
theorem dX5_digest_53 : decode cX5_digest 53 = .ok (.lload_n 1, 1) := by decide +kernel
theorem dX5_digest_54 : decode cX5_digest 54 = .ok (.lmul, 1) := by decide +kernel
theorem dX5_digest_55 : decode cX5_digest 55 = .ok (.aload_n 0, 1) := by decide +kernel
theorem dX5_digest_56 : decode cX5_digest 56 = .ok (.iload_n 3, 1) := by decide +kernel
theorem dX5_digest_57 : decode cX5_digest 57 = .ok (.iload 4, 2) := by decide +kernel
theorem dX5_digest_59 : decode cX5_digest 59 = .ok (.invokevirtual 172, 3) := by decide +kernel
theorem dX5_digest_62 : decode cX5_digest 62 = .ok (.i2l, 1) := by decide +kernel
theorem dX5_digest_63 : decode cX5_digest 63 = .ok (.ladd, 1) := by decide +kernel
theorem dX5_digest_64 : decode cX5_digest 64 = .ok (.lstore_n 1, 1) := by decide +kernel
theorem dX5_digest_65 : decode cX5_digest 65 = .ok (.iinc 4 1, 3) := by decide +kernel
theorem dX5_digest_68 : decode cX5_digest 68 = .ok (.goto (-24), 3) := by decide +kernel
theorem dX5_digest_71 : decode cX5_digest 71 = .ok (.iinc 3 1, 3) := by decide +kernel
theorem dX5_digest_74 : decode cX5_digest 74 = .ok (.goto (-41), 3) := by decide +kernel
theorem dX5_digest_77 : decode cX5_digest 77 = .ok (.iconst 0, 1) := by decide +kernel
theorem dX5_digest_78 : decode cX5_digest 78 = .ok (.istore_n 3, 1) := by decide +kernel
theorem dX5_digest_79 : decode cX5_digest 79 = .ok (.iload_n 3, 1) := by decide +kernel
theorem dX5_digest_80 : decode cX5_digest 80 = .ok (.iconst 3, 1) := by decide +kernel
theorem dX5_digest_81 : decode cX5_digest 81 = .ok (.if_icmp .ge 44, 3) := by decide +kernel
theorem dX5_digest_84 : decode cX5_digest 84 = .ok (.ldc2_w 314, 3) := by decide +kernel
theorem dX5_digest_87 : decode cX5_digest 87 = .ok (.lload_n 1, 1) := by decide +kernel
theorem dX5_digest_88 : decode cX5_digest 88 = .ok (.lmul, 1) := by decide +kernel
theorem dX5_digest_89 : decode cX5_digest 89 = .ok (.aload_n 0, 1) := by decide +kernel
theorem dX5_digest_90 : decode cX5_digest 90 = .ok (.getfield 40, 3) := by decide +kernel
theorem dX5_digest_93 : decode cX5_digest 93 = .ok (.iload_n 3, 1) := by decide +kernel
theorem dX5_digest_94 : decode cX5_digest 94 = .ok (.baload, 1) := by decide +kernel
theorem dX5_digest_95 : decode cX5_digest 95 = .ok (.ifCond .eq 20, 3) := by decide +kernel
theorem dX5_digest_98 : decode cX5_digest 98 = .ok (.aload_n 0, 1) := by decide +kernel
theorem dX5_digest_99 : decode cX5_digest 99 = .ok (.getfield 37, 3) := by decide +kernel
theorem dX5_digest_102 : decode cX5_digest 102 = .ok (.sipush 329, 3) := by decide +kernel
theorem dX5_digest_105 : decode cX5_digest 105 = .ok (.iload_n 3, 1) := by decide +kernel
theorem dX5_digest_106 : decode cX5_digest 106 = .ok (.imul, 1) := by decide +kernel
theorem dX5_digest_107 : decode cX5_digest 107 = .ok (.sipush 328, 3) := by decide +kernel
theorem dX5_digest_110 : decode cX5_digest 110 = .ok (.iadd, 1) := by decide +kernel
theorem dX5_digest_111 : decode cX5_digest 111 = .ok (.iaload, 1) := by decide +kernel
theorem dX5_digest_112 : decode cX5_digest 112 = .ok (.goto 4, 3) := by decide +kernel
theorem dX5_digest_115 : decode cX5_digest 115 = .ok (.iconst (-1), 1) := by decide +kernel
theorem dX5_digest_116 : decode cX5_digest 116 = .ok (.i2l, 1) := by decide +kernel
theorem dX5_digest_117 : decode cX5_digest 117 = .ok (.ladd, 1) := by decide +kernel
theorem dX5_digest_118 : decode cX5_digest 118 = .ok (.lstore_n 1, 1) := by decide +kernel
theorem dX5_digest_119 : decode cX5_digest 119 = .ok (.iinc 3 1, 3) := by decide +kernel
theorem dX5_digest_122 : decode cX5_digest 122 = .ok (.goto (-43), 3) := by decide +kernel
theorem dX5_digest_125 : decode cX5_digest 125 = .ok (.iconst 0, 1) := by decide +kernel
theorem dX5_digest_126 : decode cX5_digest 126 = .ok (.istore_n 3, 1) := by decide +kernel
theorem dX5_digest_127 : decode cX5_digest 127 = .ok (.iload_n 3, 1) := by decide +kernel
theorem dX5_digest_128 : decode cX5_digest 128 = .ok (.bipush 6, 2) := by decide +kernel
theorem dX5_digest_130 : decode cX5_digest 130 = .ok (.if_icmp .ge 63, 3) := by decide +kernel
theorem dX5_digest_133 : decode cX5_digest 133 = .ok (.ldc2_w 314, 3) := by decide +kernel
theorem dX5_digest_136 : decode cX5_digest 136 = .ok (.lload_n 1, 1) := by decide +kernel
theorem dX5_digest_137 : decode cX5_digest 137 = .ok (.lmul, 1) := by decide +kernel
theorem dX5_digest_138 : decode cX5_digest 138 = .ok (.aload_n 0, 1) := by decide +kernel
theorem dX5_digest_139 : decode cX5_digest 139 = .ok (.getfield 7, 3) := by decide +kernel
theorem dX5_digest_142 : decode cX5_digest 142 = .ok (.iload_n 3, 1) := by decide +kernel
theorem dX5_digest_143 : decode cX5_digest 143 = .ok (.iaload, 1) := by decide +kernel
theorem dX5_digest_144 : decode cX5_digest 144 = .ok (.i2l, 1) := by decide +kernel
theorem dX5_digest_145 : decode cX5_digest 145 = .ok (.ladd, 1) := by decide +kernel
theorem dX5_digest_146 : decode cX5_digest 146 = .ok (.lstore_n 1, 1) := by decide +kernel
theorem dX5_digest_147 : decode cX5_digest 147 = .ok (.iconst 0, 1) := by decide +kernel
theorem dX5_digest_148 : decode cX5_digest 148 = .ok (.istore 4, 2) := by decide +kernel
theorem dX5_digest_150 : decode cX5_digest 150 = .ok (.iload 4, 2) := by decide +kernel
theorem dX5_digest_152 : decode cX5_digest 152 = .ok (.aload_n 0, 1) := by decide +kernel
theorem dX5_digest_153 : decode cX5_digest 153 = .ok (.getfield 7, 3) := by decide +kernel
theorem dX5_digest_156 : decode cX5_digest 156 = .ok (.iload_n 3, 1) := by decide +kernel
theorem dX5_digest_157 : decode cX5_digest 157 = .ok (.iaload, 1) := by decide +kernel
theorem dX5_digest_158 : decode cX5_digest 158 = .ok (.if_icmp .ge 29, 3) := by decide +kernel
theorem dX5_digest_161 : decode cX5_digest 161 = .ok (.ldc2_w 314, 3) := by decide +kernel
theorem dX5_digest_164 : decode cX5_digest 164 = .ok (.lload_n 1, 1) := by decide +kernel
theorem dX5_digest_165 : decode cX5_digest 165 = .ok (.lmul, 1) := by decide +kernel
theorem dX5_digest_166 : decode cX5_digest 166 = .ok (.aload_n 0, 1) := by decide +kernel
theorem dX5_digest_167 : decode cX5_digest 167 = .ok (.getfield 13, 3) := by decide +kernel
theorem dX5_digest_170 : decode cX5_digest 170 = .ok (.bipush 40, 2) := by decide +kernel
theorem dX5_digest_172 : decode cX5_digest 172 = .ok (.iload_n 3, 1) := by decide +kernel
theorem dX5_digest_173 : decode cX5_digest 173 = .ok (.imul, 1) := by decide +kernel
theorem dX5_digest_174 : decode cX5_digest 174 = .ok (.iload 4, 2) := by decide +kernel
theorem dX5_digest_176 : decode cX5_digest 176 = .ok (.iadd, 1) := by decide +kernel
theorem dX5_digest_177 : decode cX5_digest 177 = .ok (.iaload, 1) := by decide +kernel
theorem dX5_digest_178 : decode cX5_digest 178 = .ok (.i2l, 1) := by decide +kernel
theorem dX5_digest_179 : decode cX5_digest 179 = .ok (.ladd, 1) := by decide +kernel
theorem dX5_digest_180 : decode cX5_digest 180 = .ok (.lstore_n 1, 1) := by decide +kernel
theorem dX5_digest_181 : decode cX5_digest 181 = .ok (.iinc 4 1, 3) := by decide +kernel
theorem dX5_digest_184 : decode cX5_digest 184 = .ok (.goto (-34), 3) := by decide +kernel
theorem dX5_digest_187 : decode cX5_digest 187 = .ok (.iinc 3 1, 3) := by decide +kernel
theorem dX5_digest_190 : decode cX5_digest 190 = .ok (.goto (-63), 3) := by decide +kernel
theorem dX5_digest_193 : decode cX5_digest 193 = .ok (.iconst 0, 1) := by decide +kernel
theorem dX5_digest_194 : decode cX5_digest 194 = .ok (.istore_n 3, 1) := by decide +kernel
theorem dX5_digest_195 : decode cX5_digest 195 = .ok (.iload_n 3, 1) := by decide +kernel
theorem dX5_digest_196 : decode cX5_digest 196 = .ok (.iconst 4, 1) := by decide +kernel
theorem dX5_digest_197 : decode cX5_digest 197 = .ok (.if_icmp .ge 63, 3) := by decide +kernel
theorem dX5_digest_200 : decode cX5_digest 200 = .ok (.ldc2_w 314, 3) := by decide +kernel
theorem dX5_digest_203 : decode cX5_digest 203 = .ok (.lload_n 1, 1) := by decide +kernel
theorem dX5_digest_204 : decode cX5_digest 204 = .ok (.lmul, 1) := by decide +kernel
theorem dX5_digest_205 : decode cX5_digest 205 = .ok (.aload_n 0, 1) := by decide +kernel
theorem dX5_digest_206 : decode cX5_digest 206 = .ok (.getfield 16, 3) := by decide +kernel
theorem dX5_digest_209 : decode cX5_digest 209 = .ok (.iload_n 3, 1) := by decide +kernel
theorem dX5_digest_210 : decode cX5_digest 210 = .ok (.iaload, 1) := by decide +kernel
theorem dX5_digest_211 : decode cX5_digest 211 = .ok (.i2l, 1) := by decide +kernel
theorem dX5_digest_212 : decode cX5_digest 212 = .ok (.ladd, 1) := by decide +kernel
theorem dX5_digest_213 : decode cX5_digest 213 = .ok (.lstore_n 1, 1) := by decide +kernel
theorem dX5_digest_214 : decode cX5_digest 214 = .ok (.iconst 0, 1) := by decide +kernel
theorem dX5_digest_215 : decode cX5_digest 215 = .ok (.istore 4, 2) := by decide +kernel
theorem dX5_digest_217 : decode cX5_digest 217 = .ok (.iload 4, 2) := by decide +kernel
theorem dX5_digest_219 : decode cX5_digest 219 = .ok (.aload_n 0, 1) := by decide +kernel
theorem dX5_digest_220 : decode cX5_digest 220 = .ok (.getfield 16, 3) := by decide +kernel
theorem dX5_digest_223 : decode cX5_digest 223 = .ok (.iload_n 3, 1) := by decide +kernel
theorem dX5_digest_224 : decode cX5_digest 224 = .ok (.iaload, 1) := by decide +kernel
theorem dX5_digest_225 : decode cX5_digest 225 = .ok (.if_icmp .ge 29, 3) := by decide +kernel
theorem dX5_digest_228 : decode cX5_digest 228 = .ok (.ldc2_w 314, 3) := by decide +kernel
theorem dX5_digest_231 : decode cX5_digest 231 = .ok (.lload_n 1, 1) := by decide +kernel
theorem dX5_digest_232 : decode cX5_digest 232 = .ok (.lmul, 1) := by decide +kernel
theorem dX5_digest_233 : decode cX5_digest 233 = .ok (.aload_n 0, 1) := by decide +kernel
theorem dX5_digest_234 : decode cX5_digest 234 = .ok (.getfield 19, 3) := by decide +kernel
theorem dX5_digest_237 : decode cX5_digest 237 = .ok (.bipush 60, 2) := by decide +kernel
theorem dX5_digest_239 : decode cX5_digest 239 = .ok (.iload_n 3, 1) := by decide +kernel
theorem dX5_digest_240 : decode cX5_digest 240 = .ok (.imul, 1) := by decide +kernel
theorem dX5_digest_241 : decode cX5_digest 241 = .ok (.iload 4, 2) := by decide +kernel
theorem dX5_digest_243 : decode cX5_digest 243 = .ok (.iadd, 1) := by decide +kernel
theorem dX5_digest_244 : decode cX5_digest 244 = .ok (.iaload, 1) := by decide +kernel
theorem dX5_digest_245 : decode cX5_digest 245 = .ok (.i2l, 1) := by decide +kernel
theorem dX5_digest_246 : decode cX5_digest 246 = .ok (.ladd, 1) := by decide +kernel
theorem dX5_digest_247 : decode cX5_digest 247 = .ok (.lstore_n 1, 1) := by decide +kernel
theorem dX5_digest_248 : decode cX5_digest 248 = .ok (.iinc 4 1, 3) := by decide +kernel
theorem dX5_digest_251 : decode cX5_digest 251 = .ok (.goto (-34), 3) := by decide +kernel
theorem dX5_digest_254 : decode cX5_digest 254 = .ok (.iinc 3 1, 3) := by decide +kernel
theorem dX5_digest_257 : decode cX5_digest 257 = .ok (.goto (-62), 3) := by decide +kernel
theorem dX5_digest_260 : decode cX5_digest 260 = .ok (.lload_n 1, 1) := by decide +kernel
theorem dX5_digest_261 : decode cX5_digest 261 = .ok (.lreturn, 1) := by decide +kernel
theorem dJ6_numberOfTrailingZeros_0f7a4_0 : decode cJ6_numberOfTrailingZeros_0f7a4 0 = .ok (.iload_n 0, 1) := by decide +kernel
theorem dJ6_numberOfTrailingZeros_0f7a4_1 : decode cJ6_numberOfTrailingZeros_0f7a4 1 = .ok (.iconst (-1), 1) := by decide +kernel
theorem dJ6_numberOfTrailingZeros_0f7a4_2 : decode cJ6_numberOfTrailingZeros_0f7a4 2 = .ok (.ixor, 1) := by decide +kernel
theorem dJ6_numberOfTrailingZeros_0f7a4_3 : decode cJ6_numberOfTrailingZeros_0f7a4 3 = .ok (.iload_n 0, 1) := by decide +kernel
theorem dJ6_numberOfTrailingZeros_0f7a4_4 : decode cJ6_numberOfTrailingZeros_0f7a4 4 = .ok (.iconst 1, 1) := by decide +kernel
theorem dJ6_numberOfTrailingZeros_0f7a4_5 : decode cJ6_numberOfTrailingZeros_0f7a4 5 = .ok (.isub, 1) := by decide +kernel
theorem dJ6_numberOfTrailingZeros_0f7a4_6 : decode cJ6_numberOfTrailingZeros_0f7a4 6 = .ok (.iand, 1) := by decide +kernel
theorem dJ6_numberOfTrailingZeros_0f7a4_7 : decode cJ6_numberOfTrailingZeros_0f7a4 7 = .ok (.istore_n 0, 1) := by decide +kernel
theorem dJ6_numberOfTrailingZeros_0f7a4_8 : decode cJ6_numberOfTrailingZeros_0f7a4 8 = .ok (.iload_n 0, 1) := by decide +kernel
theorem dJ6_numberOfTrailingZeros_0f7a4_9 : decode cJ6_numberOfTrailingZeros_0f7a4 9 = .ok (.ifCond .gt 8, 3) := by decide +kernel
theorem dJ6_numberOfTrailingZeros_0f7a4_12 : decode cJ6_numberOfTrailingZeros_0f7a4 12 = .ok (.iload_n 0, 1) := by decide +kernel
theorem dJ6_numberOfTrailingZeros_0f7a4_13 : decode cJ6_numberOfTrailingZeros_0f7a4 13 = .ok (.bipush 32, 2) := by decide +kernel
theorem dJ6_numberOfTrailingZeros_0f7a4_15 : decode cJ6_numberOfTrailingZeros_0f7a4 15 = .ok (.iand, 1) := by decide +kernel
theorem dJ6_numberOfTrailingZeros_0f7a4_16 : decode cJ6_numberOfTrailingZeros_0f7a4 16 = .ok (.ireturn, 1) := by decide +kernel
theorem dJ6_numberOfTrailingZeros_0f7a4_17 : decode cJ6_numberOfTrailingZeros_0f7a4 17 = .ok (.iconst 1, 1) := by decide +kernel
theorem dJ6_numberOfTrailingZeros_0f7a4_18 : decode cJ6_numberOfTrailingZeros_0f7a4 18 = .ok (.istore_n 1, 1) := by decide +kernel
theorem dJ6_numberOfTrailingZeros_0f7a4_19 : decode cJ6_numberOfTrailingZeros_0f7a4 19 = .ok (.iload_n 0, 1) := by decide +kernel
theorem dJ6_numberOfTrailingZeros_0f7a4_20 : decode cJ6_numberOfTrailingZeros_0f7a4 20 = .ok (.ldc_w 264, 3) := by decide +kernel
theorem dJ6_numberOfTrailingZeros_0f7a4_23 : decode cJ6_numberOfTrailingZeros_0f7a4 23 = .ok (.if_icmp .le 11, 3) := by decide +kernel
theorem dJ6_numberOfTrailingZeros_0f7a4_26 : decode cJ6_numberOfTrailingZeros_0f7a4 26 = .ok (.iinc 1 16, 3) := by decide +kernel
theorem dJ6_numberOfTrailingZeros_0f7a4_29 : decode cJ6_numberOfTrailingZeros_0f7a4 29 = .ok (.iload_n 0, 1) := by decide +kernel
theorem dJ6_numberOfTrailingZeros_0f7a4_30 : decode cJ6_numberOfTrailingZeros_0f7a4 30 = .ok (.bipush 16, 2) := by decide +kernel
theorem dJ6_numberOfTrailingZeros_0f7a4_32 : decode cJ6_numberOfTrailingZeros_0f7a4 32 = .ok (.iushr, 1) := by decide +kernel
theorem dJ6_numberOfTrailingZeros_0f7a4_33 : decode cJ6_numberOfTrailingZeros_0f7a4 33 = .ok (.istore_n 0, 1) := by decide +kernel
theorem dJ6_numberOfTrailingZeros_0f7a4_34 : decode cJ6_numberOfTrailingZeros_0f7a4 34 = .ok (.iload_n 0, 1) := by decide +kernel
theorem dJ6_numberOfTrailingZeros_0f7a4_35 : decode cJ6_numberOfTrailingZeros_0f7a4 35 = .ok (.sipush 256, 3) := by decide +kernel
theorem dJ6_numberOfTrailingZeros_0f7a4_38 : decode cJ6_numberOfTrailingZeros_0f7a4 38 = .ok (.if_icmp .le 11, 3) := by decide +kernel
theorem dJ6_numberOfTrailingZeros_0f7a4_41 : decode cJ6_numberOfTrailingZeros_0f7a4 41 = .ok (.iinc 1 8, 3) := by decide +kernel
theorem dJ6_numberOfTrailingZeros_0f7a4_44 : decode cJ6_numberOfTrailingZeros_0f7a4 44 = .ok (.iload_n 0, 1) := by decide +kernel
theorem dJ6_numberOfTrailingZeros_0f7a4_45 : decode cJ6_numberOfTrailingZeros_0f7a4 45 = .ok (.bipush 8, 2) := by decide +kernel
theorem dJ6_numberOfTrailingZeros_0f7a4_47 : decode cJ6_numberOfTrailingZeros_0f7a4 47 = .ok (.iushr, 1) := by decide +kernel
theorem dJ6_numberOfTrailingZeros_0f7a4_48 : decode cJ6_numberOfTrailingZeros_0f7a4 48 = .ok (.istore_n 0, 1) := by decide +kernel
theorem dJ6_numberOfTrailingZeros_0f7a4_49 : decode cJ6_numberOfTrailingZeros_0f7a4 49 = .ok (.iload_n 0, 1) := by decide +kernel
theorem dJ6_numberOfTrailingZeros_0f7a4_50 : decode cJ6_numberOfTrailingZeros_0f7a4 50 = .ok (.bipush 16, 2) := by decide +kernel
theorem dJ6_numberOfTrailingZeros_0f7a4_52 : decode cJ6_numberOfTrailingZeros_0f7a4 52 = .ok (.if_icmp .le 10, 3) := by decide +kernel
theorem dJ6_numberOfTrailingZeros_0f7a4_55 : decode cJ6_numberOfTrailingZeros_0f7a4 55 = .ok (.iinc 1 4, 3) := by decide +kernel
theorem dJ6_numberOfTrailingZeros_0f7a4_58 : decode cJ6_numberOfTrailingZeros_0f7a4 58 = .ok (.iload_n 0, 1) := by decide +kernel
theorem dJ6_numberOfTrailingZeros_0f7a4_59 : decode cJ6_numberOfTrailingZeros_0f7a4 59 = .ok (.iconst 4, 1) := by decide +kernel
theorem dJ6_numberOfTrailingZeros_0f7a4_60 : decode cJ6_numberOfTrailingZeros_0f7a4 60 = .ok (.iushr, 1) := by decide +kernel
theorem dJ6_numberOfTrailingZeros_0f7a4_61 : decode cJ6_numberOfTrailingZeros_0f7a4 61 = .ok (.istore_n 0, 1) := by decide +kernel
theorem dJ6_numberOfTrailingZeros_0f7a4_62 : decode cJ6_numberOfTrailingZeros_0f7a4 62 = .ok (.iload_n 0, 1) := by decide +kernel
theorem dJ6_numberOfTrailingZeros_0f7a4_63 : decode cJ6_numberOfTrailingZeros_0f7a4 63 = .ok (.iconst 4, 1) := by decide +kernel
theorem dJ6_numberOfTrailingZeros_0f7a4_64 : decode cJ6_numberOfTrailingZeros_0f7a4 64 = .ok (.if_icmp .le 10, 3) := by decide +kernel
theorem dJ6_numberOfTrailingZeros_0f7a4_67 : decode cJ6_numberOfTrailingZeros_0f7a4 67 = .ok (.iinc 1 2, 3) := by decide +kernel
theorem dJ6_numberOfTrailingZeros_0f7a4_70 : decode cJ6_numberOfTrailingZeros_0f7a4 70 = .ok (.iload_n 0, 1) := by decide +kernel
theorem dJ6_numberOfTrailingZeros_0f7a4_71 : decode cJ6_numberOfTrailingZeros_0f7a4 71 = .ok (.iconst 2, 1) := by decide +kernel
theorem dJ6_numberOfTrailingZeros_0f7a4_72 : decode cJ6_numberOfTrailingZeros_0f7a4 72 = .ok (.iushr, 1) := by decide +kernel
theorem dJ6_numberOfTrailingZeros_0f7a4_73 : decode cJ6_numberOfTrailingZeros_0f7a4 73 = .ok (.istore_n 0, 1) := by decide +kernel
theorem dJ6_numberOfTrailingZeros_0f7a4_74 : decode cJ6_numberOfTrailingZeros_0f7a4 74 = .ok (.iload_n 1, 1) := by decide +kernel
theorem dJ6_numberOfTrailingZeros_0f7a4_75 : decode cJ6_numberOfTrailingZeros_0f7a4 75 = .ok (.iload_n 0, 1) := by decide +kernel
theorem dJ6_numberOfTrailingZeros_0f7a4_76 : decode cJ6_numberOfTrailingZeros_0f7a4 76 = .ok (.iconst 1, 1) := by decide +kernel
theorem dJ6_numberOfTrailingZeros_0f7a4_77 : decode cJ6_numberOfTrailingZeros_0f7a4 77 = .ok (.iushr, 1) := by decide +kernel
theorem dJ6_numberOfTrailingZeros_0f7a4_78 : decode cJ6_numberOfTrailingZeros_0f7a4 78 = .ok (.iadd, 1) := by decide +kernel
theorem dJ6_numberOfTrailingZeros_0f7a4_79 : decode cJ6_numberOfTrailingZeros_0f7a4 79 = .ok (.ireturn, 1) := by decide +kernel
theorem dJ6_bitCount_0f7a4_0 : decode cJ6_bitCount_0f7a4 0 = .ok (.iload_n 0, 1) := by decide +kernel
theorem dJ6_bitCount_0f7a4_1 : decode cJ6_bitCount_0f7a4 1 = .ok (.iload_n 0, 1) := by decide +kernel
theorem dJ6_bitCount_0f7a4_2 : decode cJ6_bitCount_0f7a4 2 = .ok (.iconst 1, 1) := by decide +kernel
theorem dJ6_bitCount_0f7a4_3 : decode cJ6_bitCount_0f7a4 3 = .ok (.iushr, 1) := by decide +kernel
theorem dJ6_bitCount_0f7a4_4 : decode cJ6_bitCount_0f7a4 4 = .ok (.ldc_w 265, 3) := by decide +kernel
theorem dJ6_bitCount_0f7a4_7 : decode cJ6_bitCount_0f7a4 7 = .ok (.iand, 1) := by decide +kernel
theorem dJ6_bitCount_0f7a4_8 : decode cJ6_bitCount_0f7a4 8 = .ok (.isub, 1) := by decide +kernel
theorem dJ6_bitCount_0f7a4_9 : decode cJ6_bitCount_0f7a4 9 = .ok (.istore_n 0, 1) := by decide +kernel
theorem dJ6_bitCount_0f7a4_10 : decode cJ6_bitCount_0f7a4 10 = .ok (.iload_n 0, 1) := by decide +kernel
theorem dJ6_bitCount_0f7a4_11 : decode cJ6_bitCount_0f7a4 11 = .ok (.ldc_w 266, 3) := by decide +kernel
theorem dJ6_bitCount_0f7a4_14 : decode cJ6_bitCount_0f7a4 14 = .ok (.iand, 1) := by decide +kernel
theorem dJ6_bitCount_0f7a4_15 : decode cJ6_bitCount_0f7a4 15 = .ok (.iload_n 0, 1) := by decide +kernel
theorem dJ6_bitCount_0f7a4_16 : decode cJ6_bitCount_0f7a4 16 = .ok (.iconst 2, 1) := by decide +kernel
theorem dJ6_bitCount_0f7a4_17 : decode cJ6_bitCount_0f7a4 17 = .ok (.iushr, 1) := by decide +kernel
theorem dJ6_bitCount_0f7a4_18 : decode cJ6_bitCount_0f7a4 18 = .ok (.ldc_w 266, 3) := by decide +kernel
theorem dJ6_bitCount_0f7a4_21 : decode cJ6_bitCount_0f7a4 21 = .ok (.iand, 1) := by decide +kernel
theorem dJ6_bitCount_0f7a4_22 : decode cJ6_bitCount_0f7a4 22 = .ok (.iadd, 1) := by decide +kernel
theorem dJ6_bitCount_0f7a4_23 : decode cJ6_bitCount_0f7a4 23 = .ok (.istore_n 0, 1) := by decide +kernel
theorem dJ6_bitCount_0f7a4_24 : decode cJ6_bitCount_0f7a4 24 = .ok (.iload_n 0, 1) := by decide +kernel
theorem dJ6_bitCount_0f7a4_25 : decode cJ6_bitCount_0f7a4 25 = .ok (.iload_n 0, 1) := by decide +kernel
theorem dJ6_bitCount_0f7a4_26 : decode cJ6_bitCount_0f7a4 26 = .ok (.iconst 4, 1) := by decide +kernel
theorem dJ6_bitCount_0f7a4_27 : decode cJ6_bitCount_0f7a4 27 = .ok (.iushr, 1) := by decide +kernel
theorem dJ6_bitCount_0f7a4_28 : decode cJ6_bitCount_0f7a4 28 = .ok (.iadd, 1) := by decide +kernel
theorem dJ6_bitCount_0f7a4_29 : decode cJ6_bitCount_0f7a4 29 = .ok (.ldc_w 267, 3) := by decide +kernel
theorem dJ6_bitCount_0f7a4_32 : decode cJ6_bitCount_0f7a4 32 = .ok (.iand, 1) := by decide +kernel
theorem dJ6_bitCount_0f7a4_33 : decode cJ6_bitCount_0f7a4 33 = .ok (.istore_n 0, 1) := by decide +kernel
theorem dJ6_bitCount_0f7a4_34 : decode cJ6_bitCount_0f7a4 34 = .ok (.iload_n 0, 1) := by decide +kernel
theorem dJ6_bitCount_0f7a4_35 : decode cJ6_bitCount_0f7a4 35 = .ok (.iload_n 0, 1) := by decide +kernel
theorem dJ6_bitCount_0f7a4_36 : decode cJ6_bitCount_0f7a4 36 = .ok (.bipush 8, 2) := by decide +kernel
theorem dJ6_bitCount_0f7a4_38 : decode cJ6_bitCount_0f7a4 38 = .ok (.iushr, 1) := by decide +kernel
theorem dJ6_bitCount_0f7a4_39 : decode cJ6_bitCount_0f7a4 39 = .ok (.iadd, 1) := by decide +kernel
theorem dJ6_bitCount_0f7a4_40 : decode cJ6_bitCount_0f7a4 40 = .ok (.istore_n 0, 1) := by decide +kernel
theorem dJ6_bitCount_0f7a4_41 : decode cJ6_bitCount_0f7a4 41 = .ok (.iload_n 0, 1) := by decide +kernel
theorem dJ6_bitCount_0f7a4_42 : decode cJ6_bitCount_0f7a4 42 = .ok (.iload_n 0, 1) := by decide +kernel
theorem dJ6_bitCount_0f7a4_43 : decode cJ6_bitCount_0f7a4 43 = .ok (.bipush 16, 2) := by decide +kernel
theorem dJ6_bitCount_0f7a4_45 : decode cJ6_bitCount_0f7a4 45 = .ok (.iushr, 1) := by decide +kernel
theorem dJ6_bitCount_0f7a4_46 : decode cJ6_bitCount_0f7a4 46 = .ok (.iadd, 1) := by decide +kernel
theorem dJ6_bitCount_0f7a4_47 : decode cJ6_bitCount_0f7a4 47 = .ok (.istore_n 0, 1) := by decide +kernel
theorem dJ6_bitCount_0f7a4_48 : decode cJ6_bitCount_0f7a4 48 = .ok (.iload_n 0, 1) := by decide +kernel
theorem dJ6_bitCount_0f7a4_49 : decode cJ6_bitCount_0f7a4 49 = .ok (.bipush 63, 2) := by decide +kernel
theorem dJ6_bitCount_0f7a4_51 : decode cJ6_bitCount_0f7a4 51 = .ok (.iand, 1) := by decide +kernel
theorem dJ6_bitCount_0f7a4_52 : decode cJ6_bitCount_0f7a4 52 = .ok (.ireturn, 1) := by decide +kernel
theorem dJ9_floorMod_7cf53_0 : decode cJ9_floorMod_7cf53 0 = .ok (.iload_n 0, 1) := by decide +kernel
theorem dJ9_floorMod_7cf53_1 : decode cJ9_floorMod_7cf53 1 = .ok (.iload_n 1, 1) := by decide +kernel
theorem dJ9_floorMod_7cf53_2 : decode cJ9_floorMod_7cf53 2 = .ok (.irem, 1) := by decide +kernel
theorem dJ9_floorMod_7cf53_3 : decode cJ9_floorMod_7cf53 3 = .ok (.istore_n 2, 1) := by decide +kernel
theorem dJ9_floorMod_7cf53_4 : decode cJ9_floorMod_7cf53 4 = .ok (.iload_n 0, 1) := by decide +kernel
theorem dJ9_floorMod_7cf53_5 : decode cJ9_floorMod_7cf53 5 = .ok (.iload_n 1, 1) := by decide +kernel
theorem dJ9_floorMod_7cf53_6 : decode cJ9_floorMod_7cf53 6 = .ok (.ixor, 1) := by decide +kernel
theorem dJ9_floorMod_7cf53_7 : decode cJ9_floorMod_7cf53 7 = .ok (.ifCond .ge 11, 3) := by decide +kernel
theorem dJ9_floorMod_7cf53_10 : decode cJ9_floorMod_7cf53 10 = .ok (.iload_n 2, 1) := by decide +kernel
theorem dJ9_floorMod_7cf53_11 : decode cJ9_floorMod_7cf53 11 = .ok (.ifCond .eq 7, 3) := by decide +kernel
theorem dJ9_floorMod_7cf53_14 : decode cJ9_floorMod_7cf53 14 = .ok (.iload_n 2, 1) := by decide +kernel
theorem dJ9_floorMod_7cf53_15 : decode cJ9_floorMod_7cf53 15 = .ok (.iload_n 1, 1) := by decide +kernel
theorem dJ9_floorMod_7cf53_16 : decode cJ9_floorMod_7cf53 16 = .ok (.iadd, 1) := by decide +kernel
theorem dJ9_floorMod_7cf53_17 : decode cJ9_floorMod_7cf53 17 = .ok (.ireturn, 1) := by decide +kernel
theorem dJ9_floorMod_7cf53_18 : decode cJ9_floorMod_7cf53 18 = .ok (.iload_n 2, 1) := by decide +kernel
theorem dJ9_floorMod_7cf53_19 : decode cJ9_floorMod_7cf53 19 = .ok (.ireturn, 1) := by decide +kernel
theorem dJ9_abs_0f7a4_0 : decode cJ9_abs_0f7a4 0 = .ok (.iload_n 0, 1) := by decide +kernel
theorem dJ9_abs_0f7a4_1 : decode cJ9_abs_0f7a4 1 = .ok (.ifCond .ge 8, 3) := by decide +kernel
theorem dJ9_abs_0f7a4_4 : decode cJ9_abs_0f7a4 4 = .ok (.iload_n 0, 1) := by decide +kernel
theorem dJ9_abs_0f7a4_5 : decode cJ9_abs_0f7a4 5 = .ok (.ineg, 1) := by decide +kernel
theorem dJ9_abs_0f7a4_6 : decode cJ9_abs_0f7a4 6 = .ok (.goto 4, 3) := by decide +kernel
theorem dJ9_abs_0f7a4_9 : decode cJ9_abs_0f7a4 9 = .ok (.iload_n 0, 1) := by decide +kernel
theorem dJ9_abs_0f7a4_10 : decode cJ9_abs_0f7a4 10 = .ok (.ireturn, 1) := by decide +kernel
theorem dJ9_max_7cf53_0 : decode cJ9_max_7cf53 0 = .ok (.iload_n 0, 1) := by decide +kernel
theorem dJ9_max_7cf53_1 : decode cJ9_max_7cf53 1 = .ok (.iload_n 1, 1) := by decide +kernel
theorem dJ9_max_7cf53_2 : decode cJ9_max_7cf53 2 = .ok (.if_icmp .lt 7, 3) := by decide +kernel
theorem dJ9_max_7cf53_5 : decode cJ9_max_7cf53 5 = .ok (.iload_n 0, 1) := by decide +kernel
theorem dJ9_max_7cf53_6 : decode cJ9_max_7cf53 6 = .ok (.goto 4, 3) := by decide +kernel
theorem dJ9_max_7cf53_9 : decode cJ9_max_7cf53 9 = .ok (.iload_n 1, 1) := by decide +kernel
theorem dJ9_max_7cf53_10 : decode cJ9_max_7cf53 10 = .ok (.ireturn, 1) := by decide +kernel
theorem dJ9_min_7cf53_0 : decode cJ9_min_7cf53 0 = .ok (.iload_n 0, 1) := by decide +kernel
theorem dJ9_min_7cf53_1 : decode cJ9_min_7cf53 1 = .ok (.iload_n 1, 1) := by decide +kernel
theorem dJ9_min_7cf53_2 : decode cJ9_min_7cf53 2 = .ok (.if_icmp .gt 7, 3) := by decide +kernel
theorem dJ9_min_7cf53_5 : decode cJ9_min_7cf53 5 = .ok (.iload_n 0, 1) := by decide +kernel
theorem dJ9_min_7cf53_6 : decode cJ9_min_7cf53 6 = .ok (.goto 4, 3) := by decide +kernel
theorem dJ9_min_7cf53_9 : decode cJ9_min_7cf53 9 = .ok (.iload_n 1, 1) := by decide +kernel
theorem dJ9_min_7cf53_10 : decode cJ9_min_7cf53 10 = .ok (.ireturn, 1) := by decide +kernel
theorem dJ7_fill_53178_0 : decode cJ7_fill_53178 0 = .ok (.iconst 0, 1) := by decide +kernel
theorem dJ7_fill_53178_1 : decode cJ7_fill_53178 1 = .ok (.istore_n 2, 1) := by decide +kernel
theorem dJ7_fill_53178_2 : decode cJ7_fill_53178 2 = .ok (.aload_n 0, 1) := by decide +kernel
theorem dJ7_fill_53178_3 : decode cJ7_fill_53178 3 = .ok (.arraylength, 1) := by decide +kernel
theorem dJ7_fill_53178_4 : decode cJ7_fill_53178 4 = .ok (.istore_n 3, 1) := by decide +kernel
theorem dJ7_fill_53178_5 : decode cJ7_fill_53178 5 = .ok (.iload_n 2, 1) := by decide +kernel
theorem dJ7_fill_53178_6 : decode cJ7_fill_53178 6 = .ok (.iload_n 3, 1) := by decide +kernel
theorem dJ7_fill_53178_7 : decode cJ7_fill_53178 7 = .ok (.if_icmp .ge 13, 3) := by decide +kernel
theorem dJ7_fill_53178_10 : decode cJ7_fill_53178 10 = .ok (.aload_n 0, 1) := by decide +kernel
theorem dJ7_fill_53178_11 : decode cJ7_fill_53178 11 = .ok (.iload_n 2, 1) := by decide +kernel
theorem dJ7_fill_53178_12 : decode cJ7_fill_53178 12 = .ok (.iload_n 1, 1) := by decide +kernel
theorem dJ7_fill_53178_13 : decode cJ7_fill_53178 13 = .ok (.iastore, 1) := by decide +kernel
theorem dJ7_fill_53178_14 : decode cJ7_fill_53178 14 = .ok (.iinc 2 1, 3) := by decide +kernel
theorem dJ7_fill_53178_17 : decode cJ7_fill_53178 17 = .ok (.goto (-12), 3) := by decide +kernel
theorem dJ7_fill_53178_20 : decode cJ7_fill_53178 20 = .ok (.return_, 1) := by decide +kernel
theorem dJ7_fill_031fb_0 : decode cJ7_fill_031fb 0 = .ok (.iconst 0, 1) := by decide +kernel
theorem dJ7_fill_031fb_1 : decode cJ7_fill_031fb 1 = .ok (.istore_n 2, 1) := by decide +kernel
theorem dJ7_fill_031fb_2 : decode cJ7_fill_031fb 2 = .ok (.aload_n 0, 1) := by decide +kernel
theorem dJ7_fill_031fb_3 : decode cJ7_fill_031fb 3 = .ok (.arraylength, 1) := by decide +kernel
theorem dJ7_fill_031fb_4 : decode cJ7_fill_031fb 4 = .ok (.istore_n 3, 1) := by decide +kernel
theorem dJ7_fill_031fb_5 : decode cJ7_fill_031fb 5 = .ok (.iload_n 2, 1) := by decide +kernel
theorem dJ7_fill_031fb_6 : decode cJ7_fill_031fb 6 = .ok (.iload_n 3, 1) := by decide +kernel
theorem dJ7_fill_031fb_7 : decode cJ7_fill_031fb 7 = .ok (.if_icmp .ge 13, 3) := by decide +kernel
theorem dJ7_fill_031fb_10 : decode cJ7_fill_031fb 10 = .ok (.aload_n 0, 1) := by decide +kernel
theorem dJ7_fill_031fb_11 : decode cJ7_fill_031fb 11 = .ok (.iload_n 2, 1) := by decide +kernel
theorem dJ7_fill_031fb_12 : decode cJ7_fill_031fb 12 = .ok (.iload_n 1, 1) := by decide +kernel
theorem dJ7_fill_031fb_13 : decode cJ7_fill_031fb 13 = .ok (.bastore, 1) := by decide +kernel
theorem dJ7_fill_031fb_14 : decode cJ7_fill_031fb 14 = .ok (.iinc 2 1, 3) := by decide +kernel
theorem dJ7_fill_031fb_17 : decode cJ7_fill_031fb 17 = .ok (.goto (-12), 3) := by decide +kernel
theorem dJ7_fill_031fb_20 : decode cJ7_fill_031fb 20 = .ok (.return_, 1) := by decide +kernel
theorem dL_law_0 : decode cL_law 0 = .ok (.new 7, 3) := by decide +kernel
theorem dL_law_3 : decode cL_law 3 = .ok (.dup, 1) := by decide +kernel
theorem dL_law_4 : decode cL_law 4 = .ok (.invokespecial 9, 3) := by decide +kernel
theorem dL_law_7 : decode cL_law 7 = .ok (.astore_n 1, 1) := by decide +kernel
theorem dL_law_8 : decode cL_law 8 = .ok (.new 10, 3) := by decide +kernel
theorem dL_law_11 : decode cL_law 11 = .ok (.dup, 1) := by decide +kernel
theorem dL_law_12 : decode cL_law 12 = .ok (.invokespecial 12, 3) := by decide +kernel
theorem dL_law_15 : decode cL_law 15 = .ok (.astore_n 2, 1) := by decide +kernel
theorem dL_law_16 : decode cL_law 16 = .ok (.iconst 0, 1) := by decide +kernel
theorem dL_law_17 : decode cL_law 17 = .ok (.istore_n 3, 1) := by decide +kernel
theorem dL_law_18 : decode cL_law 18 = .ok (.iload_n 3, 1) := by decide +kernel
theorem dL_law_19 : decode cL_law 19 = .ok (.aload_n 0, 1) := by decide +kernel
theorem dL_law_20 : decode cL_law 20 = .ok (.arraylength, 1) := by decide +kernel
theorem dL_law_21 : decode cL_law 21 = .ok (.bipush 6, 2) := by decide +kernel
theorem dL_law_23 : decode cL_law 23 = .ok (.isub, 1) := by decide +kernel
theorem dL_law_24 : decode cL_law 24 = .ok (.if_icmp .gt 1434, 3) := by decide +kernel
theorem dL_law_27 : decode cL_law 27 = .ok (.aload_n 0, 1) := by decide +kernel
theorem dL_law_28 : decode cL_law 28 = .ok (.iload_n 3, 1) := by decide +kernel
theorem dL_law_29 : decode cL_law 29 = .ok (.iaload, 1) := by decide +kernel
theorem dL_law_30 : decode cL_law 30 = .ok (.bipush 63, 2) := by decide +kernel
theorem dL_law_32 : decode cL_law 32 = .ok (.iand, 1) := by decide +kernel
theorem dL_law_33 : decode cL_law 33 = .ok (.tableswitch 1419 0 42 #[187, 220, 263, 296, 319, 382, 405, 438, 481, 504, 527, 560, 593, 616, 629, 652, 685, 708, 731, 754, 777, 810, 823, 866, 889, 932, 955, 978, 1001, 1024, 1057, 1090, 1123, 1176, 1229, 1272, 1305, 1318, 1332, 1346, 1369, 1382, 1405], 187) := by decide +kernel
theorem dL_law_220 : decode cL_law 220 = .ok (.aload_n 1, 1) := by decide +kernel
theorem dL_law_221 : decode cL_law 221 = .ok (.aload_n 0, 1) := by decide +kernel
theorem dL_law_222 : decode cL_law 222 = .ok (.iload_n 3, 1) := by decide +kernel
theorem dL_law_223 : decode cL_law 223 = .ok (.iconst 1, 1) := by decide +kernel
theorem dL_law_224 : decode cL_law 224 = .ok (.iadd, 1) := by decide +kernel
theorem dL_law_225 : decode cL_law 225 = .ok (.iaload, 1) := by decide +kernel
theorem dL_law_226 : decode cL_law 226 = .ok (.aload_n 0, 1) := by decide +kernel
theorem dL_law_227 : decode cL_law 227 = .ok (.iload_n 3, 1) := by decide +kernel
theorem dL_law_228 : decode cL_law 228 = .ok (.iconst 2, 1) := by decide +kernel
theorem dL_law_229 : decode cL_law 229 = .ok (.iadd, 1) := by decide +kernel
theorem dL_law_230 : decode cL_law 230 = .ok (.iaload, 1) := by decide +kernel
theorem dL_law_231 : decode cL_law 231 = .ok (.invokevirtual 13, 3) := by decide +kernel
theorem dL_law_234 : decode cL_law 234 = .ok (.aload_n 2, 1) := by decide +kernel
theorem dL_law_235 : decode cL_law 235 = .ok (.aload_n 0, 1) := by decide +kernel
theorem dL_law_236 : decode cL_law 236 = .ok (.iload_n 3, 1) := by decide +kernel
theorem dL_law_237 : decode cL_law 237 = .ok (.iconst 1, 1) := by decide +kernel
theorem dL_law_238 : decode cL_law 238 = .ok (.iadd, 1) := by decide +kernel
theorem dL_law_239 : decode cL_law 239 = .ok (.iaload, 1) := by decide +kernel
theorem dL_law_240 : decode cL_law 240 = .ok (.aload_n 0, 1) := by decide +kernel
theorem dL_law_241 : decode cL_law 241 = .ok (.iload_n 3, 1) := by decide +kernel
theorem dL_law_242 : decode cL_law 242 = .ok (.iconst 2, 1) := by decide +kernel
theorem dL_law_243 : decode cL_law 243 = .ok (.iadd, 1) := by decide +kernel
theorem dL_law_244 : decode cL_law 244 = .ok (.iaload, 1) := by decide +kernel
theorem dL_law_245 : decode cL_law 245 = .ok (.invokevirtual 17, 3) := by decide +kernel
theorem dL_law_248 : decode cL_law 248 = .ok (.if_icmp .eq 1204, 3) := by decide +kernel
theorem dL_law_251 : decode cL_law 251 = .ok (.iconst 0, 1) := by decide +kernel
theorem dL_law_252 : decode cL_law 252 = .ok (.ireturn, 1) := by decide +kernel
theorem dL_law_253 : decode cL_law 253 = .ok (.aload_n 1, 1) := by decide +kernel
theorem dL_law_254 : decode cL_law 254 = .ok (.aload_n 0, 1) := by decide +kernel
theorem dL_law_255 : decode cL_law 255 = .ok (.iload_n 3, 1) := by decide +kernel
theorem dL_law_256 : decode cL_law 256 = .ok (.iconst 1, 1) := by decide +kernel
theorem dL_law_257 : decode cL_law 257 = .ok (.iadd, 1) := by decide +kernel
theorem dL_law_258 : decode cL_law 258 = .ok (.iaload, 1) := by decide +kernel
theorem dL_law_259 : decode cL_law 259 = .ok (.aload_n 0, 1) := by decide +kernel
theorem dL_law_260 : decode cL_law 260 = .ok (.iload_n 3, 1) := by decide +kernel
theorem dL_law_261 : decode cL_law 261 = .ok (.iconst 2, 1) := by decide +kernel
theorem dL_law_262 : decode cL_law 262 = .ok (.iadd, 1) := by decide +kernel
theorem dL_law_263 : decode cL_law 263 = .ok (.iaload, 1) := by decide +kernel
theorem dL_law_264 : decode cL_law 264 = .ok (.aload_n 0, 1) := by decide +kernel
theorem dL_law_265 : decode cL_law 265 = .ok (.iload_n 3, 1) := by decide +kernel
theorem dL_law_266 : decode cL_law 266 = .ok (.iconst 3, 1) := by decide +kernel
theorem dL_law_267 : decode cL_law 267 = .ok (.iadd, 1) := by decide +kernel
theorem dL_law_268 : decode cL_law 268 = .ok (.iaload, 1) := by decide +kernel
theorem dL_law_269 : decode cL_law 269 = .ok (.invokevirtual 18, 3) := by decide +kernel
theorem dL_law_272 : decode cL_law 272 = .ok (.aload_n 2, 1) := by decide +kernel
theorem dL_law_273 : decode cL_law 273 = .ok (.aload_n 0, 1) := by decide +kernel
theorem dL_law_274 : decode cL_law 274 = .ok (.iload_n 3, 1) := by decide +kernel
theorem dL_law_275 : decode cL_law 275 = .ok (.iconst 1, 1) := by decide +kernel
theorem dL_law_276 : decode cL_law 276 = .ok (.iadd, 1) := by decide +kernel
theorem dL_law_277 : decode cL_law 277 = .ok (.iaload, 1) := by decide +kernel
theorem dL_law_278 : decode cL_law 278 = .ok (.aload_n 0, 1) := by decide +kernel
theorem dL_law_279 : decode cL_law 279 = .ok (.iload_n 3, 1) := by decide +kernel
theorem dL_law_280 : decode cL_law 280 = .ok (.iconst 2, 1) := by decide +kernel
theorem dL_law_281 : decode cL_law 281 = .ok (.iadd, 1) := by decide +kernel
theorem dL_law_282 : decode cL_law 282 = .ok (.iaload, 1) := by decide +kernel
theorem dL_law_283 : decode cL_law 283 = .ok (.aload_n 0, 1) := by decide +kernel
theorem dL_law_284 : decode cL_law 284 = .ok (.iload_n 3, 1) := by decide +kernel
theorem dL_law_285 : decode cL_law 285 = .ok (.iconst 3, 1) := by decide +kernel
theorem dL_law_286 : decode cL_law 286 = .ok (.iadd, 1) := by decide +kernel
theorem dL_law_287 : decode cL_law 287 = .ok (.iaload, 1) := by decide +kernel
theorem dL_law_288 : decode cL_law 288 = .ok (.invokevirtual 22, 3) := by decide +kernel
theorem dL_law_291 : decode cL_law 291 = .ok (.if_icmp .eq 1161, 3) := by decide +kernel
theorem dL_law_294 : decode cL_law 294 = .ok (.iconst 0, 1) := by decide +kernel
theorem dL_law_295 : decode cL_law 295 = .ok (.ireturn, 1) := by decide +kernel
theorem dL_law_296 : decode cL_law 296 = .ok (.aload_n 1, 1) := by decide +kernel
theorem dL_law_297 : decode cL_law 297 = .ok (.aload_n 0, 1) := by decide +kernel
theorem dL_law_298 : decode cL_law 298 = .ok (.iload_n 3, 1) := by decide +kernel
theorem dL_law_299 : decode cL_law 299 = .ok (.iconst 1, 1) := by decide +kernel
theorem dL_law_300 : decode cL_law 300 = .ok (.iadd, 1) := by decide +kernel
theorem dL_law_301 : decode cL_law 301 = .ok (.iaload, 1) := by decide +kernel
theorem dL_law_302 : decode cL_law 302 = .ok (.aload_n 0, 1) := by decide +kernel
theorem dL_law_303 : decode cL_law 303 = .ok (.iload_n 3, 1) := by decide +kernel
theorem dL_law_304 : decode cL_law 304 = .ok (.iconst 2, 1) := by decide +kernel
theorem dL_law_305 : decode cL_law 305 = .ok (.iadd, 1) := by decide +kernel
theorem dL_law_306 : decode cL_law 306 = .ok (.iaload, 1) := by decide +kernel
theorem dL_law_307 : decode cL_law 307 = .ok (.invokevirtual 23, 3) := by decide +kernel
theorem dL_law_310 : decode cL_law 310 = .ok (.aload_n 2, 1) := by decide +kernel
theorem dL_law_311 : decode cL_law 311 = .ok (.aload_n 0, 1) := by decide +kernel
theorem dL_law_312 : decode cL_law 312 = .ok (.iload_n 3, 1) := by decide +kernel
theorem dL_law_313 : decode cL_law 313 = .ok (.iconst 1, 1) := by decide +kernel
theorem dL_law_314 : decode cL_law 314 = .ok (.iadd, 1) := by decide +kernel
theorem dL_law_315 : decode cL_law 315 = .ok (.iaload, 1) := by decide +kernel
theorem dL_law_316 : decode cL_law 316 = .ok (.aload_n 0, 1) := by decide +kernel
theorem dL_law_317 : decode cL_law 317 = .ok (.iload_n 3, 1) := by decide +kernel
theorem dL_law_318 : decode cL_law 318 = .ok (.iconst 2, 1) := by decide +kernel
theorem dL_law_319 : decode cL_law 319 = .ok (.iadd, 1) := by decide +kernel
theorem dL_law_320 : decode cL_law 320 = .ok (.iaload, 1) := by decide +kernel
theorem dL_law_321 : decode cL_law 321 = .ok (.invokevirtual 26, 3) := by decide +kernel
theorem dL_law_324 : decode cL_law 324 = .ok (.if_icmp .eq 1128, 3) := by decide +kernel
theorem dL_law_327 : decode cL_law 327 = .ok (.iconst 0, 1) := by decide +kernel
theorem dL_law_328 : decode cL_law 328 = .ok (.ireturn, 1) := by decide +kernel
theorem dL_law_329 : decode cL_law 329 = .ok (.aload_n 1, 1) := by decide +kernel
theorem dL_law_330 : decode cL_law 330 = .ok (.aload_n 0, 1) := by decide +kernel
theorem dL_law_331 : decode cL_law 331 = .ok (.iload_n 3, 1) := by decide +kernel
theorem dL_law_332 : decode cL_law 332 = .ok (.iconst 1, 1) := by decide +kernel
theorem dL_law_333 : decode cL_law 333 = .ok (.iadd, 1) := by decide +kernel
theorem dL_law_334 : decode cL_law 334 = .ok (.iaload, 1) := by decide +kernel
theorem dL_law_335 : decode cL_law 335 = .ok (.invokevirtual 27, 3) := by decide +kernel
theorem dL_law_338 : decode cL_law 338 = .ok (.aload_n 2, 1) := by decide +kernel
theorem dL_law_339 : decode cL_law 339 = .ok (.aload_n 0, 1) := by decide +kernel
theorem dL_law_340 : decode cL_law 340 = .ok (.iload_n 3, 1) := by decide +kernel
theorem dL_law_341 : decode cL_law 341 = .ok (.iconst 1, 1) := by decide +kernel
theorem dL_law_342 : decode cL_law 342 = .ok (.iadd, 1) := by decide +kernel
theorem dL_law_343 : decode cL_law 343 = .ok (.iaload, 1) := by decide +kernel
theorem dL_law_344 : decode cL_law 344 = .ok (.invokevirtual 31, 3) := by decide +kernel
theorem dL_law_347 : decode cL_law 347 = .ok (.if_icmp .eq 1105, 3) := by decide +kernel
theorem dL_law_350 : decode cL_law 350 = .ok (.iconst 0, 1) := by decide +kernel
theorem dL_law_351 : decode cL_law 351 = .ok (.ireturn, 1) := by decide +kernel
theorem dL_law_352 : decode cL_law 352 = .ok (.aload_n 1, 1) := by decide +kernel
theorem dL_law_353 : decode cL_law 353 = .ok (.aload_n 0, 1) := by decide +kernel
theorem dL_law_354 : decode cL_law 354 = .ok (.iload_n 3, 1) := by decide +kernel
theorem dL_law_355 : decode cL_law 355 = .ok (.iconst 1, 1) := by decide +kernel
theorem dL_law_356 : decode cL_law 356 = .ok (.iadd, 1) := by decide +kernel
theorem dL_law_357 : decode cL_law 357 = .ok (.iaload, 1) := by decide +kernel
theorem dL_law_358 : decode cL_law 358 = .ok (.aload_n 0, 1) := by decide +kernel
theorem dL_law_359 : decode cL_law 359 = .ok (.iload_n 3, 1) := by decide +kernel
theorem dL_law_360 : decode cL_law 360 = .ok (.iconst 2, 1) := by decide +kernel
theorem dL_law_361 : decode cL_law 361 = .ok (.iadd, 1) := by decide +kernel
theorem dL_law_362 : decode cL_law 362 = .ok (.iaload, 1) := by decide +kernel
theorem dL_law_363 : decode cL_law 363 = .ok (.aload_n 0, 1) := by decide +kernel
theorem dL_law_364 : decode cL_law 364 = .ok (.iload_n 3, 1) := by decide +kernel
theorem dL_law_365 : decode cL_law 365 = .ok (.iconst 3, 1) := by decide +kernel
theorem dL_law_366 : decode cL_law 366 = .ok (.iadd, 1) := by decide +kernel
theorem dL_law_367 : decode cL_law 367 = .ok (.iaload, 1) := by decide +kernel
theorem dL_law_368 : decode cL_law 368 = .ok (.aload_n 0, 1) := by decide +kernel
theorem dL_law_369 : decode cL_law 369 = .ok (.iload_n 3, 1) := by decide +kernel
theorem dL_law_370 : decode cL_law 370 = .ok (.iconst 4, 1) := by decide +kernel
theorem dL_law_371 : decode cL_law 371 = .ok (.iadd, 1) := by decide +kernel
theorem dL_law_372 : decode cL_law 372 = .ok (.iaload, 1) := by decide +kernel
theorem dL_law_373 : decode cL_law 373 = .ok (.aload_n 0, 1) := by decide +kernel
theorem dL_law_374 : decode cL_law 374 = .ok (.iload_n 3, 1) := by decide +kernel
theorem dL_law_375 : decode cL_law 375 = .ok (.iconst 5, 1) := by decide +kernel
theorem dL_law_376 : decode cL_law 376 = .ok (.iadd, 1) := by decide +kernel
theorem dL_law_377 : decode cL_law 377 = .ok (.iaload, 1) := by decide +kernel
theorem dL_law_378 : decode cL_law 378 = .ok (.invokevirtual 32, 3) := by decide +kernel
theorem dL_law_381 : decode cL_law 381 = .ok (.aload_n 2, 1) := by decide +kernel
theorem dL_law_382 : decode cL_law 382 = .ok (.aload_n 0, 1) := by decide +kernel
theorem dL_law_383 : decode cL_law 383 = .ok (.iload_n 3, 1) := by decide +kernel
theorem dL_law_384 : decode cL_law 384 = .ok (.iconst 1, 1) := by decide +kernel
theorem dL_law_385 : decode cL_law 385 = .ok (.iadd, 1) := by decide +kernel
theorem dL_law_386 : decode cL_law 386 = .ok (.iaload, 1) := by decide +kernel
theorem dL_law_387 : decode cL_law 387 = .ok (.aload_n 0, 1) := by decide +kernel
theorem dL_law_388 : decode cL_law 388 = .ok (.iload_n 3, 1) := by decide +kernel
theorem dL_law_389 : decode cL_law 389 = .ok (.iconst 2, 1) := by decide +kernel
theorem dL_law_390 : decode cL_law 390 = .ok (.iadd, 1) := by decide +kernel
theorem dL_law_391 : decode cL_law 391 = .ok (.iaload, 1) := by decide +kernel
theorem dL_law_392 : decode cL_law 392 = .ok (.aload_n 0, 1) := by decide +kernel
theorem dL_law_393 : decode cL_law 393 = .ok (.iload_n 3, 1) := by decide +kernel
theorem dL_law_394 : decode cL_law 394 = .ok (.iconst 3, 1) := by decide +kernel
theorem dL_law_395 : decode cL_law 395 = .ok (.iadd, 1) := by decide +kernel
theorem dL_law_396 : decode cL_law 396 = .ok (.iaload, 1) := by decide +kernel
theorem dL_law_397 : decode cL_law 397 = .ok (.aload_n 0, 1) := by decide +kernel
theorem dL_law_398 : decode cL_law 398 = .ok (.iload_n 3, 1) := by decide +kernel
theorem dL_law_399 : decode cL_law 399 = .ok (.iconst 4, 1) := by decide +kernel
theorem dL_law_400 : decode cL_law 400 = .ok (.iadd, 1) := by decide +kernel
theorem dL_law_401 : decode cL_law 401 = .ok (.iaload, 1) := by decide +kernel
theorem dL_law_402 : decode cL_law 402 = .ok (.aload_n 0, 1) := by decide +kernel
theorem dL_law_403 : decode cL_law 403 = .ok (.iload_n 3, 1) := by decide +kernel
theorem dL_law_404 : decode cL_law 404 = .ok (.iconst 5, 1) := by decide +kernel
theorem dL_law_405 : decode cL_law 405 = .ok (.iadd, 1) := by decide +kernel
theorem dL_law_406 : decode cL_law 406 = .ok (.iaload, 1) := by decide +kernel
theorem dL_law_407 : decode cL_law 407 = .ok (.invokevirtual 36, 3) := by decide +kernel
theorem dL_law_410 : decode cL_law 410 = .ok (.if_icmp .eq 1042, 3) := by decide +kernel
theorem dL_law_413 : decode cL_law 413 = .ok (.iconst 0, 1) := by decide +kernel
theorem dL_law_414 : decode cL_law 414 = .ok (.ireturn, 1) := by decide +kernel
theorem dL_law_415 : decode cL_law 415 = .ok (.aload_n 1, 1) := by decide +kernel
theorem dL_law_416 : decode cL_law 416 = .ok (.aload_n 0, 1) := by decide +kernel
theorem dL_law_417 : decode cL_law 417 = .ok (.iload_n 3, 1) := by decide +kernel
theorem dL_law_418 : decode cL_law 418 = .ok (.iconst 1, 1) := by decide +kernel
theorem dL_law_419 : decode cL_law 419 = .ok (.iadd, 1) := by decide +kernel
theorem dL_law_420 : decode cL_law 420 = .ok (.iaload, 1) := by decide +kernel
theorem dL_law_421 : decode cL_law 421 = .ok (.invokevirtual 37, 3) := by decide +kernel
theorem dL_law_424 : decode cL_law 424 = .ok (.aload_n 2, 1) := by decide +kernel
theorem dL_law_425 : decode cL_law 425 = .ok (.aload_n 0, 1) := by decide +kernel
theorem dL_law_426 : decode cL_law 426 = .ok (.iload_n 3, 1) := by decide +kernel
theorem dL_law_427 : decode cL_law 427 = .ok (.iconst 1, 1) := by decide +kernel
theorem dL_law_428 : decode cL_law 428 = .ok (.iadd, 1) := by decide +kernel
theorem dL_law_429 : decode cL_law 429 = .ok (.iaload, 1) := by decide +kernel
theorem dL_law_430 : decode cL_law 430 = .ok (.invokevirtual 40, 3) := by decide +kernel
theorem dL_law_433 : decode cL_law 433 = .ok (.if_icmp .eq 1019, 3) := by decide +kernel
theorem dL_law_436 : decode cL_law 436 = .ok (.iconst 0, 1) := by decide +kernel
theorem dL_law_437 : decode cL_law 437 = .ok (.ireturn, 1) := by decide +kernel
theorem dL_law_438 : decode cL_law 438 = .ok (.aload_n 1, 1) := by decide +kernel
theorem dL_law_439 : decode cL_law 439 = .ok (.aload_n 0, 1) := by decide +kernel
theorem dL_law_440 : decode cL_law 440 = .ok (.iload_n 3, 1) := by decide +kernel
theorem dL_law_441 : decode cL_law 441 = .ok (.iconst 1, 1) := by decide +kernel
theorem dL_law_442 : decode cL_law 442 = .ok (.iadd, 1) := by decide +kernel
theorem dL_law_443 : decode cL_law 443 = .ok (.iaload, 1) := by decide +kernel
theorem dL_law_444 : decode cL_law 444 = .ok (.aload_n 0, 1) := by decide +kernel
theorem dL_law_445 : decode cL_law 445 = .ok (.iload_n 3, 1) := by decide +kernel
theorem dL_law_446 : decode cL_law 446 = .ok (.iconst 2, 1) := by decide +kernel
theorem dL_law_447 : decode cL_law 447 = .ok (.iadd, 1) := by decide +kernel
theorem dL_law_448 : decode cL_law 448 = .ok (.iaload, 1) := by decide +kernel
theorem dL_law_449 : decode cL_law 449 = .ok (.invokevirtual 41, 3) := by decide +kernel
theorem dL_law_452 : decode cL_law 452 = .ok (.aload_n 2, 1) := by decide +kernel
theorem dL_law_453 : decode cL_law 453 = .ok (.aload_n 0, 1) := by decide +kernel
theorem dL_law_454 : decode cL_law 454 = .ok (.iload_n 3, 1) := by decide +kernel
theorem dL_law_455 : decode cL_law 455 = .ok (.iconst 1, 1) := by decide +kernel
theorem dL_law_456 : decode cL_law 456 = .ok (.iadd, 1) := by decide +kernel
theorem dL_law_457 : decode cL_law 457 = .ok (.iaload, 1) := by decide +kernel
theorem dL_law_458 : decode cL_law 458 = .ok (.aload_n 0, 1) := by decide +kernel
theorem dL_law_459 : decode cL_law 459 = .ok (.iload_n 3, 1) := by decide +kernel
theorem dL_law_460 : decode cL_law 460 = .ok (.iconst 2, 1) := by decide +kernel
theorem dL_law_461 : decode cL_law 461 = .ok (.iadd, 1) := by decide +kernel
theorem dL_law_462 : decode cL_law 462 = .ok (.iaload, 1) := by decide +kernel
theorem dL_law_463 : decode cL_law 463 = .ok (.invokevirtual 44, 3) := by decide +kernel
theorem dL_law_466 : decode cL_law 466 = .ok (.if_icmp .eq 986, 3) := by decide +kernel
theorem dL_law_469 : decode cL_law 469 = .ok (.iconst 0, 1) := by decide +kernel
theorem dL_law_470 : decode cL_law 470 = .ok (.ireturn, 1) := by decide +kernel
theorem dL_law_471 : decode cL_law 471 = .ok (.aload_n 1, 1) := by decide +kernel
theorem dL_law_472 : decode cL_law 472 = .ok (.aload_n 0, 1) := by decide +kernel
theorem dL_law_473 : decode cL_law 473 = .ok (.iload_n 3, 1) := by decide +kernel
theorem dL_law_474 : decode cL_law 474 = .ok (.iconst 1, 1) := by decide +kernel
theorem dL_law_475 : decode cL_law 475 = .ok (.iadd, 1) := by decide +kernel
theorem dL_law_476 : decode cL_law 476 = .ok (.iaload, 1) := by decide +kernel
theorem dL_law_477 : decode cL_law 477 = .ok (.aload_n 0, 1) := by decide +kernel
theorem dL_law_478 : decode cL_law 478 = .ok (.iload_n 3, 1) := by decide +kernel
theorem dL_law_479 : decode cL_law 479 = .ok (.iconst 2, 1) := by decide +kernel
theorem dL_law_480 : decode cL_law 480 = .ok (.iadd, 1) := by decide +kernel
theorem dL_law_481 : decode cL_law 481 = .ok (.iaload, 1) := by decide +kernel
theorem dL_law_482 : decode cL_law 482 = .ok (.aload_n 0, 1) := by decide +kernel
theorem dL_law_483 : decode cL_law 483 = .ok (.iload_n 3, 1) := by decide +kernel
theorem dL_law_484 : decode cL_law 484 = .ok (.iconst 3, 1) := by decide +kernel
theorem dL_law_485 : decode cL_law 485 = .ok (.iadd, 1) := by decide +kernel
theorem dL_law_486 : decode cL_law 486 = .ok (.iaload, 1) := by decide +kernel
theorem dL_law_487 : decode cL_law 487 = .ok (.invokevirtual 45, 3) := by decide +kernel
theorem dL_law_490 : decode cL_law 490 = .ok (.aload_n 2, 1) := by decide +kernel
theorem dL_law_491 : decode cL_law 491 = .ok (.aload_n 0, 1) := by decide +kernel
theorem dL_law_492 : decode cL_law 492 = .ok (.iload_n 3, 1) := by decide +kernel
theorem dL_law_493 : decode cL_law 493 = .ok (.iconst 1, 1) := by decide +kernel
theorem dL_law_494 : decode cL_law 494 = .ok (.iadd, 1) := by decide +kernel
theorem dL_law_495 : decode cL_law 495 = .ok (.iaload, 1) := by decide +kernel
theorem dL_law_496 : decode cL_law 496 = .ok (.aload_n 0, 1) := by decide +kernel
theorem dL_law_497 : decode cL_law 497 = .ok (.iload_n 3, 1) := by decide +kernel
theorem dL_law_498 : decode cL_law 498 = .ok (.iconst 2, 1) := by decide +kernel
theorem dL_law_499 : decode cL_law 499 = .ok (.iadd, 1) := by decide +kernel
theorem dL_law_500 : decode cL_law 500 = .ok (.iaload, 1) := by decide +kernel
theorem dL_law_501 : decode cL_law 501 = .ok (.aload_n 0, 1) := by decide +kernel
theorem dL_law_502 : decode cL_law 502 = .ok (.iload_n 3, 1) := by decide +kernel
theorem dL_law_503 : decode cL_law 503 = .ok (.iconst 3, 1) := by decide +kernel
theorem dL_law_504 : decode cL_law 504 = .ok (.iadd, 1) := by decide +kernel
theorem dL_law_505 : decode cL_law 505 = .ok (.iaload, 1) := by decide +kernel
theorem dL_law_506 : decode cL_law 506 = .ok (.invokevirtual 48, 3) := by decide +kernel
theorem dL_law_509 : decode cL_law 509 = .ok (.if_icmp .eq 943, 3) := by decide +kernel
theorem dL_law_512 : decode cL_law 512 = .ok (.iconst 0, 1) := by decide +kernel
theorem dL_law_513 : decode cL_law 513 = .ok (.ireturn, 1) := by decide +kernel
theorem dL_law_514 : decode cL_law 514 = .ok (.aload_n 1, 1) := by decide +kernel
theorem dL_law_515 : decode cL_law 515 = .ok (.aload_n 0, 1) := by decide +kernel
theorem dL_law_516 : decode cL_law 516 = .ok (.iload_n 3, 1) := by decide +kernel
theorem dL_law_517 : decode cL_law 517 = .ok (.iconst 1, 1) := by decide +kernel
theorem dL_law_518 : decode cL_law 518 = .ok (.iadd, 1) := by decide +kernel
theorem dL_law_519 : decode cL_law 519 = .ok (.iaload, 1) := by decide +kernel
theorem dL_law_520 : decode cL_law 520 = .ok (.invokevirtual 49, 3) := by decide +kernel
theorem dL_law_523 : decode cL_law 523 = .ok (.aload_n 2, 1) := by decide +kernel
theorem dL_law_524 : decode cL_law 524 = .ok (.aload_n 0, 1) := by decide +kernel
theorem dL_law_525 : decode cL_law 525 = .ok (.iload_n 3, 1) := by decide +kernel
theorem dL_law_526 : decode cL_law 526 = .ok (.iconst 1, 1) := by decide +kernel
theorem dL_law_527 : decode cL_law 527 = .ok (.iadd, 1) := by decide +kernel
theorem dL_law_528 : decode cL_law 528 = .ok (.iaload, 1) := by decide +kernel
theorem dL_law_529 : decode cL_law 529 = .ok (.invokevirtual 52, 3) := by decide +kernel
theorem dL_law_532 : decode cL_law 532 = .ok (.if_icmp .eq 920, 3) := by decide +kernel
theorem dL_law_535 : decode cL_law 535 = .ok (.iconst 0, 1) := by decide +kernel
theorem dL_law_536 : decode cL_law 536 = .ok (.ireturn, 1) := by decide +kernel
theorem dL_law_537 : decode cL_law 537 = .ok (.aload_n 1, 1) := by decide +kernel
theorem dL_law_538 : decode cL_law 538 = .ok (.aload_n 0, 1) := by decide +kernel
theorem dL_law_539 : decode cL_law 539 = .ok (.iload_n 3, 1) := by decide +kernel
theorem dL_law_540 : decode cL_law 540 = .ok (.iconst 1, 1) := by decide +kernel
theorem dL_law_541 : decode cL_law 541 = .ok (.iadd, 1) := by decide +kernel
theorem dL_law_542 : decode cL_law 542 = .ok (.iaload, 1) := by decide +kernel
theorem dL_law_543 : decode cL_law 543 = .ok (.invokevirtual 53, 3) := by decide +kernel
theorem dL_law_546 : decode cL_law 546 = .ok (.aload_n 2, 1) := by decide +kernel
theorem dL_law_547 : decode cL_law 547 = .ok (.aload_n 0, 1) := by decide +kernel
theorem dL_law_548 : decode cL_law 548 = .ok (.iload_n 3, 1) := by decide +kernel
theorem dL_law_549 : decode cL_law 549 = .ok (.iconst 1, 1) := by decide +kernel
theorem dL_law_550 : decode cL_law 550 = .ok (.iadd, 1) := by decide +kernel
theorem dL_law_551 : decode cL_law 551 = .ok (.iaload, 1) := by decide +kernel
theorem dL_law_552 : decode cL_law 552 = .ok (.invokevirtual 56, 3) := by decide +kernel
theorem dL_law_555 : decode cL_law 555 = .ok (.if_icmp .eq 897, 3) := by decide +kernel
theorem dL_law_558 : decode cL_law 558 = .ok (.iconst 0, 1) := by decide +kernel
theorem dL_law_559 : decode cL_law 559 = .ok (.ireturn, 1) := by decide +kernel
theorem dL_law_560 : decode cL_law 560 = .ok (.aload_n 1, 1) := by decide +kernel
theorem dL_law_561 : decode cL_law 561 = .ok (.aload_n 0, 1) := by decide +kernel
theorem dL_law_562 : decode cL_law 562 = .ok (.iload_n 3, 1) := by decide +kernel
theorem dL_law_563 : decode cL_law 563 = .ok (.iconst 1, 1) := by decide +kernel
theorem dL_law_564 : decode cL_law 564 = .ok (.iadd, 1) := by decide +kernel
theorem dL_law_565 : decode cL_law 565 = .ok (.iaload, 1) := by decide +kernel
theorem dL_law_566 : decode cL_law 566 = .ok (.aload_n 0, 1) := by decide +kernel
theorem dL_law_567 : decode cL_law 567 = .ok (.iload_n 3, 1) := by decide +kernel
theorem dL_law_568 : decode cL_law 568 = .ok (.iconst 2, 1) := by decide +kernel
theorem dL_law_569 : decode cL_law 569 = .ok (.iadd, 1) := by decide +kernel
theorem dL_law_570 : decode cL_law 570 = .ok (.iaload, 1) := by decide +kernel
theorem dL_law_571 : decode cL_law 571 = .ok (.invokevirtual 57, 3) := by decide +kernel
theorem dL_law_574 : decode cL_law 574 = .ok (.aload_n 2, 1) := by decide +kernel
theorem dL_law_575 : decode cL_law 575 = .ok (.aload_n 0, 1) := by decide +kernel
theorem dL_law_576 : decode cL_law 576 = .ok (.iload_n 3, 1) := by decide +kernel
theorem dL_law_577 : decode cL_law 577 = .ok (.iconst 1, 1) := by decide +kernel
theorem dL_law_578 : decode cL_law 578 = .ok (.iadd, 1) := by decide +kernel
theorem dL_law_579 : decode cL_law 579 = .ok (.iaload, 1) := by decide +kernel
theorem dL_law_580 : decode cL_law 580 = .ok (.aload_n 0, 1) := by decide +kernel
theorem dL_law_581 : decode cL_law 581 = .ok (.iload_n 3, 1) := by decide +kernel
theorem dL_law_582 : decode cL_law 582 = .ok (.iconst 2, 1) := by decide +kernel
theorem dL_law_583 : decode cL_law 583 = .ok (.iadd, 1) := by decide +kernel
theorem dL_law_584 : decode cL_law 584 = .ok (.iaload, 1) := by decide +kernel
theorem dL_law_585 : decode cL_law 585 = .ok (.invokevirtual 60, 3) := by decide +kernel
theorem dL_law_588 : decode cL_law 588 = .ok (.if_icmp .eq 864, 3) := by decide +kernel
theorem dL_law_591 : decode cL_law 591 = .ok (.iconst 0, 1) := by decide +kernel
theorem dL_law_592 : decode cL_law 592 = .ok (.ireturn, 1) := by decide +kernel
theorem dL_law_593 : decode cL_law 593 = .ok (.aload_n 1, 1) := by decide +kernel
theorem dL_law_594 : decode cL_law 594 = .ok (.aload_n 0, 1) := by decide +kernel
theorem dL_law_595 : decode cL_law 595 = .ok (.iload_n 3, 1) := by decide +kernel
theorem dL_law_596 : decode cL_law 596 = .ok (.iconst 1, 1) := by decide +kernel
theorem dL_law_597 : decode cL_law 597 = .ok (.iadd, 1) := by decide +kernel
theorem dL_law_598 : decode cL_law 598 = .ok (.iaload, 1) := by decide +kernel
theorem dL_law_599 : decode cL_law 599 = .ok (.aload_n 0, 1) := by decide +kernel
theorem dL_law_600 : decode cL_law 600 = .ok (.iload_n 3, 1) := by decide +kernel
theorem dL_law_601 : decode cL_law 601 = .ok (.iconst 2, 1) := by decide +kernel
theorem dL_law_602 : decode cL_law 602 = .ok (.iadd, 1) := by decide +kernel
theorem dL_law_603 : decode cL_law 603 = .ok (.iaload, 1) := by decide +kernel
theorem dL_law_604 : decode cL_law 604 = .ok (.invokevirtual 61, 3) := by decide +kernel
theorem dL_law_607 : decode cL_law 607 = .ok (.aload_n 2, 1) := by decide +kernel
theorem dL_law_608 : decode cL_law 608 = .ok (.aload_n 0, 1) := by decide +kernel
theorem dL_law_609 : decode cL_law 609 = .ok (.iload_n 3, 1) := by decide +kernel
theorem dL_law_610 : decode cL_law 610 = .ok (.iconst 1, 1) := by decide +kernel
theorem dL_law_611 : decode cL_law 611 = .ok (.iadd, 1) := by decide +kernel
theorem dL_law_612 : decode cL_law 612 = .ok (.iaload, 1) := by decide +kernel
theorem dL_law_613 : decode cL_law 613 = .ok (.aload_n 0, 1) := by decide +kernel
theorem dL_law_614 : decode cL_law 614 = .ok (.iload_n 3, 1) := by decide +kernel
theorem dL_law_615 : decode cL_law 615 = .ok (.iconst 2, 1) := by decide +kernel
theorem dL_law_616 : decode cL_law 616 = .ok (.iadd, 1) := by decide +kernel
theorem dL_law_617 : decode cL_law 617 = .ok (.iaload, 1) := by decide +kernel
theorem dL_law_618 : decode cL_law 618 = .ok (.invokevirtual 64, 3) := by decide +kernel
theorem dL_law_621 : decode cL_law 621 = .ok (.if_icmp .eq 831, 3) := by decide +kernel
theorem dL_law_624 : decode cL_law 624 = .ok (.iconst 0, 1) := by decide +kernel
theorem dL_law_625 : decode cL_law 625 = .ok (.ireturn, 1) := by decide +kernel
theorem dL_law_626 : decode cL_law 626 = .ok (.aload_n 1, 1) := by decide +kernel
theorem dL_law_627 : decode cL_law 627 = .ok (.aload_n 0, 1) := by decide +kernel
theorem dL_law_628 : decode cL_law 628 = .ok (.iload_n 3, 1) := by decide +kernel
theorem dL_law_629 : decode cL_law 629 = .ok (.iconst 1, 1) := by decide +kernel
theorem dL_law_630 : decode cL_law 630 = .ok (.iadd, 1) := by decide +kernel
theorem dL_law_631 : decode cL_law 631 = .ok (.iaload, 1) := by decide +kernel
theorem dL_law_632 : decode cL_law 632 = .ok (.invokevirtual 65, 3) := by decide +kernel
theorem dL_law_635 : decode cL_law 635 = .ok (.aload_n 2, 1) := by decide +kernel
theorem dL_law_636 : decode cL_law 636 = .ok (.aload_n 0, 1) := by decide +kernel
theorem dL_law_637 : decode cL_law 637 = .ok (.iload_n 3, 1) := by decide +kernel
theorem dL_law_638 : decode cL_law 638 = .ok (.iconst 1, 1) := by decide +kernel
theorem dL_law_639 : decode cL_law 639 = .ok (.iadd, 1) := by decide +kernel
theorem dL_law_640 : decode cL_law 640 = .ok (.iaload, 1) := by decide +kernel
theorem dL_law_641 : decode cL_law 641 = .ok (.invokevirtual 68, 3) := by decide +kernel
theorem dL_law_644 : decode cL_law 644 = .ok (.if_icmp .eq 808, 3) := by decide +kernel
theorem dL_law_647 : decode cL_law 647 = .ok (.iconst 0, 1) := by decide +kernel
theorem dL_law_648 : decode cL_law 648 = .ok (.ireturn, 1) := by decide +kernel
theorem dL_law_649 : decode cL_law 649 = .ok (.aload_n 1, 1) := by decide +kernel
theorem dL_law_650 : decode cL_law 650 = .ok (.invokevirtual 69, 3) := by decide +kernel
theorem dL_law_653 : decode cL_law 653 = .ok (.aload_n 2, 1) := by decide +kernel
theorem dL_law_654 : decode cL_law 654 = .ok (.invokevirtual 73, 3) := by decide +kernel
theorem dL_law_657 : decode cL_law 657 = .ok (.if_icmp .eq 795, 3) := by decide +kernel
theorem dL_law_660 : decode cL_law 660 = .ok (.iconst 0, 1) := by decide +kernel
theorem dL_law_661 : decode cL_law 661 = .ok (.ireturn, 1) := by decide +kernel
theorem dL_law_662 : decode cL_law 662 = .ok (.aload_n 1, 1) := by decide +kernel
theorem dL_law_663 : decode cL_law 663 = .ok (.aload_n 0, 1) := by decide +kernel
theorem dL_law_664 : decode cL_law 664 = .ok (.iload_n 3, 1) := by decide +kernel
theorem dL_law_665 : decode cL_law 665 = .ok (.iconst 1, 1) := by decide +kernel
theorem dL_law_666 : decode cL_law 666 = .ok (.iadd, 1) := by decide +kernel
theorem dL_law_667 : decode cL_law 667 = .ok (.iaload, 1) := by decide +kernel
theorem dL_law_668 : decode cL_law 668 = .ok (.invokevirtual 74, 3) := by decide +kernel
theorem dL_law_671 : decode cL_law 671 = .ok (.aload_n 2, 1) := by decide +kernel
theorem dL_law_672 : decode cL_law 672 = .ok (.aload_n 0, 1) := by decide +kernel
theorem dL_law_673 : decode cL_law 673 = .ok (.iload_n 3, 1) := by decide +kernel
theorem dL_law_674 : decode cL_law 674 = .ok (.iconst 1, 1) := by decide +kernel
theorem dL_law_675 : decode cL_law 675 = .ok (.iadd, 1) := by decide +kernel
theorem dL_law_676 : decode cL_law 676 = .ok (.iaload, 1) := by decide +kernel
theorem dL_law_677 : decode cL_law 677 = .ok (.invokevirtual 77, 3) := by decide +kernel
theorem dL_law_680 : decode cL_law 680 = .ok (.if_icmp .eq 772, 3) := by decide +kernel
theorem dL_law_683 : decode cL_law 683 = .ok (.iconst 0, 1) := by decide +kernel
theorem dL_law_684 : decode cL_law 684 = .ok (.ireturn, 1) := by decide +kernel
theorem dL_law_685 : decode cL_law 685 = .ok (.aload_n 1, 1) := by decide +kernel
theorem dL_law_686 : decode cL_law 686 = .ok (.aload_n 0, 1) := by decide +kernel
theorem dL_law_687 : decode cL_law 687 = .ok (.iload_n 3, 1) := by decide +kernel
theorem dL_law_688 : decode cL_law 688 = .ok (.iconst 1, 1) := by decide +kernel
theorem dL_law_689 : decode cL_law 689 = .ok (.iadd, 1) := by decide +kernel
theorem dL_law_690 : decode cL_law 690 = .ok (.iaload, 1) := by decide +kernel
theorem dL_law_691 : decode cL_law 691 = .ok (.aload_n 0, 1) := by decide +kernel
theorem dL_law_692 : decode cL_law 692 = .ok (.iload_n 3, 1) := by decide +kernel
theorem dL_law_693 : decode cL_law 693 = .ok (.iconst 2, 1) := by decide +kernel
theorem dL_law_694 : decode cL_law 694 = .ok (.iadd, 1) := by decide +kernel
theorem dL_law_695 : decode cL_law 695 = .ok (.iaload, 1) := by decide +kernel
theorem dL_law_696 : decode cL_law 696 = .ok (.invokevirtual 78, 3) := by decide +kernel
theorem dL_law_699 : decode cL_law 699 = .ok (.aload_n 2, 1) := by decide +kernel
theorem dL_law_700 : decode cL_law 700 = .ok (.aload_n 0, 1) := by decide +kernel
theorem dL_law_701 : decode cL_law 701 = .ok (.iload_n 3, 1) := by decide +kernel
theorem dL_law_702 : decode cL_law 702 = .ok (.iconst 1, 1) := by decide +kernel
theorem dL_law_703 : decode cL_law 703 = .ok (.iadd, 1) := by decide +kernel
theorem dL_law_704 : decode cL_law 704 = .ok (.iaload, 1) := by decide +kernel
theorem dL_law_705 : decode cL_law 705 = .ok (.aload_n 0, 1) := by decide +kernel
theorem dL_law_706 : decode cL_law 706 = .ok (.iload_n 3, 1) := by decide +kernel
theorem dL_law_707 : decode cL_law 707 = .ok (.iconst 2, 1) := by decide +kernel
theorem dL_law_708 : decode cL_law 708 = .ok (.iadd, 1) := by decide +kernel
theorem dL_law_709 : decode cL_law 709 = .ok (.iaload, 1) := by decide +kernel
theorem dL_law_710 : decode cL_law 710 = .ok (.invokevirtual 81, 3) := by decide +kernel
theorem dL_law_713 : decode cL_law 713 = .ok (.if_icmp .eq 739, 3) := by decide +kernel
theorem dL_law_716 : decode cL_law 716 = .ok (.iconst 0, 1) := by decide +kernel
theorem dL_law_717 : decode cL_law 717 = .ok (.ireturn, 1) := by decide +kernel
theorem dL_law_718 : decode cL_law 718 = .ok (.aload_n 1, 1) := by decide +kernel
theorem dL_law_719 : decode cL_law 719 = .ok (.aload_n 0, 1) := by decide +kernel
theorem dL_law_720 : decode cL_law 720 = .ok (.iload_n 3, 1) := by decide +kernel
theorem dL_law_721 : decode cL_law 721 = .ok (.iconst 1, 1) := by decide +kernel
theorem dL_law_722 : decode cL_law 722 = .ok (.iadd, 1) := by decide +kernel
theorem dL_law_723 : decode cL_law 723 = .ok (.iaload, 1) := by decide +kernel
theorem dL_law_724 : decode cL_law 724 = .ok (.invokevirtual 82, 3) := by decide +kernel
theorem dL_law_727 : decode cL_law 727 = .ok (.aload_n 2, 1) := by decide +kernel
theorem dL_law_728 : decode cL_law 728 = .ok (.aload_n 0, 1) := by decide +kernel
theorem dL_law_729 : decode cL_law 729 = .ok (.iload_n 3, 1) := by decide +kernel
theorem dL_law_730 : decode cL_law 730 = .ok (.iconst 1, 1) := by decide +kernel
theorem dL_law_731 : decode cL_law 731 = .ok (.iadd, 1) := by decide +kernel
theorem dL_law_732 : decode cL_law 732 = .ok (.iaload, 1) := by decide +kernel
theorem dL_law_733 : decode cL_law 733 = .ok (.invokevirtual 85, 3) := by decide +kernel
theorem dL_law_736 : decode cL_law 736 = .ok (.if_icmp .eq 716, 3) := by decide +kernel
theorem dL_law_739 : decode cL_law 739 = .ok (.iconst 0, 1) := by decide +kernel
theorem dL_law_740 : decode cL_law 740 = .ok (.ireturn, 1) := by decide +kernel
theorem dL_law_741 : decode cL_law 741 = .ok (.aload_n 1, 1) := by decide +kernel
theorem dL_law_742 : decode cL_law 742 = .ok (.aload_n 0, 1) := by decide +kernel
theorem dL_law_743 : decode cL_law 743 = .ok (.iload_n 3, 1) := by decide +kernel
theorem dL_law_744 : decode cL_law 744 = .ok (.iconst 1, 1) := by decide +kernel
theorem dL_law_745 : decode cL_law 745 = .ok (.iadd, 1) := by decide +kernel
theorem dL_law_746 : decode cL_law 746 = .ok (.iaload, 1) := by decide +kernel
theorem dL_law_747 : decode cL_law 747 = .ok (.invokevirtual 86, 3) := by decide +kernel
theorem dL_law_750 : decode cL_law 750 = .ok (.aload_n 2, 1) := by decide +kernel
theorem dL_law_751 : decode cL_law 751 = .ok (.aload_n 0, 1) := by decide +kernel
theorem dL_law_752 : decode cL_law 752 = .ok (.iload_n 3, 1) := by decide +kernel
theorem dL_law_753 : decode cL_law 753 = .ok (.iconst 1, 1) := by decide +kernel
theorem dL_law_754 : decode cL_law 754 = .ok (.iadd, 1) := by decide +kernel
theorem dL_law_755 : decode cL_law 755 = .ok (.iaload, 1) := by decide +kernel
theorem dL_law_756 : decode cL_law 756 = .ok (.invokevirtual 89, 3) := by decide +kernel
theorem dL_law_759 : decode cL_law 759 = .ok (.if_icmp .eq 693, 3) := by decide +kernel
theorem dL_law_762 : decode cL_law 762 = .ok (.iconst 0, 1) := by decide +kernel
theorem dL_law_763 : decode cL_law 763 = .ok (.ireturn, 1) := by decide +kernel
theorem dL_law_764 : decode cL_law 764 = .ok (.aload_n 1, 1) := by decide +kernel
theorem dL_law_765 : decode cL_law 765 = .ok (.aload_n 0, 1) := by decide +kernel
theorem dL_law_766 : decode cL_law 766 = .ok (.iload_n 3, 1) := by decide +kernel
theorem dL_law_767 : decode cL_law 767 = .ok (.iconst 1, 1) := by decide +kernel
theorem dL_law_768 : decode cL_law 768 = .ok (.iadd, 1) := by decide +kernel
theorem dL_law_769 : decode cL_law 769 = .ok (.iaload, 1) := by decide +kernel
theorem dL_law_770 : decode cL_law 770 = .ok (.invokevirtual 90, 3) := by decide +kernel
theorem dL_law_773 : decode cL_law 773 = .ok (.aload_n 2, 1) := by decide +kernel
theorem dL_law_774 : decode cL_law 774 = .ok (.aload_n 0, 1) := by decide +kernel
theorem dL_law_775 : decode cL_law 775 = .ok (.iload_n 3, 1) := by decide +kernel
theorem dL_law_776 : decode cL_law 776 = .ok (.iconst 1, 1) := by decide +kernel
theorem dL_law_777 : decode cL_law 777 = .ok (.iadd, 1) := by decide +kernel
theorem dL_law_778 : decode cL_law 778 = .ok (.iaload, 1) := by decide +kernel
theorem dL_law_779 : decode cL_law 779 = .ok (.invokevirtual 93, 3) := by decide +kernel
theorem dL_law_782 : decode cL_law 782 = .ok (.if_icmp .eq 670, 3) := by decide +kernel
theorem dL_law_785 : decode cL_law 785 = .ok (.iconst 0, 1) := by decide +kernel
theorem dL_law_786 : decode cL_law 786 = .ok (.ireturn, 1) := by decide +kernel
theorem dL_law_787 : decode cL_law 787 = .ok (.aload_n 1, 1) := by decide +kernel
theorem dL_law_788 : decode cL_law 788 = .ok (.aload_n 0, 1) := by decide +kernel
theorem dL_law_789 : decode cL_law 789 = .ok (.iload_n 3, 1) := by decide +kernel
theorem dL_law_790 : decode cL_law 790 = .ok (.iconst 1, 1) := by decide +kernel
theorem dL_law_791 : decode cL_law 791 = .ok (.iadd, 1) := by decide +kernel
theorem dL_law_792 : decode cL_law 792 = .ok (.iaload, 1) := by decide +kernel
theorem dL_law_793 : decode cL_law 793 = .ok (.invokevirtual 94, 3) := by decide +kernel
theorem dL_law_796 : decode cL_law 796 = .ok (.aload_n 2, 1) := by decide +kernel
theorem dL_law_797 : decode cL_law 797 = .ok (.aload_n 0, 1) := by decide +kernel
theorem dL_law_798 : decode cL_law 798 = .ok (.iload_n 3, 1) := by decide +kernel
theorem dL_law_799 : decode cL_law 799 = .ok (.iconst 1, 1) := by decide +kernel
theorem dL_law_800 : decode cL_law 800 = .ok (.iadd, 1) := by decide +kernel
theorem dL_law_801 : decode cL_law 801 = .ok (.iaload, 1) := by decide +kernel
theorem dL_law_802 : decode cL_law 802 = .ok (.invokevirtual 97, 3) := by decide +kernel
theorem dL_law_805 : decode cL_law 805 = .ok (.if_icmp .eq 647, 3) := by decide +kernel
theorem dL_law_808 : decode cL_law 808 = .ok (.iconst 0, 1) := by decide +kernel
theorem dL_law_809 : decode cL_law 809 = .ok (.ireturn, 1) := by decide +kernel
theorem dL_law_810 : decode cL_law 810 = .ok (.aload_n 1, 1) := by decide +kernel
theorem dL_law_811 : decode cL_law 811 = .ok (.aload_n 0, 1) := by decide +kernel
theorem dL_law_812 : decode cL_law 812 = .ok (.iload_n 3, 1) := by decide +kernel
theorem dL_law_813 : decode cL_law 813 = .ok (.iconst 1, 1) := by decide +kernel
theorem dL_law_814 : decode cL_law 814 = .ok (.iadd, 1) := by decide +kernel
theorem dL_law_815 : decode cL_law 815 = .ok (.iaload, 1) := by decide +kernel
theorem dL_law_816 : decode cL_law 816 = .ok (.aload_n 0, 1) := by decide +kernel
theorem dL_law_817 : decode cL_law 817 = .ok (.iload_n 3, 1) := by decide +kernel
theorem dL_law_818 : decode cL_law 818 = .ok (.iconst 2, 1) := by decide +kernel
theorem dL_law_819 : decode cL_law 819 = .ok (.iadd, 1) := by decide +kernel
theorem dL_law_820 : decode cL_law 820 = .ok (.iaload, 1) := by decide +kernel
theorem dL_law_821 : decode cL_law 821 = .ok (.invokevirtual 98, 3) := by decide +kernel
theorem dL_law_824 : decode cL_law 824 = .ok (.aload_n 2, 1) := by decide +kernel
theorem dL_law_825 : decode cL_law 825 = .ok (.aload_n 0, 1) := by decide +kernel
theorem dL_law_826 : decode cL_law 826 = .ok (.iload_n 3, 1) := by decide +kernel
theorem dL_law_827 : decode cL_law 827 = .ok (.iconst 1, 1) := by decide +kernel
theorem dL_law_828 : decode cL_law 828 = .ok (.iadd, 1) := by decide +kernel
theorem dL_law_829 : decode cL_law 829 = .ok (.iaload, 1) := by decide +kernel
theorem dL_law_830 : decode cL_law 830 = .ok (.aload_n 0, 1) := by decide +kernel
theorem dL_law_831 : decode cL_law 831 = .ok (.iload_n 3, 1) := by decide +kernel
theorem dL_law_832 : decode cL_law 832 = .ok (.iconst 2, 1) := by decide +kernel
theorem dL_law_833 : decode cL_law 833 = .ok (.iadd, 1) := by decide +kernel
theorem dL_law_834 : decode cL_law 834 = .ok (.iaload, 1) := by decide +kernel
theorem dL_law_835 : decode cL_law 835 = .ok (.invokevirtual 101, 3) := by decide +kernel
theorem dL_law_838 : decode cL_law 838 = .ok (.if_icmp .eq 614, 3) := by decide +kernel
theorem dL_law_841 : decode cL_law 841 = .ok (.iconst 0, 1) := by decide +kernel
theorem dL_law_842 : decode cL_law 842 = .ok (.ireturn, 1) := by decide +kernel
theorem dL_law_843 : decode cL_law 843 = .ok (.aload_n 1, 1) := by decide +kernel
theorem dL_law_844 : decode cL_law 844 = .ok (.invokevirtual 102, 3) := by decide +kernel
theorem dL_law_847 : decode cL_law 847 = .ok (.aload_n 2, 1) := by decide +kernel
theorem dL_law_848 : decode cL_law 848 = .ok (.invokevirtual 105, 3) := by decide +kernel
theorem dL_law_851 : decode cL_law 851 = .ok (.if_icmp .eq 601, 3) := by decide +kernel
theorem dL_law_854 : decode cL_law 854 = .ok (.iconst 0, 1) := by decide +kernel
theorem dL_law_855 : decode cL_law 855 = .ok (.ireturn, 1) := by decide +kernel
theorem dL_law_856 : decode cL_law 856 = .ok (.aload_n 1, 1) := by decide +kernel
theorem dL_law_857 : decode cL_law 857 = .ok (.aload_n 0, 1) := by decide +kernel
theorem dL_law_858 : decode cL_law 858 = .ok (.iload_n 3, 1) := by decide +kernel
theorem dL_law_859 : decode cL_law 859 = .ok (.iconst 1, 1) := by decide +kernel
theorem dL_law_860 : decode cL_law 860 = .ok (.iadd, 1) := by decide +kernel
theorem dL_law_861 : decode cL_law 861 = .ok (.iaload, 1) := by decide +kernel
theorem dL_law_862 : decode cL_law 862 = .ok (.aload_n 0, 1) := by decide +kernel
theorem dL_law_863 : decode cL_law 863 = .ok (.iload_n 3, 1) := by decide +kernel
theorem dL_law_864 : decode cL_law 864 = .ok (.iconst 2, 1) := by decide +kernel
theorem dL_law_865 : decode cL_law 865 = .ok (.iadd, 1) := by decide +kernel
theorem dL_law_866 : decode cL_law 866 = .ok (.iaload, 1) := by decide +kernel
theorem dL_law_867 : decode cL_law 867 = .ok (.aload_n 0, 1) := by decide +kernel
theorem dL_law_868 : decode cL_law 868 = .ok (.iload_n 3, 1) := by decide +kernel
theorem dL_law_869 : decode cL_law 869 = .ok (.iconst 3, 1) := by decide +kernel
theorem dL_law_870 : decode cL_law 870 = .ok (.iadd, 1) := by decide +kernel
theorem dL_law_871 : decode cL_law 871 = .ok (.iaload, 1) := by decide +kernel
theorem dL_law_872 : decode cL_law 872 = .ok (.invokevirtual 106, 3) := by decide +kernel
theorem dL_law_875 : decode cL_law 875 = .ok (.aload_n 2, 1) := by decide +kernel
theorem dL_law_876 : decode cL_law 876 = .ok (.aload_n 0, 1) := by decide +kernel
theorem dL_law_877 : decode cL_law 877 = .ok (.iload_n 3, 1) := by decide +kernel
theorem dL_law_878 : decode cL_law 878 = .ok (.iconst 1, 1) := by decide +kernel
theorem dL_law_879 : decode cL_law 879 = .ok (.iadd, 1) := by decide +kernel
theorem dL_law_880 : decode cL_law 880 = .ok (.iaload, 1) := by decide +kernel
theorem dL_law_881 : decode cL_law 881 = .ok (.aload_n 0, 1) := by decide +kernel
theorem dL_law_882 : decode cL_law 882 = .ok (.iload_n 3, 1) := by decide +kernel
theorem dL_law_883 : decode cL_law 883 = .ok (.iconst 2, 1) := by decide +kernel
theorem dL_law_884 : decode cL_law 884 = .ok (.iadd, 1) := by decide +kernel
theorem dL_law_885 : decode cL_law 885 = .ok (.iaload, 1) := by decide +kernel
theorem dL_law_886 : decode cL_law 886 = .ok (.aload_n 0, 1) := by decide +kernel
theorem dL_law_887 : decode cL_law 887 = .ok (.iload_n 3, 1) := by decide +kernel
theorem dL_law_888 : decode cL_law 888 = .ok (.iconst 3, 1) := by decide +kernel
theorem dL_law_889 : decode cL_law 889 = .ok (.iadd, 1) := by decide +kernel
theorem dL_law_890 : decode cL_law 890 = .ok (.iaload, 1) := by decide +kernel
theorem dL_law_891 : decode cL_law 891 = .ok (.invokevirtual 109, 3) := by decide +kernel
theorem dL_law_894 : decode cL_law 894 = .ok (.if_icmp .eq 558, 3) := by decide +kernel
theorem dL_law_897 : decode cL_law 897 = .ok (.iconst 0, 1) := by decide +kernel
theorem dL_law_898 : decode cL_law 898 = .ok (.ireturn, 1) := by decide +kernel
theorem dL_law_899 : decode cL_law 899 = .ok (.aload_n 1, 1) := by decide +kernel
theorem dL_law_900 : decode cL_law 900 = .ok (.aload_n 0, 1) := by decide +kernel
theorem dL_law_901 : decode cL_law 901 = .ok (.iload_n 3, 1) := by decide +kernel
theorem dL_law_902 : decode cL_law 902 = .ok (.iconst 1, 1) := by decide +kernel
theorem dL_law_903 : decode cL_law 903 = .ok (.iadd, 1) := by decide +kernel
theorem dL_law_904 : decode cL_law 904 = .ok (.iaload, 1) := by decide +kernel
theorem dL_law_905 : decode cL_law 905 = .ok (.invokevirtual 110, 3) := by decide +kernel
theorem dL_law_908 : decode cL_law 908 = .ok (.aload_n 2, 1) := by decide +kernel
theorem dL_law_909 : decode cL_law 909 = .ok (.aload_n 0, 1) := by decide +kernel
theorem dL_law_910 : decode cL_law 910 = .ok (.iload_n 3, 1) := by decide +kernel
theorem dL_law_911 : decode cL_law 911 = .ok (.iconst 1, 1) := by decide +kernel
theorem dL_law_912 : decode cL_law 912 = .ok (.iadd, 1) := by decide +kernel
theorem dL_law_913 : decode cL_law 913 = .ok (.iaload, 1) := by decide +kernel
theorem dL_law_914 : decode cL_law 914 = .ok (.invokevirtual 113, 3) := by decide +kernel
theorem dL_law_917 : decode cL_law 917 = .ok (.if_icmp .eq 535, 3) := by decide +kernel
theorem dL_law_920 : decode cL_law 920 = .ok (.iconst 0, 1) := by decide +kernel
theorem dL_law_921 : decode cL_law 921 = .ok (.ireturn, 1) := by decide +kernel
theorem dL_law_922 : decode cL_law 922 = .ok (.aload_n 1, 1) := by decide +kernel
theorem dL_law_923 : decode cL_law 923 = .ok (.aload_n 0, 1) := by decide +kernel
theorem dL_law_924 : decode cL_law 924 = .ok (.iload_n 3, 1) := by decide +kernel
theorem dL_law_925 : decode cL_law 925 = .ok (.iconst 1, 1) := by decide +kernel
theorem dL_law_926 : decode cL_law 926 = .ok (.iadd, 1) := by decide +kernel
theorem dL_law_927 : decode cL_law 927 = .ok (.iaload, 1) := by decide +kernel
theorem dL_law_928 : decode cL_law 928 = .ok (.aload_n 0, 1) := by decide +kernel
theorem dL_law_929 : decode cL_law 929 = .ok (.iload_n 3, 1) := by decide +kernel
theorem dL_law_930 : decode cL_law 930 = .ok (.iconst 2, 1) := by decide +kernel
theorem dL_law_931 : decode cL_law 931 = .ok (.iadd, 1) := by decide +kernel
theorem dL_law_932 : decode cL_law 932 = .ok (.iaload, 1) := by decide +kernel
theorem dL_law_933 : decode cL_law 933 = .ok (.aload_n 0, 1) := by decide +kernel
theorem dL_law_934 : decode cL_law 934 = .ok (.iload_n 3, 1) := by decide +kernel
theorem dL_law_935 : decode cL_law 935 = .ok (.iconst 3, 1) := by decide +kernel
theorem dL_law_936 : decode cL_law 936 = .ok (.iadd, 1) := by decide +kernel
theorem dL_law_937 : decode cL_law 937 = .ok (.iaload, 1) := by decide +kernel
theorem dL_law_938 : decode cL_law 938 = .ok (.invokevirtual 114, 3) := by decide +kernel
theorem dL_law_941 : decode cL_law 941 = .ok (.aload_n 2, 1) := by decide +kernel
theorem dL_law_942 : decode cL_law 942 = .ok (.aload_n 0, 1) := by decide +kernel
theorem dL_law_943 : decode cL_law 943 = .ok (.iload_n 3, 1) := by decide +kernel
theorem dL_law_944 : decode cL_law 944 = .ok (.iconst 1, 1) := by decide +kernel
theorem dL_law_945 : decode cL_law 945 = .ok (.iadd, 1) := by decide +kernel
theorem dL_law_946 : decode cL_law 946 = .ok (.iaload, 1) := by decide +kernel
theorem dL_law_947 : decode cL_law 947 = .ok (.aload_n 0, 1) := by decide +kernel
theorem dL_law_948 : decode cL_law 948 = .ok (.iload_n 3, 1) := by decide +kernel
theorem dL_law_949 : decode cL_law 949 = .ok (.iconst 2, 1) := by decide +kernel
theorem dL_law_950 : decode cL_law 950 = .ok (.iadd, 1) := by decide +kernel
theorem dL_law_951 : decode cL_law 951 = .ok (.iaload, 1) := by decide +kernel
theorem dL_law_952 : decode cL_law 952 = .ok (.aload_n 0, 1) := by decide +kernel
theorem dL_law_953 : decode cL_law 953 = .ok (.iload_n 3, 1) := by decide +kernel
theorem dL_law_954 : decode cL_law 954 = .ok (.iconst 3, 1) := by decide +kernel
theorem dL_law_955 : decode cL_law 955 = .ok (.iadd, 1) := by decide +kernel
theorem dL_law_956 : decode cL_law 956 = .ok (.iaload, 1) := by decide +kernel
theorem dL_law_957 : decode cL_law 957 = .ok (.invokevirtual 117, 3) := by decide +kernel
theorem dL_law_960 : decode cL_law 960 = .ok (.if_icmp .eq 492, 3) := by decide +kernel
theorem dL_law_963 : decode cL_law 963 = .ok (.iconst 0, 1) := by decide +kernel
theorem dL_law_964 : decode cL_law 964 = .ok (.ireturn, 1) := by decide +kernel
theorem dL_law_965 : decode cL_law 965 = .ok (.aload_n 1, 1) := by decide +kernel
theorem dL_law_966 : decode cL_law 966 = .ok (.aload_n 0, 1) := by decide +kernel
theorem dL_law_967 : decode cL_law 967 = .ok (.iload_n 3, 1) := by decide +kernel
theorem dL_law_968 : decode cL_law 968 = .ok (.iconst 1, 1) := by decide +kernel
theorem dL_law_969 : decode cL_law 969 = .ok (.iadd, 1) := by decide +kernel
theorem dL_law_970 : decode cL_law 970 = .ok (.iaload, 1) := by decide +kernel
theorem dL_law_971 : decode cL_law 971 = .ok (.invokevirtual 118, 3) := by decide +kernel
theorem dL_law_974 : decode cL_law 974 = .ok (.aload_n 2, 1) := by decide +kernel
theorem dL_law_975 : decode cL_law 975 = .ok (.aload_n 0, 1) := by decide +kernel
theorem dL_law_976 : decode cL_law 976 = .ok (.iload_n 3, 1) := by decide +kernel
theorem dL_law_977 : decode cL_law 977 = .ok (.iconst 1, 1) := by decide +kernel
theorem dL_law_978 : decode cL_law 978 = .ok (.iadd, 1) := by decide +kernel
theorem dL_law_979 : decode cL_law 979 = .ok (.iaload, 1) := by decide +kernel
theorem dL_law_980 : decode cL_law 980 = .ok (.invokevirtual 121, 3) := by decide +kernel
theorem dL_law_983 : decode cL_law 983 = .ok (.if_icmp .eq 469, 3) := by decide +kernel
theorem dL_law_986 : decode cL_law 986 = .ok (.iconst 0, 1) := by decide +kernel
theorem dL_law_987 : decode cL_law 987 = .ok (.ireturn, 1) := by decide +kernel
theorem dL_law_988 : decode cL_law 988 = .ok (.aload_n 1, 1) := by decide +kernel
theorem dL_law_989 : decode cL_law 989 = .ok (.aload_n 0, 1) := by decide +kernel
theorem dL_law_990 : decode cL_law 990 = .ok (.iload_n 3, 1) := by decide +kernel
theorem dL_law_991 : decode cL_law 991 = .ok (.iconst 1, 1) := by decide +kernel
theorem dL_law_992 : decode cL_law 992 = .ok (.iadd, 1) := by decide +kernel
theorem dL_law_993 : decode cL_law 993 = .ok (.iaload, 1) := by decide +kernel
theorem dL_law_994 : decode cL_law 994 = .ok (.invokevirtual 122, 3) := by decide +kernel
theorem dL_law_997 : decode cL_law 997 = .ok (.aload_n 2, 1) := by decide +kernel
theorem dL_law_998 : decode cL_law 998 = .ok (.aload_n 0, 1) := by decide +kernel
theorem dL_law_999 : decode cL_law 999 = .ok (.iload_n 3, 1) := by decide +kernel
theorem dL_law_1000 : decode cL_law 1000 = .ok (.iconst 1, 1) := by decide +kernel
theorem dL_law_1001 : decode cL_law 1001 = .ok (.iadd, 1) := by decide +kernel
theorem dL_law_1002 : decode cL_law 1002 = .ok (.iaload, 1) := by decide +kernel
theorem dL_law_1003 : decode cL_law 1003 = .ok (.invokevirtual 125, 3) := by decide +kernel
theorem dL_law_1006 : decode cL_law 1006 = .ok (.if_icmp .eq 446, 3) := by decide +kernel
theorem dL_law_1009 : decode cL_law 1009 = .ok (.iconst 0, 1) := by decide +kernel
theorem dL_law_1010 : decode cL_law 1010 = .ok (.ireturn, 1) := by decide +kernel
theorem dL_law_1011 : decode cL_law 1011 = .ok (.aload_n 1, 1) := by decide +kernel
theorem dL_law_1012 : decode cL_law 1012 = .ok (.aload_n 0, 1) := by decide +kernel
theorem dL_law_1013 : decode cL_law 1013 = .ok (.iload_n 3, 1) := by decide +kernel
theorem dL_law_1014 : decode cL_law 1014 = .ok (.iconst 1, 1) := by decide +kernel
theorem dL_law_1015 : decode cL_law 1015 = .ok (.iadd, 1) := by decide +kernel
theorem dL_law_1016 : decode cL_law 1016 = .ok (.iaload, 1) := by decide +kernel
theorem dL_law_1017 : decode cL_law 1017 = .ok (.invokevirtual 126, 3) := by decide +kernel
theorem dL_law_1020 : decode cL_law 1020 = .ok (.aload_n 2, 1) := by decide +kernel
theorem dL_law_1021 : decode cL_law 1021 = .ok (.aload_n 0, 1) := by decide +kernel
theorem dL_law_1022 : decode cL_law 1022 = .ok (.iload_n 3, 1) := by decide +kernel
theorem dL_law_1023 : decode cL_law 1023 = .ok (.iconst 1, 1) := by decide +kernel
theorem dL_law_1024 : decode cL_law 1024 = .ok (.iadd, 1) := by decide +kernel
theorem dL_law_1025 : decode cL_law 1025 = .ok (.iaload, 1) := by decide +kernel
theorem dL_law_1026 : decode cL_law 1026 = .ok (.invokevirtual 129, 3) := by decide +kernel
theorem dL_law_1029 : decode cL_law 1029 = .ok (.if_icmp .eq 423, 3) := by decide +kernel
theorem dL_law_1032 : decode cL_law 1032 = .ok (.iconst 0, 1) := by decide +kernel
theorem dL_law_1033 : decode cL_law 1033 = .ok (.ireturn, 1) := by decide +kernel
theorem dL_law_1034 : decode cL_law 1034 = .ok (.aload_n 1, 1) := by decide +kernel
theorem dL_law_1035 : decode cL_law 1035 = .ok (.aload_n 0, 1) := by decide +kernel
theorem dL_law_1036 : decode cL_law 1036 = .ok (.iload_n 3, 1) := by decide +kernel
theorem dL_law_1037 : decode cL_law 1037 = .ok (.iconst 1, 1) := by decide +kernel
theorem dL_law_1038 : decode cL_law 1038 = .ok (.iadd, 1) := by decide +kernel
theorem dL_law_1039 : decode cL_law 1039 = .ok (.iaload, 1) := by decide +kernel
theorem dL_law_1040 : decode cL_law 1040 = .ok (.invokevirtual 130, 3) := by decide +kernel
theorem dL_law_1043 : decode cL_law 1043 = .ok (.aload_n 2, 1) := by decide +kernel
theorem dL_law_1044 : decode cL_law 1044 = .ok (.aload_n 0, 1) := by decide +kernel
theorem dL_law_1045 : decode cL_law 1045 = .ok (.iload_n 3, 1) := by decide +kernel
theorem dL_law_1046 : decode cL_law 1046 = .ok (.iconst 1, 1) := by decide +kernel
theorem dL_law_1047 : decode cL_law 1047 = .ok (.iadd, 1) := by decide +kernel
theorem dL_law_1048 : decode cL_law 1048 = .ok (.iaload, 1) := by decide +kernel
theorem dL_law_1049 : decode cL_law 1049 = .ok (.invokevirtual 133, 3) := by decide +kernel
theorem dL_law_1052 : decode cL_law 1052 = .ok (.if_icmp .eq 400, 3) := by decide +kernel
theorem dL_law_1055 : decode cL_law 1055 = .ok (.iconst 0, 1) := by decide +kernel
theorem dL_law_1056 : decode cL_law 1056 = .ok (.ireturn, 1) := by decide +kernel
theorem dL_law_1057 : decode cL_law 1057 = .ok (.aload_n 1, 1) := by decide +kernel
theorem dL_law_1058 : decode cL_law 1058 = .ok (.aload_n 0, 1) := by decide +kernel
theorem dL_law_1059 : decode cL_law 1059 = .ok (.iload_n 3, 1) := by decide +kernel
theorem dL_law_1060 : decode cL_law 1060 = .ok (.iconst 1, 1) := by decide +kernel
theorem dL_law_1061 : decode cL_law 1061 = .ok (.iadd, 1) := by decide +kernel
theorem dL_law_1062 : decode cL_law 1062 = .ok (.iaload, 1) := by decide +kernel
theorem dL_law_1063 : decode cL_law 1063 = .ok (.aload_n 0, 1) := by decide +kernel
theorem dL_law_1064 : decode cL_law 1064 = .ok (.iload_n 3, 1) := by decide +kernel
theorem dL_law_1065 : decode cL_law 1065 = .ok (.iconst 2, 1) := by decide +kernel
theorem dL_law_1066 : decode cL_law 1066 = .ok (.iadd, 1) := by decide +kernel
theorem dL_law_1067 : decode cL_law 1067 = .ok (.iaload, 1) := by decide +kernel
theorem dL_law_1068 : decode cL_law 1068 = .ok (.invokevirtual 134, 3) := by decide +kernel
theorem dL_law_1071 : decode cL_law 1071 = .ok (.aload_n 2, 1) := by decide +kernel
theorem dL_law_1072 : decode cL_law 1072 = .ok (.aload_n 0, 1) := by decide +kernel
theorem dL_law_1073 : decode cL_law 1073 = .ok (.iload_n 3, 1) := by decide +kernel
theorem dL_law_1074 : decode cL_law 1074 = .ok (.iconst 1, 1) := by decide +kernel
theorem dL_law_1075 : decode cL_law 1075 = .ok (.iadd, 1) := by decide +kernel
theorem dL_law_1076 : decode cL_law 1076 = .ok (.iaload, 1) := by decide +kernel
theorem dL_law_1077 : decode cL_law 1077 = .ok (.aload_n 0, 1) := by decide +kernel
theorem dL_law_1078 : decode cL_law 1078 = .ok (.iload_n 3, 1) := by decide +kernel
theorem dL_law_1079 : decode cL_law 1079 = .ok (.iconst 2, 1) := by decide +kernel
theorem dL_law_1080 : decode cL_law 1080 = .ok (.iadd, 1) := by decide +kernel
theorem dL_law_1081 : decode cL_law 1081 = .ok (.iaload, 1) := by decide +kernel
theorem dL_law_1082 : decode cL_law 1082 = .ok (.invokevirtual 137, 3) := by decide +kernel
theorem dL_law_1085 : decode cL_law 1085 = .ok (.if_icmp .eq 367, 3) := by decide +kernel
theorem dL_law_1088 : decode cL_law 1088 = .ok (.iconst 0, 1) := by decide +kernel
theorem dL_law_1089 : decode cL_law 1089 = .ok (.ireturn, 1) := by decide +kernel
theorem dL_law_1090 : decode cL_law 1090 = .ok (.aload_n 1, 1) := by decide +kernel
theorem dL_law_1091 : decode cL_law 1091 = .ok (.aload_n 0, 1) := by decide +kernel
theorem dL_law_1092 : decode cL_law 1092 = .ok (.iload_n 3, 1) := by decide +kernel
theorem dL_law_1093 : decode cL_law 1093 = .ok (.iconst 1, 1) := by decide +kernel
theorem dL_law_1094 : decode cL_law 1094 = .ok (.iadd, 1) := by decide +kernel
theorem dL_law_1095 : decode cL_law 1095 = .ok (.iaload, 1) := by decide +kernel
theorem dL_law_1096 : decode cL_law 1096 = .ok (.aload_n 0, 1) := by decide +kernel
theorem dL_law_1097 : decode cL_law 1097 = .ok (.iload_n 3, 1) := by decide +kernel
theorem dL_law_1098 : decode cL_law 1098 = .ok (.iconst 2, 1) := by decide +kernel
theorem dL_law_1099 : decode cL_law 1099 = .ok (.iadd, 1) := by decide +kernel
theorem dL_law_1100 : decode cL_law 1100 = .ok (.iaload, 1) := by decide +kernel
theorem dL_law_1101 : decode cL_law 1101 = .ok (.invokevirtual 138, 3) := by decide +kernel
theorem dL_law_1104 : decode cL_law 1104 = .ok (.aload_n 2, 1) := by decide +kernel
theorem dL_law_1105 : decode cL_law 1105 = .ok (.aload_n 0, 1) := by decide +kernel
theorem dL_law_1106 : decode cL_law 1106 = .ok (.iload_n 3, 1) := by decide +kernel
theorem dL_law_1107 : decode cL_law 1107 = .ok (.iconst 1, 1) := by decide +kernel
theorem dL_law_1108 : decode cL_law 1108 = .ok (.iadd, 1) := by decide +kernel
theorem dL_law_1109 : decode cL_law 1109 = .ok (.iaload, 1) := by decide +kernel
theorem dL_law_1110 : decode cL_law 1110 = .ok (.aload_n 0, 1) := by decide +kernel
theorem dL_law_1111 : decode cL_law 1111 = .ok (.iload_n 3, 1) := by decide +kernel
theorem dL_law_1112 : decode cL_law 1112 = .ok (.iconst 2, 1) := by decide +kernel
theorem dL_law_1113 : decode cL_law 1113 = .ok (.iadd, 1) := by decide +kernel
theorem dL_law_1114 : decode cL_law 1114 = .ok (.iaload, 1) := by decide +kernel
theorem dL_law_1115 : decode cL_law 1115 = .ok (.invokevirtual 141, 3) := by decide +kernel
theorem dL_law_1118 : decode cL_law 1118 = .ok (.if_icmp .eq 334, 3) := by decide +kernel
theorem dL_law_1121 : decode cL_law 1121 = .ok (.iconst 0, 1) := by decide +kernel
theorem dL_law_1122 : decode cL_law 1122 = .ok (.ireturn, 1) := by decide +kernel
theorem dL_law_1123 : decode cL_law 1123 = .ok (.aload_n 1, 1) := by decide +kernel
theorem dL_law_1124 : decode cL_law 1124 = .ok (.aload_n 0, 1) := by decide +kernel
theorem dL_law_1125 : decode cL_law 1125 = .ok (.iload_n 3, 1) := by decide +kernel
theorem dL_law_1126 : decode cL_law 1126 = .ok (.iconst 1, 1) := by decide +kernel
theorem dL_law_1127 : decode cL_law 1127 = .ok (.iadd, 1) := by decide +kernel
theorem dL_law_1128 : decode cL_law 1128 = .ok (.iaload, 1) := by decide +kernel
theorem dL_law_1129 : decode cL_law 1129 = .ok (.aload_n 0, 1) := by decide +kernel
theorem dL_law_1130 : decode cL_law 1130 = .ok (.iload_n 3, 1) := by decide +kernel
theorem dL_law_1131 : decode cL_law 1131 = .ok (.iconst 2, 1) := by decide +kernel
theorem dL_law_1132 : decode cL_law 1132 = .ok (.iadd, 1) := by decide +kernel
theorem dL_law_1133 : decode cL_law 1133 = .ok (.iaload, 1) := by decide +kernel
theorem dL_law_1134 : decode cL_law 1134 = .ok (.invokevirtual 142, 3) := by decide +kernel
theorem dL_law_1137 : decode cL_law 1137 = .ok (.aload_n 2, 1) := by decide +kernel
theorem dL_law_1138 : decode cL_law 1138 = .ok (.aload_n 0, 1) := by decide +kernel
theorem dL_law_1139 : decode cL_law 1139 = .ok (.iload_n 3, 1) := by decide +kernel
theorem dL_law_1140 : decode cL_law 1140 = .ok (.iconst 1, 1) := by decide +kernel
theorem dL_law_1141 : decode cL_law 1141 = .ok (.iadd, 1) := by decide +kernel
theorem dL_law_1142 : decode cL_law 1142 = .ok (.iaload, 1) := by decide +kernel
theorem dL_law_1143 : decode cL_law 1143 = .ok (.aload_n 0, 1) := by decide +kernel
theorem dL_law_1144 : decode cL_law 1144 = .ok (.iload_n 3, 1) := by decide +kernel
theorem dL_law_1145 : decode cL_law 1145 = .ok (.iconst 2, 1) := by decide +kernel
theorem dL_law_1146 : decode cL_law 1146 = .ok (.iadd, 1) := by decide +kernel
theorem dL_law_1147 : decode cL_law 1147 = .ok (.iaload, 1) := by decide +kernel
theorem dL_law_1148 : decode cL_law 1148 = .ok (.invokevirtual 145, 3) := by decide +kernel
theorem dL_law_1151 : decode cL_law 1151 = .ok (.if_icmp .eq 301, 3) := by decide +kernel
theorem dL_law_1154 : decode cL_law 1154 = .ok (.iconst 0, 1) := by decide +kernel
theorem dL_law_1155 : decode cL_law 1155 = .ok (.ireturn, 1) := by decide +kernel
theorem dL_law_1156 : decode cL_law 1156 = .ok (.aload_n 1, 1) := by decide +kernel
theorem dL_law_1157 : decode cL_law 1157 = .ok (.aload_n 0, 1) := by decide +kernel
theorem dL_law_1158 : decode cL_law 1158 = .ok (.iload_n 3, 1) := by decide +kernel
theorem dL_law_1159 : decode cL_law 1159 = .ok (.iconst 1, 1) := by decide +kernel
theorem dL_law_1160 : decode cL_law 1160 = .ok (.iadd, 1) := by decide +kernel
theorem dL_law_1161 : decode cL_law 1161 = .ok (.iaload, 1) := by decide +kernel
theorem dL_law_1162 : decode cL_law 1162 = .ok (.aload_n 0, 1) := by decide +kernel
theorem dL_law_1163 : decode cL_law 1163 = .ok (.iload_n 3, 1) := by decide +kernel
theorem dL_law_1164 : decode cL_law 1164 = .ok (.iconst 2, 1) := by decide +kernel
theorem dL_law_1165 : decode cL_law 1165 = .ok (.iadd, 1) := by decide +kernel
theorem dL_law_1166 : decode cL_law 1166 = .ok (.iaload, 1) := by decide +kernel
theorem dL_law_1167 : decode cL_law 1167 = .ok (.aload_n 0, 1) := by decide +kernel
theorem dL_law_1168 : decode cL_law 1168 = .ok (.iload_n 3, 1) := by decide +kernel
theorem dL_law_1169 : decode cL_law 1169 = .ok (.iconst 3, 1) := by decide +kernel
theorem dL_law_1170 : decode cL_law 1170 = .ok (.iadd, 1) := by decide +kernel
theorem dL_law_1171 : decode cL_law 1171 = .ok (.iaload, 1) := by decide +kernel
theorem dL_law_1172 : decode cL_law 1172 = .ok (.aload_n 0, 1) := by decide +kernel
theorem dL_law_1173 : decode cL_law 1173 = .ok (.iload_n 3, 1) := by decide +kernel
theorem dL_law_1174 : decode cL_law 1174 = .ok (.iconst 4, 1) := by decide +kernel
theorem dL_law_1175 : decode cL_law 1175 = .ok (.iadd, 1) := by decide +kernel
theorem dL_law_1176 : decode cL_law 1176 = .ok (.iaload, 1) := by decide +kernel
theorem dL_law_1177 : decode cL_law 1177 = .ok (.invokevirtual 146, 3) := by decide +kernel
theorem dL_law_1180 : decode cL_law 1180 = .ok (.aload_n 2, 1) := by decide +kernel
theorem dL_law_1181 : decode cL_law 1181 = .ok (.aload_n 0, 1) := by decide +kernel
theorem dL_law_1182 : decode cL_law 1182 = .ok (.iload_n 3, 1) := by decide +kernel
theorem dL_law_1183 : decode cL_law 1183 = .ok (.iconst 1, 1) := by decide +kernel
theorem dL_law_1184 : decode cL_law 1184 = .ok (.iadd, 1) := by decide +kernel
theorem dL_law_1185 : decode cL_law 1185 = .ok (.iaload, 1) := by decide +kernel
theorem dL_law_1186 : decode cL_law 1186 = .ok (.aload_n 0, 1) := by decide +kernel
theorem dL_law_1187 : decode cL_law 1187 = .ok (.iload_n 3, 1) := by decide +kernel
theorem dL_law_1188 : decode cL_law 1188 = .ok (.iconst 2, 1) := by decide +kernel
theorem dL_law_1189 : decode cL_law 1189 = .ok (.iadd, 1) := by decide +kernel
theorem dL_law_1190 : decode cL_law 1190 = .ok (.iaload, 1) := by decide +kernel
theorem dL_law_1191 : decode cL_law 1191 = .ok (.aload_n 0, 1) := by decide +kernel
theorem dL_law_1192 : decode cL_law 1192 = .ok (.iload_n 3, 1) := by decide +kernel
theorem dL_law_1193 : decode cL_law 1193 = .ok (.iconst 3, 1) := by decide +kernel
theorem dL_law_1194 : decode cL_law 1194 = .ok (.iadd, 1) := by decide +kernel
theorem dL_law_1195 : decode cL_law 1195 = .ok (.iaload, 1) := by decide +kernel
theorem dL_law_1196 : decode cL_law 1196 = .ok (.aload_n 0, 1) := by decide +kernel
theorem dL_law_1197 : decode cL_law 1197 = .ok (.iload_n 3, 1) := by decide +kernel
theorem dL_law_1198 : decode cL_law 1198 = .ok (.iconst 4, 1) := by decide +kernel
theorem dL_law_1199 : decode cL_law 1199 = .ok (.iadd, 1) := by decide +kernel
theorem dL_law_1200 : decode cL_law 1200 = .ok (.iaload, 1) := by decide +kernel
theorem dL_law_1201 : decode cL_law 1201 = .ok (.invokevirtual 150, 3) := by decide +kernel
theorem dL_law_1204 : decode cL_law 1204 = .ok (.if_icmp .eq 248, 3) := by decide +kernel
theorem dL_law_1207 : decode cL_law 1207 = .ok (.iconst 0, 1) := by decide +kernel
theorem dL_law_1208 : decode cL_law 1208 = .ok (.ireturn, 1) := by decide +kernel
theorem dL_law_1209 : decode cL_law 1209 = .ok (.aload_n 1, 1) := by decide +kernel
theorem dL_law_1210 : decode cL_law 1210 = .ok (.aload_n 0, 1) := by decide +kernel
theorem dL_law_1211 : decode cL_law 1211 = .ok (.iload_n 3, 1) := by decide +kernel
theorem dL_law_1212 : decode cL_law 1212 = .ok (.iconst 1, 1) := by decide +kernel
theorem dL_law_1213 : decode cL_law 1213 = .ok (.iadd, 1) := by decide +kernel
theorem dL_law_1214 : decode cL_law 1214 = .ok (.iaload, 1) := by decide +kernel
theorem dL_law_1215 : decode cL_law 1215 = .ok (.aload_n 0, 1) := by decide +kernel
theorem dL_law_1216 : decode cL_law 1216 = .ok (.iload_n 3, 1) := by decide +kernel
theorem dL_law_1217 : decode cL_law 1217 = .ok (.iconst 2, 1) := by decide +kernel
theorem dL_law_1218 : decode cL_law 1218 = .ok (.iadd, 1) := by decide +kernel
theorem dL_law_1219 : decode cL_law 1219 = .ok (.iaload, 1) := by decide +kernel
theorem dL_law_1220 : decode cL_law 1220 = .ok (.aload_n 0, 1) := by decide +kernel
theorem dL_law_1221 : decode cL_law 1221 = .ok (.iload_n 3, 1) := by decide +kernel
theorem dL_law_1222 : decode cL_law 1222 = .ok (.iconst 3, 1) := by decide +kernel
theorem dL_law_1223 : decode cL_law 1223 = .ok (.iadd, 1) := by decide +kernel
theorem dL_law_1224 : decode cL_law 1224 = .ok (.iaload, 1) := by decide +kernel
theorem dL_law_1225 : decode cL_law 1225 = .ok (.aload_n 0, 1) := by decide +kernel
theorem dL_law_1226 : decode cL_law 1226 = .ok (.iload_n 3, 1) := by decide +kernel
theorem dL_law_1227 : decode cL_law 1227 = .ok (.iconst 4, 1) := by decide +kernel
theorem dL_law_1228 : decode cL_law 1228 = .ok (.iadd, 1) := by decide +kernel
theorem dL_law_1229 : decode cL_law 1229 = .ok (.iaload, 1) := by decide +kernel
theorem dL_law_1230 : decode cL_law 1230 = .ok (.invokevirtual 151, 3) := by decide +kernel
theorem dL_law_1233 : decode cL_law 1233 = .ok (.aload_n 2, 1) := by decide +kernel
theorem dL_law_1234 : decode cL_law 1234 = .ok (.aload_n 0, 1) := by decide +kernel
theorem dL_law_1235 : decode cL_law 1235 = .ok (.iload_n 3, 1) := by decide +kernel
theorem dL_law_1236 : decode cL_law 1236 = .ok (.iconst 1, 1) := by decide +kernel
theorem dL_law_1237 : decode cL_law 1237 = .ok (.iadd, 1) := by decide +kernel
theorem dL_law_1238 : decode cL_law 1238 = .ok (.iaload, 1) := by decide +kernel
theorem dL_law_1239 : decode cL_law 1239 = .ok (.aload_n 0, 1) := by decide +kernel
theorem dL_law_1240 : decode cL_law 1240 = .ok (.iload_n 3, 1) := by decide +kernel
theorem dL_law_1241 : decode cL_law 1241 = .ok (.iconst 2, 1) := by decide +kernel
theorem dL_law_1242 : decode cL_law 1242 = .ok (.iadd, 1) := by decide +kernel
theorem dL_law_1243 : decode cL_law 1243 = .ok (.iaload, 1) := by decide +kernel
theorem dL_law_1244 : decode cL_law 1244 = .ok (.aload_n 0, 1) := by decide +kernel
theorem dL_law_1245 : decode cL_law 1245 = .ok (.iload_n 3, 1) := by decide +kernel
theorem dL_law_1246 : decode cL_law 1246 = .ok (.iconst 3, 1) := by decide +kernel
theorem dL_law_1247 : decode cL_law 1247 = .ok (.iadd, 1) := by decide +kernel
theorem dL_law_1248 : decode cL_law 1248 = .ok (.iaload, 1) := by decide +kernel
theorem dL_law_1249 : decode cL_law 1249 = .ok (.aload_n 0, 1) := by decide +kernel
theorem dL_law_1250 : decode cL_law 1250 = .ok (.iload_n 3, 1) := by decide +kernel
theorem dL_law_1251 : decode cL_law 1251 = .ok (.iconst 4, 1) := by decide +kernel
theorem dL_law_1252 : decode cL_law 1252 = .ok (.iadd, 1) := by decide +kernel
theorem dL_law_1253 : decode cL_law 1253 = .ok (.iaload, 1) := by decide +kernel
theorem dL_law_1254 : decode cL_law 1254 = .ok (.invokevirtual 154, 3) := by decide +kernel
theorem dL_law_1257 : decode cL_law 1257 = .ok (.if_icmp .eq 195, 3) := by decide +kernel
theorem dL_law_1260 : decode cL_law 1260 = .ok (.iconst 0, 1) := by decide +kernel
theorem dL_law_1261 : decode cL_law 1261 = .ok (.ireturn, 1) := by decide +kernel
theorem dL_law_1262 : decode cL_law 1262 = .ok (.aload_n 1, 1) := by decide +kernel
theorem dL_law_1263 : decode cL_law 1263 = .ok (.aload_n 0, 1) := by decide +kernel
theorem dL_law_1264 : decode cL_law 1264 = .ok (.iload_n 3, 1) := by decide +kernel
theorem dL_law_1265 : decode cL_law 1265 = .ok (.iconst 1, 1) := by decide +kernel
theorem dL_law_1266 : decode cL_law 1266 = .ok (.iadd, 1) := by decide +kernel
theorem dL_law_1267 : decode cL_law 1267 = .ok (.iaload, 1) := by decide +kernel
theorem dL_law_1268 : decode cL_law 1268 = .ok (.aload_n 0, 1) := by decide +kernel
theorem dL_law_1269 : decode cL_law 1269 = .ok (.iload_n 3, 1) := by decide +kernel
theorem dL_law_1270 : decode cL_law 1270 = .ok (.iconst 2, 1) := by decide +kernel
theorem dL_law_1271 : decode cL_law 1271 = .ok (.iadd, 1) := by decide +kernel
theorem dL_law_1272 : decode cL_law 1272 = .ok (.iaload, 1) := by decide +kernel
theorem dL_law_1273 : decode cL_law 1273 = .ok (.aload_n 0, 1) := by decide +kernel
theorem dL_law_1274 : decode cL_law 1274 = .ok (.iload_n 3, 1) := by decide +kernel
theorem dL_law_1275 : decode cL_law 1275 = .ok (.iconst 3, 1) := by decide +kernel
theorem dL_law_1276 : decode cL_law 1276 = .ok (.iadd, 1) := by decide +kernel
theorem dL_law_1277 : decode cL_law 1277 = .ok (.iaload, 1) := by decide +kernel
theorem dL_law_1278 : decode cL_law 1278 = .ok (.invokevirtual 155, 3) := by decide +kernel
theorem dL_law_1281 : decode cL_law 1281 = .ok (.aload_n 2, 1) := by decide +kernel
theorem dL_law_1282 : decode cL_law 1282 = .ok (.aload_n 0, 1) := by decide +kernel
theorem dL_law_1283 : decode cL_law 1283 = .ok (.iload_n 3, 1) := by decide +kernel
theorem dL_law_1284 : decode cL_law 1284 = .ok (.iconst 1, 1) := by decide +kernel
theorem dL_law_1285 : decode cL_law 1285 = .ok (.iadd, 1) := by decide +kernel
theorem dL_law_1286 : decode cL_law 1286 = .ok (.iaload, 1) := by decide +kernel
theorem dL_law_1287 : decode cL_law 1287 = .ok (.aload_n 0, 1) := by decide +kernel
theorem dL_law_1288 : decode cL_law 1288 = .ok (.iload_n 3, 1) := by decide +kernel
theorem dL_law_1289 : decode cL_law 1289 = .ok (.iconst 2, 1) := by decide +kernel
theorem dL_law_1290 : decode cL_law 1290 = .ok (.iadd, 1) := by decide +kernel
theorem dL_law_1291 : decode cL_law 1291 = .ok (.iaload, 1) := by decide +kernel
theorem dL_law_1292 : decode cL_law 1292 = .ok (.aload_n 0, 1) := by decide +kernel
theorem dL_law_1293 : decode cL_law 1293 = .ok (.iload_n 3, 1) := by decide +kernel
theorem dL_law_1294 : decode cL_law 1294 = .ok (.iconst 3, 1) := by decide +kernel
theorem dL_law_1295 : decode cL_law 1295 = .ok (.iadd, 1) := by decide +kernel
theorem dL_law_1296 : decode cL_law 1296 = .ok (.iaload, 1) := by decide +kernel
theorem dL_law_1297 : decode cL_law 1297 = .ok (.invokevirtual 158, 3) := by decide +kernel
theorem dL_law_1300 : decode cL_law 1300 = .ok (.if_icmp .eq 152, 3) := by decide +kernel
theorem dL_law_1303 : decode cL_law 1303 = .ok (.iconst 0, 1) := by decide +kernel
theorem dL_law_1304 : decode cL_law 1304 = .ok (.ireturn, 1) := by decide +kernel
theorem dL_law_1305 : decode cL_law 1305 = .ok (.aload_n 1, 1) := by decide +kernel
theorem dL_law_1306 : decode cL_law 1306 = .ok (.aload_n 0, 1) := by decide +kernel
theorem dL_law_1307 : decode cL_law 1307 = .ok (.iload_n 3, 1) := by decide +kernel
theorem dL_law_1308 : decode cL_law 1308 = .ok (.iconst 1, 1) := by decide +kernel
theorem dL_law_1309 : decode cL_law 1309 = .ok (.iadd, 1) := by decide +kernel
theorem dL_law_1310 : decode cL_law 1310 = .ok (.iaload, 1) := by decide +kernel
theorem dL_law_1311 : decode cL_law 1311 = .ok (.aload_n 0, 1) := by decide +kernel
theorem dL_law_1312 : decode cL_law 1312 = .ok (.iload_n 3, 1) := by decide +kernel
theorem dL_law_1313 : decode cL_law 1313 = .ok (.iconst 2, 1) := by decide +kernel
theorem dL_law_1314 : decode cL_law 1314 = .ok (.iadd, 1) := by decide +kernel
theorem dL_law_1315 : decode cL_law 1315 = .ok (.iaload, 1) := by decide +kernel
theorem dL_law_1316 : decode cL_law 1316 = .ok (.invokevirtual 159, 3) := by decide +kernel
theorem dL_law_1319 : decode cL_law 1319 = .ok (.aload_n 2, 1) := by decide +kernel
theorem dL_law_1320 : decode cL_law 1320 = .ok (.aload_n 0, 1) := by decide +kernel
theorem dL_law_1321 : decode cL_law 1321 = .ok (.iload_n 3, 1) := by decide +kernel
theorem dL_law_1322 : decode cL_law 1322 = .ok (.iconst 1, 1) := by decide +kernel
theorem dL_law_1323 : decode cL_law 1323 = .ok (.iadd, 1) := by decide +kernel
theorem dL_law_1324 : decode cL_law 1324 = .ok (.iaload, 1) := by decide +kernel
theorem dL_law_1325 : decode cL_law 1325 = .ok (.aload_n 0, 1) := by decide +kernel
theorem dL_law_1326 : decode cL_law 1326 = .ok (.iload_n 3, 1) := by decide +kernel
theorem dL_law_1327 : decode cL_law 1327 = .ok (.iconst 2, 1) := by decide +kernel
theorem dL_law_1328 : decode cL_law 1328 = .ok (.iadd, 1) := by decide +kernel
theorem dL_law_1329 : decode cL_law 1329 = .ok (.iaload, 1) := by decide +kernel
theorem dL_law_1330 : decode cL_law 1330 = .ok (.invokevirtual 162, 3) := by decide +kernel
theorem dL_law_1333 : decode cL_law 1333 = .ok (.if_icmp .eq 119, 3) := by decide +kernel
theorem dL_law_1336 : decode cL_law 1336 = .ok (.iconst 0, 1) := by decide +kernel
theorem dL_law_1337 : decode cL_law 1337 = .ok (.ireturn, 1) := by decide +kernel
theorem dL_law_1338 : decode cL_law 1338 = .ok (.aload_n 1, 1) := by decide +kernel
theorem dL_law_1339 : decode cL_law 1339 = .ok (.invokevirtual 163, 3) := by decide +kernel
theorem dL_law_1342 : decode cL_law 1342 = .ok (.aload_n 2, 1) := by decide +kernel
theorem dL_law_1343 : decode cL_law 1343 = .ok (.invokevirtual 166, 3) := by decide +kernel
theorem dL_law_1346 : decode cL_law 1346 = .ok (.if_icmp .eq 106, 3) := by decide +kernel
theorem dL_law_1349 : decode cL_law 1349 = .ok (.iconst 0, 1) := by decide +kernel
theorem dL_law_1350 : decode cL_law 1350 = .ok (.ireturn, 1) := by decide +kernel
theorem dL_law_1351 : decode cL_law 1351 = .ok (.aload_n 1, 1) := by decide +kernel
theorem dL_law_1352 : decode cL_law 1352 = .ok (.invokevirtual 167, 3) := by decide +kernel
theorem dL_law_1355 : decode cL_law 1355 = .ok (.aload_n 2, 1) := by decide +kernel
theorem dL_law_1356 : decode cL_law 1356 = .ok (.invokevirtual 171, 3) := by decide +kernel
theorem dL_law_1359 : decode cL_law 1359 = .ok (.lcmp, 1) := by decide +kernel
theorem dL_law_1360 : decode cL_law 1360 = .ok (.ifCond .eq 92, 3) := by decide +kernel
theorem dL_law_1363 : decode cL_law 1363 = .ok (.iconst 0, 1) := by decide +kernel
theorem dL_law_1364 : decode cL_law 1364 = .ok (.ireturn, 1) := by decide +kernel
theorem dL_law_1365 : decode cL_law 1365 = .ok (.aload_n 1, 1) := by decide +kernel
theorem dL_law_1366 : decode cL_law 1366 = .ok (.invokevirtual 172, 3) := by decide +kernel
theorem dL_law_1369 : decode cL_law 1369 = .ok (.aload_n 2, 1) := by decide +kernel
theorem dL_law_1370 : decode cL_law 1370 = .ok (.invokevirtual 175, 3) := by decide +kernel
theorem dL_law_1373 : decode cL_law 1373 = .ok (.lcmp, 1) := by decide +kernel
theorem dL_law_1374 : decode cL_law 1374 = .ok (.ifCond .eq 78, 3) := by decide +kernel
theorem dL_law_1377 : decode cL_law 1377 = .ok (.iconst 0, 1) := by decide +kernel
theorem dL_law_1378 : decode cL_law 1378 = .ok (.ireturn, 1) := by decide +kernel
theorem dL_law_1379 : decode cL_law 1379 = .ok (.aload_n 1, 1) := by decide +kernel
theorem dL_law_1380 : decode cL_law 1380 = .ok (.aload_n 0, 1) := by decide +kernel
theorem dL_law_1381 : decode cL_law 1381 = .ok (.iload_n 3, 1) := by decide +kernel
theorem dL_law_1382 : decode cL_law 1382 = .ok (.iconst 1, 1) := by decide +kernel
theorem dL_law_1383 : decode cL_law 1383 = .ok (.iadd, 1) := by decide +kernel
theorem dL_law_1384 : decode cL_law 1384 = .ok (.iaload, 1) := by decide +kernel
theorem dL_law_1385 : decode cL_law 1385 = .ok (.invokevirtual 176, 3) := by decide +kernel
theorem dL_law_1388 : decode cL_law 1388 = .ok (.aload_n 2, 1) := by decide +kernel
theorem dL_law_1389 : decode cL_law 1389 = .ok (.aload_n 0, 1) := by decide +kernel
theorem dL_law_1390 : decode cL_law 1390 = .ok (.iload_n 3, 1) := by decide +kernel
theorem dL_law_1391 : decode cL_law 1391 = .ok (.iconst 1, 1) := by decide +kernel
theorem dL_law_1392 : decode cL_law 1392 = .ok (.iadd, 1) := by decide +kernel
theorem dL_law_1393 : decode cL_law 1393 = .ok (.iaload, 1) := by decide +kernel
theorem dL_law_1394 : decode cL_law 1394 = .ok (.invokevirtual 179, 3) := by decide +kernel
theorem dL_law_1397 : decode cL_law 1397 = .ok (.if_icmp .eq 55, 3) := by decide +kernel
theorem dL_law_1400 : decode cL_law 1400 = .ok (.iconst 0, 1) := by decide +kernel
theorem dL_law_1401 : decode cL_law 1401 = .ok (.ireturn, 1) := by decide +kernel
theorem dL_law_1402 : decode cL_law 1402 = .ok (.aload_n 1, 1) := by decide +kernel
theorem dL_law_1403 : decode cL_law 1403 = .ok (.invokevirtual 180, 3) := by decide +kernel
theorem dL_law_1406 : decode cL_law 1406 = .ok (.aload_n 2, 1) := by decide +kernel
theorem dL_law_1407 : decode cL_law 1407 = .ok (.invokevirtual 183, 3) := by decide +kernel
theorem dL_law_1410 : decode cL_law 1410 = .ok (.if_icmp .eq 42, 3) := by decide +kernel
theorem dL_law_1413 : decode cL_law 1413 = .ok (.iconst 0, 1) := by decide +kernel
theorem dL_law_1414 : decode cL_law 1414 = .ok (.ireturn, 1) := by decide +kernel
theorem dL_law_1415 : decode cL_law 1415 = .ok (.aload_n 1, 1) := by decide +kernel
theorem dL_law_1416 : decode cL_law 1416 = .ok (.aload_n 0, 1) := by decide +kernel
theorem dL_law_1417 : decode cL_law 1417 = .ok (.iload_n 3, 1) := by decide +kernel
theorem dL_law_1418 : decode cL_law 1418 = .ok (.iconst 1, 1) := by decide +kernel
theorem dL_law_1419 : decode cL_law 1419 = .ok (.iadd, 1) := by decide +kernel
theorem dL_law_1420 : decode cL_law 1420 = .ok (.iaload, 1) := by decide +kernel
theorem dL_law_1421 : decode cL_law 1421 = .ok (.invokevirtual 184, 3) := by decide +kernel
theorem dL_law_1424 : decode cL_law 1424 = .ok (.aload_n 2, 1) := by decide +kernel
theorem dL_law_1425 : decode cL_law 1425 = .ok (.aload_n 0, 1) := by decide +kernel
theorem dL_law_1426 : decode cL_law 1426 = .ok (.iload_n 3, 1) := by decide +kernel
theorem dL_law_1427 : decode cL_law 1427 = .ok (.iconst 1, 1) := by decide +kernel
theorem dL_law_1428 : decode cL_law 1428 = .ok (.iadd, 1) := by decide +kernel
theorem dL_law_1429 : decode cL_law 1429 = .ok (.iaload, 1) := by decide +kernel
theorem dL_law_1430 : decode cL_law 1430 = .ok (.invokevirtual 187, 3) := by decide +kernel
theorem dL_law_1433 : decode cL_law 1433 = .ok (.if_icmp .eq 19, 3) := by decide +kernel
theorem dL_law_1436 : decode cL_law 1436 = .ok (.iconst 0, 1) := by decide +kernel
theorem dL_law_1437 : decode cL_law 1437 = .ok (.ireturn, 1) := by decide +kernel
theorem dL_law_1438 : decode cL_law 1438 = .ok (.aload_n 1, 1) := by decide +kernel
theorem dL_law_1439 : decode cL_law 1439 = .ok (.invokevirtual 188, 3) := by decide +kernel
theorem dL_law_1442 : decode cL_law 1442 = .ok (.aload_n 2, 1) := by decide +kernel
theorem dL_law_1443 : decode cL_law 1443 = .ok (.invokevirtual 191, 3) := by decide +kernel
theorem dL_law_1446 : decode cL_law 1446 = .ok (.lcmp, 1) := by decide +kernel
theorem dL_law_1447 : decode cL_law 1447 = .ok (.ifCond .eq 5, 3) := by decide +kernel
theorem dL_law_1450 : decode cL_law 1450 = .ok (.iconst 0, 1) := by decide +kernel
theorem dL_law_1451 : decode cL_law 1451 = .ok (.ireturn, 1) := by decide +kernel
theorem dL_law_1452 : decode cL_law 1452 = .ok (.iinc 3 6, 3) := by decide +kernel
theorem dL_law_1455 : decode cL_law 1455 = .ok (.goto (-1437), 3) := by decide +kernel
theorem dL_law_1458 : decode cL_law 1458 = .ok (.iconst 1, 1) := by decide +kernel
theorem dL_law_1459 : decode cL_law 1459 = .ok (.ireturn, 1) := by decide +kernel
end
section
/-! ===== the machine as a pure picture: cells of ints and longs, addresses by a table ===== -/
abbrev XM : Type := (Nat → Nat → Int32) × (Nat → Nat → Int64)
def mi (u : XM) (k j : Nat) : Int32 := u.1 k j
def ml (u : XM) (k j : Nat) : Int64 := u.2 k j
def wi (u : XM) (k j : Nat) (v : Int32) : XM := (fun a b => if a = k ∧ b = j then v else u.1 a b, u.2)
def wl (u : XM) (k j : Nat) (v : Int64) : XM := (u.1, fun a b => if a = k ∧ b = j then v else u.2 a b)
/-- n places of row k from sp on come to row k2 from dp on, as if taken ahead -/
def wc (u : XM) (k sp k2 dp n : Nat) : XM := (fun a b => if a = k2 ∧ dp ≤ b ∧ b < dp + n then u.1 k (sp + (b - dp)) else u.1 a b, u.2)
/-- a cell's shape: its tag (0 int[], 1 byte[], 2 boolean[], 3 int[][], 4 byte[][], 5 + c an object of class c), its length, its fields (0 int, 1 long, t + 2 the cell t; of an array of rows: the first row's cell) -/
abbrev XS : Type := Nat × Nat × List Nat
def xv (r : Nat → Nat) : Value → Value
  | .ref k => .ref (r k)
  | v => v
def xf (r : Nat → Nat) (u : XM) (k j f : Nat) : Value := match f with
  | 0 => .int (mi u k j)
  | 1 => .long (ml u k j)
  | t + 2 => .ref (r t)
def xfs (r : Nat → Nat) (u : XM) (k : Nat) : Nat → List Nat → List Value
  | _, [] => []
  | j, f :: l => xf r u k j f :: xfs r u k (j + 1) l
def xe (r : Nat → Nat) (ca : Nat → ClassId) (u : XM) (k : Nat) (sh : XS) : va_E :=
  if sh.1 < 3 then .inl (ca sh.1, sh.2.1, .inl (mi u k))
  else if sh.1 < 5 then .inl (ca sh.1, sh.2.1, .inr (.inr (.inr (.inr (fun i => if i < sh.2.1 then some (r (sh.2.2.headD 0 + i)) else none)))))
  else .inr (sh.1 - 5, xfs r u k 0 sh.2.2)
def xw (r : Nat → Nat) (ca : Nat → ClassId) (u : XM) : Nat → List XS → va_W
  | _, [] => []
  | k, sh :: l => (r k, xe r ca u k sh) :: xw r ca u (k + 1) l
theorem xw_get (r : Nat → Nat) (ca : Nat → ClassId) (u : XM) : ∀ (Y : List XS) (k i : Nat), (xw r ca u k Y)[i]? = Y[i]?.map (fun sh => (r (k + i), xe r ca u (k + i) sh))
  | [], _, _ => rfl
  | sh :: l, k, 0 => rfl
  | sh :: l, k, i + 1 => by
    show (xw r ca u (k + 1) l)[i]? = _
    rw [xw_get r ca u l (k + 1) i, show k + 1 + i = k + (i + 1) by omega]
    rfl
theorem xfs_get (r : Nat → Nat) (u : XM) (k : Nat) : ∀ (l : List Nat) (j i : Nat), (xfs r u k j l)[i]? = l[i]?.map (fun f => xf r u k (j + i) f)
  | [], _, _ => rfl
  | f :: l, j, 0 => rfl
  | f :: l, j, i + 1 => by
    show (xfs r u k (j + 1) l)[i]? = _
    rw [xfs_get r u k l (j + 1) i, show j + 1 + i = j + (i + 1) by omega]
    rfl
theorem xw_at {r : Nat → Nat} {ca : Nat → ClassId} {u : XM} {Y : List XS} {k : Nat} {sh : XS} (h : Y[k]? = some sh) : (xw r ca u 0 Y)[k]? = some (r k, xe r ca u k sh) := by
  rw [xw_get, h, Nat.zero_add]; rfl
theorem xw_arr {r : Nat → Nat} {ca : Nat → ClassId} {u : XM} {Y : List XS} {k t n : Nat} {dd : List Nat} (ht : t < 3) (h : Y[k]? = some (t, n, dd)) : (xw r ca u 0 Y)[k]? = some (r k, .inl (ca t, n, .inl (mi u k))) := by
  rw [xw_at h, xe, if_pos ht]
theorem xw_row {r : Nat → Nat} {ca : Nat → ClassId} {u : XM} {Y : List XS} {k t n b : Nat} (ht : ¬ t < 3) (ht5 : t < 5) (h : Y[k]? = some (t, n, [b])) : (xw r ca u 0 Y)[k]? = some (r k, .inl (ca t, n, .inr (.inr (.inr (.inr (fun i => if i < n then some (r (b + i)) else none)))))) := by
  rw [xw_at h, xe, if_neg ht, if_pos ht5]; rfl
theorem xw_obj {r : Nat → Nat} {ca : Nat → ClassId} {u : XM} {Y : List XS} {k c n : Nat} {dd : List Nat} (h : Y[k]? = some (c + 5, n, dd)) : (xw r ca u 0 Y)[k]? = some (r k, .inr (c, xfs r u k 0 dd)) := by
  rw [xw_at h, xe, if_neg (by simp only; omega), if_neg (by simp only; omega)]; rfl
theorem xmi_wi {u : XM} {k j : Nat} {v : Int32} : mi (wi u k j v) k = upd (mi u k) j v := by
  funext b
  simp only [mi, wi, upd]
  by_cases h : b = j <;> simp [h]
theorem xmi_ne {u : XM} {k j a : Nat} {v : Int32} (h : a ≠ k) : mi (wi u k j v) a = mi u a := by
  funext b
  simp [mi, wi, h]
theorem xml_wi {u : XM} {k j : Nat} {v : Int32} : ml (wi u k j v) = ml u := rfl
theorem xmi_wl {u : XM} {k j : Nat} {v : Int64} : mi (wl u k j v) = mi u := rfl
theorem xmi_wc {u : XM} {k sp k2 dp n : Nat} : mi (wc u k sp k2 dp n) k2 = va_cpy (mi u k) (mi u k2) sp dp n := by
  funext b
  simp only [mi, wc, va_cpy, true_and]
theorem xmi_wcne {u : XM} {k sp k2 dp n a : Nat} (h : a ≠ k2) : mi (wc u k sp k2 dp n) a = mi u a := by
  funext b
  simp [mi, wc, h]
theorem xfs_ne {r : Nat → Nat} {u u' : XM} {a : Nat} (hi : mi u' a = mi u a) (hl : ml u' a = ml u a) : ∀ (l : List Nat) (j : Nat), xfs r u' a j l = xfs r u a j l
  | [], _ => rfl
  | f :: l, j => by
    show xf r u' a j f :: _ = xf r u a j f :: _
    rw [xfs_ne hi hl l (j + 1)]
    congr 1
    match f with
    | 0 => show Value.int (mi u' a j) = _; rw [hi]; rfl
    | 1 => show Value.long (ml u' a j) = _; rw [hl]; rfl
    | t + 2 => rfl
theorem xe_ne {r : Nat → Nat} {ca : Nat → ClassId} {u u' : XM} {a : Nat} {sh : XS} (hi : mi u' a = mi u a) (hl : ml u' a = ml u a) : xe r ca u' a sh = xe r ca u a sh := by
  unfold xe
  rw [hi, xfs_ne hi hl]
/-- the picture behind a change of one cell -/
theorem xw_set {r : Nat → Nat} {ca : Nat → ClassId} {u u' : XM} {Y : List XS} {k : Nat} {sh : XS} {e : va_E} (h : Y[k]? = some sh) (he : e = xe r ca u' k sh) (hi : ∀ a, a ≠ k → mi u' a = mi u a) (hl : ∀ a, a ≠ k → ml u' a = ml u a) : (xw r ca u 0 Y).set k (r k, e) = xw r ca u' 0 Y := by
  apply List.ext_getElem?
  intro i
  by_cases hk : k = i
  · subst hk
    have hlt : k < (xw r ca u 0 Y).length := (List.getElem?_eq_some_iff.mp (xw_at (r := r) (ca := ca) (u := u) h)).1
    rw [List.getElem?_set_self hlt, xw_at h, he]
  · rw [List.getElem?_set_ne hk, xw_get, xw_get]
    cases Y[i]? with
    | none => rfl
    | some sh2 =>
      simp only [Option.map_some, Nat.zero_add]
      rw [xe_ne (hi i (fun q => hk q.symm)) (hl i (fun q => hk q.symm))]
theorem xfs_set {r : Nat → Nat} {u u' : XM} {k : Nat} {dd : List Nat} {j : Nat} {v : Value} {f : Nat} (hf : dd[j]? = some f) (hv : v = xf r u' k j f) (hi : ∀ b, b ≠ j → mi u' k b = mi u k b) (hl : ∀ b, b ≠ j → ml u' k b = ml u k b) : (xfs r u k 0 dd).set j v = xfs r u' k 0 dd := by
  apply List.ext_getElem?
  intro i
  by_cases hk : j = i
  · subst hk
    have hlt : j < (xfs r u k 0 dd).length := by
      have h1 : (xfs r u k 0 dd)[j]? = some (xf r u k (0 + j) f) := by rw [xfs_get, hf]; rfl
      exact (List.getElem?_eq_some_iff.mp h1).1
    rw [List.getElem?_set_self hlt, xfs_get, hf, hv, Nat.zero_add]; rfl
  · rw [List.getElem?_set_ne hk, xfs_get, xfs_get]
    cases dd[i]? with
    | none => rfl
    | some g =>
      simp only [Option.map_some, Nat.zero_add]
      congr 1
      match g with
      | 0 => show Value.int (mi u k i) = Value.int (mi u' k i); rw [hi i (fun q => hk q.symm)]
      | 1 => show Value.long (ml u k i) = Value.long (ml u' k i); rw [hl i (fun q => hk q.symm)]
      | t + 2 => rfl
/-- addresses: apart, of a kind -/
def XD (Y : List XS) (r : Nat → Nat) (A : Nat → Prop) : Prop := (∀ i j, i < Y.length → j < Y.length → r i = r j → i = j) ∧ ∀ k, k < Y.length → A (r k)
theorem XD.D {Y : List XS} {r : Nat → Nat} {A : Nat → Prop} (h : XD Y r A) (ca : Nat → ClassId) (u : XM) : va_D A (xw r ca u 0 Y) := by
  have key : ∀ (i : Nat) (p : Nat × va_E), (xw r ca u 0 Y)[i]? = some p → i < Y.length ∧ p.1 = r i := by
    intro i p hp
    rw [xw_get] at hp
    cases hY : Y[i]? with
    | none => rw [hY] at hp; cases hp
    | some sh =>
      rw [hY] at hp
      simp only [Option.map_some, Nat.zero_add, Option.some.injEq] at hp
      exact ⟨(List.getElem?_eq_some_iff.mp hY).1, by rw [← hp]⟩
  refine ⟨fun i j p q hi hj hpq => ?_, fun k q hk => ?_⟩
  · obtain ⟨h1, e1⟩ := key i p hi
    obtain ⟨h2, e2⟩ := key j q hj
    exact h.1 i j h1 h2 (by rw [← e1, ← e2, hpq])
  · obtain ⟨h1, e1⟩ := key k q hk
    rw [e1]
    exact h.2 k h1
def xA (Y : List XS) (r : Nat → Nat) : Nat → Prop := fun q => ∃ k, k < Y.length ∧ q = r k
def xt (ca : Nat → ClassId) : List (ClassId × FieldType) := [(ca 0, .int), (ca 1, .byte), (ca 2, .boolean), (ca 3, .array .int), (ca 4, .array .byte)]
/-- the locals: what the list says is held -/
def xL (r : Nat → Nat) (nL : Nat) (lv : List (Option Value)) (ls : Array Slot) : Prop := ls.size = nL ∧ lv_wf ls ∧ ∀ (i : Nat) (v : Value), lv[i]? = some (some v) → ls[i]? = some (.val (xv r v))
def xl (r : Nat → Nat) : Nat → List (Option Value) → List (Nat × Value)
  | _, [] => []
  | i, none :: l => xl r (i + 1) l
  | i, some v :: l => (i, xv r v) :: xl r (i + 1) l
theorem xl_mem {r : Nat → Nat} : ∀ (lv : List (Option Value)) (b i : Nat) (v : Value), lv[i]? = some (some v) → (b + i, xv r v) ∈ xl r b lv
  | [], _, _, _, h => by simp at h
  | none :: l, b, 0, v, h => by simp at h
  | some w :: l, b, 0, v, h => by
    simp at h
    subst h
    exact List.mem_cons_self
  | none :: l, b, i + 1, v, h => by
    have := xl_mem (r := r) l (b + 1) i v (by simpa using h)
    rw [show b + 1 + i = b + (i + 1) by omega] at this
    exact this
  | some w :: l, b, i + 1, v, h => by
    have := xl_mem (r := r) l (b + 1) i v (by simpa using h)
    rw [show b + 1 + i = b + (i + 1) by omega] at this
    exact List.mem_cons_of_mem _ this
theorem xl_in {r : Nat → Nat} : ∀ (lv : List (Option Value)) (b : Nat) (q : Nat × Value), q ∈ xl r b lv → ∃ i v, lv[i]? = some (some v) ∧ q = (b + i, xv r v)
  | [], _, _, h => by cases h
  | none :: l, b, q, h => by
    obtain ⟨i, v, h1, h2⟩ := xl_in l (b + 1) q h
    exact ⟨i + 1, v, by simpa using h1, by rw [h2, show b + 1 + i = b + (i + 1) by omega]⟩
  | some w :: l, b, q, h => by
    rcases List.mem_cons.mp h with h | h
    · exact ⟨0, w, rfl, h⟩
    · obtain ⟨i, v, h1, h2⟩ := xl_in l (b + 1) q h
      exact ⟨i + 1, v, by simpa using h1, by rw [h2, show b + 1 + i = b + (i + 1) by omega]⟩
theorem xL.has {r : Nat → Nat} {nL : Nat} {lv : List (Option Value)} {ls : Array Slot} (h : xL r nL lv ls) : lv_has ls nL (xl r 0 lv) := ⟨h.1, h.2.1, fun q hq => by
  obtain ⟨i, v, h1, h2⟩ := xl_in lv 0 q hq
  rw [h2, Nat.zero_add]
  exact h.2.2 i v h1⟩
/-- a store of one slot, of two -/
def xs1 (v : Value) (i : Nat) : List (Option Value) → List (Option Value)
  | [] => []
  | o :: l => match i with
    | 0 => some v :: l
    | 1 => (match o with | some (.long _) => none | some (.double _) => none | o => o) :: xs1 v 0 l
    | i + 2 => o :: xs1 v (i + 1) l
theorem xs1_get (v : Value) : ∀ (lv : List (Option Value)) (i j : Nat) (w : Value), (xs1 v i lv)[j]? = some (some w) → (j = i ∧ w = v) ∨ (j ≠ i ∧ lv[j]? = some (some w) ∧ (j + 1 = i → w.category ≠ 2))
  | [], _, _, _, h => by simp [xs1] at h
  | o :: l, 0, 0, w, h => by
    simp [xs1] at h
    exact Or.inl ⟨rfl, h.symm⟩
  | o :: l, 0, j + 1, w, h => by
    refine Or.inr ⟨by omega, by simpa [xs1] using h, by omega⟩
  | o :: l, 1, 0, w, h => by
    refine Or.inr ⟨by omega, ?_, fun _ => ?_⟩
    · cases o with
      | none => simp [xs1] at h
      | some x => cases x <;> simp [xs1] at h ⊢ <;> exact h
    · cases o with
      | none => simp [xs1] at h
      | some x => cases x <;> simp [xs1] at h <;> subst h <;> simp [Value.category]
  | o :: l, 1, j + 1, w, h => by
    have h2 : (xs1 v 0 l)[j]? = some (some w) := by simpa [xs1] using h
    rcases xs1_get v l 0 j w h2 with ⟨e1, e2⟩ | ⟨e1, e2, e3⟩
    · exact Or.inl ⟨by omega, e2⟩
    · exact Or.inr ⟨by omega, by simpa using e2, by omega⟩
  | o :: l, i + 2, 0, w, h => by
    refine Or.inr ⟨by omega, by simpa [xs1] using h, by omega⟩
  | o :: l, i + 2, j + 1, w, h => by
    have h2 : (xs1 v (i + 1) l)[j]? = some (some w) := by simpa [xs1] using h
    rcases xs1_get v l (i + 1) j w h2 with ⟨e1, e2⟩ | ⟨e1, e2, e3⟩
    · exact Or.inl ⟨by omega, e2⟩
    · exact Or.inr ⟨by omega, by simpa using e2, fun q => e3 (by omega)⟩
theorem xv_cat (r : Nat → Nat) (v : Value) : (xv r v).category = v.category := by cases v <;> rfl
theorem xs1_L {r : Nat → Nat} {nL i : Nat} {lv : List (Option Value)} {ls ls' : Array Slot} {v : Value} (h' : lv_has ls' nL ((i, xv r v) :: (xl r 0 lv).filter (fun q => !(q.1 == i) && !(q.1 + 1 == i && q.2.category == 2)))) : xL r nL (xs1 v i lv) ls' := by
  refine ⟨h'.1, h'.2.1, fun j w hw => ?_⟩
  rcases xs1_get v lv i j w hw with ⟨e1, e2⟩ | ⟨e1, e2, e3⟩
  · subst e1; subst e2
    exact h'.2.2 _ List.mem_cons_self
  · refine h'.2.2 (j, xv r w) (List.mem_cons_of_mem _ (List.mem_filter.mpr ⟨?_, ?_⟩))
    · have := xl_mem (r := r) lv 0 j w e2
      rwa [Nat.zero_add] at this
    · simp only [Bool.and_eq_true, Bool.not_eq_true', beq_eq_false_iff_ne, ne_eq, Bool.and_eq_false_iff, xv_cat]
      refine ⟨e1, ?_⟩
      by_cases q : j + 1 = i
      · exact Or.inr (e3 q)
      · exact Or.inl q
def xs2 (v : Value) (i : Nat) (lv : List (Option Value)) : List (Option Value) := (xs1 v i lv).set (i + 1) none
theorem xs2_L {r : Nat → Nat} {nL i : Nat} {lv : List (Option Value)} {ls ls' : Array Slot} {v : Value} (h' : lv_has ls' nL ((i, xv r v) :: (xl r 0 lv).filter (fun q => !(q.1 == i) && (!(q.1 == i + 1) && !(q.1 + 1 == i && q.2.category == 2))))) : xL r nL (xs2 v i lv) ls' := by
  refine ⟨h'.1, h'.2.1, fun j w hw => ?_⟩
  have hj : j ≠ i + 1 := by
    intro q
    subst q
    unfold xs2 at hw
    by_cases hl : i + 1 < (xs1 v i lv).length
    · rw [List.getElem?_set_self hl] at hw; cases hw
    · rw [List.getElem?_eq_none (by simpa using hl)] at hw; cases hw
  have hw2 : (xs1 v i lv)[j]? = some (some w) := by
    unfold xs2 at hw
    rwa [List.getElem?_set_ne (fun q => hj q.symm)] at hw
  rcases xs1_get v lv i j w hw2 with ⟨e1, e2⟩ | ⟨e1, e2, e3⟩
  · subst e1; subst e2
    exact h'.2.2 _ List.mem_cons_self
  · refine h'.2.2 (j, xv r w) (List.mem_cons_of_mem _ (List.mem_filter.mpr ⟨?_, ?_⟩))
    · have := xl_mem (r := r) lv 0 j w e2
      rwa [Nat.zero_add] at this
    · simp only [Bool.and_eq_true, Bool.not_eq_true', beq_eq_false_iff_ne, ne_eq, Bool.and_eq_false_iff, xv_cat]
      refine ⟨e1, hj, ?_⟩
      by_cases q : j + 1 = i
      · exact Or.inr (e3 q)
      · exact Or.inl q
/-- fewer locals known -/
def xms : List Bool → List (Option Value) → List (Option Value)
  | true :: b, o :: l => o :: xms b l
  | false :: b, _ :: l => none :: xms b l
  | _, _ => []
theorem xms_get : ∀ (b : List Bool) (lv : List (Option Value)) (j : Nat) (w : Value), (xms b lv)[j]? = some (some w) → lv[j]? = some (some w)
  | [], _, _, _, h => by simp [xms] at h
  | true :: b, [], _, _, h => by simp [xms] at h
  | false :: b, [], _, _, h => by simp [xms] at h
  | true :: b, o :: l, 0, w, h => by simpa [xms] using h
  | false :: b, o :: l, 0, w, h => by simp [xms] at h
  | true :: b, o :: l, j + 1, w, h => by simpa using xms_get b l j w (by simpa [xms] using h)
  | false :: b, o :: l, j + 1, w, h => by simpa using xms_get b l j w (by simpa [xms] using h)
/-- the tables' words that every method may use; the nest mates' -/
def GW : List Cond := lw_tbl.filter goodWord
theorem gw_in {w : Cond} (h : w ∈ lw_tbl) (hg : goodWord w = true) : w ∈ GW := List.mem_filter.mpr ⟨h, hg⟩
theorem gw_tb (i : Nat) {w : Cond} (h : tables_1[i]? = some w) (hg : goodWord w = true) : w ∈ GW := gw_in (List.mem_append_right _ (List.mem_of_getElem? h)) hg
theorem gw_pr (i : Nat) {w : Cond} (h : (k2_sels lw_privs)[i]? = some w) (hg : goodWord w = true) : w ∈ GW := gw_in (List.mem_append_left _ (List.mem_of_getElem? h)) hg
theorem gw_good {y : MethodName} {cc : ByteArray} {nL : Nat} {rt : Option FieldType} (h : Cond.code y cc nL rt ∈ GW) : GoodIn GW (Cond.code y cc nL rt :: GW) := fun w hw => by
  have hw : w ∈ GW := by
    rcases List.mem_cons.mp hw with q | q
    · rw [q]; exact h
    · exact q
  exact ⟨hw, good_of_word (List.mem_filter.mp hw).2⟩
def NW (s : State) : Prop := ∀ (a : String) (i : Nat) (x : MethodName) (h : String), Cond.methodLinkNest a i x h ∈ tables_1 → va_Nw (.methodLinkNest a i x h) s
theorem NW.warm {s U : State} (h : NW s) (hW : s.WarmedH U.vm) : NW U := fun a i x h9 hm => va_Nw.warmM hW (h a i x h9 hm)
theorem NW.same {s U : State} (h : NW s) (hv : s.vm = U.vm) : NW U := fun a i x h9 hm => va_tabs rfl hv (h a i x h9 hm)
def XC (p : Program) (R : Room) (s : State) (m : MethodId) (args : Array Value) (meth : Method) (c : Code) (y : MethodName) (cc : ByteArray) (nL : Nat) (rt : Option FieldType) (d : Nat) (D : va_G) (ca : Nat → ClassId) (cells slots : Nat) : Prop :=
  p.tables.exec = Jvm.exec ∧ c.code = cc ∧ c.maxLocals = nL ∧ meth.sig.returnType = rt ∧ meth.locks = false ∧ s.vm.findClass y.cls = some m.cls ∧ (∀ w ∈ GW, w.before args s = true) ∧ NW s ∧ va_K D vwCl (xt ca) s ∧ d ≤ R.frames ∧ 64 * d ≤ R.locals ∧ cells ≤ R.cells ∧ slots ≤ R.slots
def xR (cc : ByteArray) (pc : Nat) (rt : Option FieldType) (v : Option Value) : Prop := match v with
  | none => decode cc pc = .ok (.return_, 1) ∧ rt = none
  | some (.int x) => decode cc pc = .ok (.ireturn, 1) ∧ ∃ ty, rt = some ty ∧ narrow ty (.int x) = .int x
  | some (.long _) => decode cc pc = .ok (.lreturn, 1) ∧ rt = some .long
  | _ => False
/-- a frame comes to its return, with Post -/
def GO (EX : State → Heap → (Nat → Prop) → (Nat → Nat) → Prop) (Y : List XS) (d : Nat) (y : MethodName) (cc : ByteArray) (nL : Nat) (rt : Option FieldType) (pc : Nat) (lv : List (Option Value)) (st : List Value) (u : XM) (Post : Option Value → XM → Prop) : Prop :=
  ∀ (p : Program) (l : Launch) (e : Env) (R : Room) (s : State) (m : MethodId) (args : Array Value) (below : List Frame) (meth : Method) (c : Code) (D : va_G) (ca : Nat → ClassId) (r : Nat → Nat) (H H0 : Heap) (locs : List Loc) (cells slots : Nat) (A : Nat → Prop) (Q : State → Prop) (ls : Array Slot),
  XC p R s m args meth c y cc nL rt d D ca cells slots → EX s H0 A r → XD Y r A → va_P D vwCl (xw r ca u 0 Y) H → va_S A H0 H locs → xL r nL lv ls →
  (∀ (v : Option Value) (u' : XM) (H' : Heap) (locs' : List Loc) (pc' : Nat) (ls' : Array Slot), Post v u' → va_P D vwCl (xw r ca u' 0 Y) H' → va_S A H0 H' locs' → xR cc pc' rt v → W p l e R s m args below meth c H' locs' cells slots Q (F0 m pc' ls' v.toList)) →
  W p l e R s m args below meth c H locs cells slots Q (F0 m pc ls (st.map (xv r)))
/-- a frame computes what o says, where it says something -/
def GF (EX : State → Heap → (Nat → Prop) → (Nat → Nat) → Prop) (Y : List XS) (d : Nat) (y : MethodName) (cc : ByteArray) (nL : Nat) (rt : Option FieldType) (pc : Nat) (lv : List (Option Value)) (st : List Value) (u : XM) {τ : Type} (em : τ → Option Value) (o : Option (τ × XM)) : Prop :=
  ∀ (z : τ) (u' : XM), o = some (z, u') → GO EX Y d y cc nL rt pc lv st u (fun v w => v = em z ∧ w = u')
def emI (x : Int32) : Option Value := some (.int x)
def emL (x : Int64) : Option Value := some (.long x)
def emV (_ : Unit) : Option Value := none
def E0 : State → Heap → (Nat → Prop) → (Nat → Nat) → Prop := fun _ _ _ _ => True
/-- a method does what o says, where it says something -/
def CF (Y : List XS) (d : Nat) (y : MethodName) (cc : ByteArray) (nL : Nat) (rt : Option FieldType) (As : List Value) (u : XM) {τ : Type} (em : τ → Option Value) (o : Option (τ × XM)) : Prop :=
  ∀ (z : τ) (u' : XM), o = some (z, u') → ∀ (l : Launch) (D : va_G) (ca : Nat → ClassId) (r : Nat → Nat), Met l y (Cond.code y cc nL rt :: GW) { frames := d, cells := 0, slots := 0, locals := 64 * d }
    (va_Pc (As.map (xv r)) (fun U => NW U ∧ va_K D vwCl (xt ca) U ∧ (∀ i j, i < Y.length → j < Y.length → r i = r j → i = j) ∧ va_P D vwCl (xw r ca u 0 Y) U.heap))
    (fun _ st oc t => oc = .returned (em z) ∧ va_P D vwCl (xw r ca u' 0 Y) t.heap ∧ va_F (xA Y r) st t) 0 0 (xA Y r)
section XRows
variable {EX : State → Heap → (Nat → Prop) → (Nat → Nat) → Prop} {Y : List XS} {d : Nat} {y : MethodName} {cc : ByteArray} {nL : Nat} {rt : Option FieldType} {pc q : Nat} {lv lv2 : List (Option Value)} {st : List Value} {u : XM} {τ : Type} {em : τ → Option Value} {o : Option (τ × XM)}
theorem gf_iconst {n : Int} {v : Int32} (hd : decode cc pc = .ok (.iconst n, 1)) (hv : Int32.ofInt n = v) (hq : pc + 1 = q) (h : GF EX Y d y cc nL rt q lv (.int v :: st) u em o) : GF EX Y d y cc nL rt pc lv (st) u em o := by
  subst hq
  intro z u' eo
  intro p l e R s m args below meth c D ca r H H0 locs cells slots A Q ls hC hE hD hP hS hl kk
  obtain ⟨hx, hb, hml, hr, hlk, hown, hts, hnw, hK, hfr, hlo, hce, hsl⟩ := id hC
  exact lv_iconst hx hb hd hv (h z u' eo p l e R s m args below meth c D ca r H H0 locs cells slots A Q ls hC hE hD hP hS hl kk)
theorem gf_bipush {n : Int} {v : Int32} (hd : decode cc pc = .ok (.bipush n, 2)) (hv : (Int8.ofInt n).toInt32 = v) (hq : pc + 2 = q) (h : GF EX Y d y cc nL rt q lv (.int v :: st) u em o) : GF EX Y d y cc nL rt pc lv (st) u em o := by
  subst hq
  intro z u' eo
  intro p l e R s m args below meth c D ca r H H0 locs cells slots A Q ls hC hE hD hP hS hl kk
  obtain ⟨hx, hb, hml, hr, hlk, hown, hts, hnw, hK, hfr, hlo, hce, hsl⟩ := id hC
  exact lv_bipush hx hb hd hv (h z u' eo p l e R s m args below meth c D ca r H H0 locs cells slots A Q ls hC hE hD hP hS hl kk)
theorem gf_sipush {n : Int} {v : Int32} (hd : decode cc pc = .ok (.sipush n, 3)) (hv : (Int16.ofInt n).toInt32 = v) (hq : pc + 3 = q) (h : GF EX Y d y cc nL rt q lv (.int v :: st) u em o) : GF EX Y d y cc nL rt pc lv (st) u em o := by
  subst hq
  intro z u' eo
  intro p l e R s m args below meth c D ca r H H0 locs cells slots A Q ls hC hE hD hP hS hl kk
  obtain ⟨hx, hb, hml, hr, hlk, hown, hts, hnw, hK, hfr, hlo, hce, hsl⟩ := id hC
  exact lv_sipush hx hb hd hv (h z u' eo p l e R s m args below meth c D ca r H H0 locs cells slots A Q ls hC hE hD hP hS hl kk)
theorem gf_lconst {n : Fin 2} {v : Int64} (hd : decode cc pc = .ok (.lconst n, 1)) (hv : Int64.ofNat (n : Nat) = v) (hq : pc + 1 = q) (h : GF EX Y d y cc nL rt q lv (.long v :: st) u em o) : GF EX Y d y cc nL rt pc lv (st) u em o := by
  subst hq
  intro z u' eo
  intro p l e R s m args below meth c D ca r H H0 locs cells slots A Q ls hC hE hD hP hS hl kk
  obtain ⟨hx, hb, hml, hr, hlk, hown, hts, hnw, hK, hfr, hlo, hce, hsl⟩ := id hC
  exact lv_lconst hx hb hd hv (h z u' eo p l e R s m args below meth c D ca r H H0 locs cells slots A Q ls hC hE hD hP hS hl kk)
theorem gf_ldc {k : Nat} {v : Int32} (hd : decode cc pc = .ok (.ldc k, 2)) (hw : Cond.constant y.cls k v ∈ GW) (hq : pc + 2 = q) (h : GF EX Y d y cc nL rt q lv (.int v :: st) u em o) : GF EX Y d y cc nL rt pc lv (st) u em o := by
  subst hq
  intro z u' eo
  intro p l e R s m args below meth c D ca r H H0 locs cells slots A Q ls hC hE hD hP hS hl kk
  obtain ⟨hx, hb, hml, hr, hlk, hown, hts, hnw, hK, hfr, hlo, hce, hsl⟩ := id hC
  exact lv_ldc hx hb hown (hts _ hw) hd (h z u' eo p l e R s m args below meth c D ca r H H0 locs cells slots A Q ls hC hE hD hP hS hl kk)
theorem gf_ldcw {k : Nat} {v : Int32} (hd : decode cc pc = .ok (.ldc_w k, 3)) (hw : Cond.constant y.cls k v ∈ GW) (hq : pc + 3 = q) (h : GF EX Y d y cc nL rt q lv (.int v :: st) u em o) : GF EX Y d y cc nL rt pc lv (st) u em o := by
  subst hq
  intro z u' eo
  intro p l e R s m args below meth c D ca r H H0 locs cells slots A Q ls hC hE hD hP hS hl kk
  obtain ⟨hx, hb, hml, hr, hlk, hown, hts, hnw, hK, hfr, hlo, hce, hsl⟩ := id hC
  exact lv_ldcw hx hb hown (hts _ hw) hd (h z u' eo p l e R s m args below meth c D ca r H H0 locs cells slots A Q ls hC hE hD hP hS hl kk)
theorem gf_ldc2 {k : Nat} {v : Int64} (hd : decode cc pc = .ok (.ldc2_w k, 3)) (hw : Cond.constantLong y.cls k v ∈ GW) (hq : pc + 3 = q) (h : GF EX Y d y cc nL rt q lv (.long v :: st) u em o) : GF EX Y d y cc nL rt pc lv (st) u em o := by
  subst hq
  intro z u' eo
  intro p l e R s m args below meth c D ca r H H0 locs cells slots A Q ls hC hE hD hP hS hl kk
  obtain ⟨hx, hb, hml, hr, hlk, hown, hts, hnw, hK, hfr, hlo, hce, hsl⟩ := id hC
  exact lv_ldc2 hx hb hown (hts _ hw) hd (h z u' eo p l e R s m args below meth c D ca r H H0 locs cells slots A Q ls hC hE hD hP hS hl kk)
theorem gf_iload {i : Nat} {x : Int32} (hd : decode cc pc = .ok (.iload i, 2)) (hv : lv[i]? = some (some (.int x))) (hq : pc + 2 = q) (h : GF EX Y d y cc nL rt q lv (.int x :: st) u em o) : GF EX Y d y cc nL rt pc lv (st) u em o := by
  subst hq
  intro z u' eo
  intro p l e R s m args below meth c D ca r H H0 locs cells slots A Q ls hC hE hD hP hS hl kk
  obtain ⟨hx, hb, hml, hr, hlk, hown, hts, hnw, hK, hfr, hlo, hce, hsl⟩ := id hC
  exact lv_iload hx hb hd (hl.2.2 _ _ hv) (h z u' eo p l e R s m args below meth c D ca r H H0 locs cells slots A Q ls hC hE hD hP hS hl kk)
theorem gf_iload_n {k : Fin 4} {i : Nat} {x : Int32} (hd : decode cc pc = .ok (.iload_n k, 1)) (hi : (k : Nat) = i) (hv : lv[i]? = some (some (.int x))) (hq : pc + 1 = q) (h : GF EX Y d y cc nL rt q lv (.int x :: st) u em o) : GF EX Y d y cc nL rt pc lv (st) u em o := by
  subst hq
  intro z u' eo
  intro p l e R s m args below meth c D ca r H H0 locs cells slots A Q ls hC hE hD hP hS hl kk
  obtain ⟨hx, hb, hml, hr, hlk, hown, hts, hnw, hK, hfr, hlo, hce, hsl⟩ := id hC
  exact lv_iload_n hx hb hd hi (hl.2.2 _ _ hv) (h z u' eo p l e R s m args below meth c D ca r H H0 locs cells slots A Q ls hC hE hD hP hS hl kk)
theorem gf_lload {i : Nat} {x : Int64} (hd : decode cc pc = .ok (.lload i, 2)) (hv : lv[i]? = some (some (.long x))) (hq : pc + 2 = q) (h : GF EX Y d y cc nL rt q lv (.long x :: st) u em o) : GF EX Y d y cc nL rt pc lv (st) u em o := by
  subst hq
  intro z u' eo
  intro p l e R s m args below meth c D ca r H H0 locs cells slots A Q ls hC hE hD hP hS hl kk
  obtain ⟨hx, hb, hml, hr, hlk, hown, hts, hnw, hK, hfr, hlo, hce, hsl⟩ := id hC
  exact lv_lload hx hb hd (hl.2.2 _ _ hv) (h z u' eo p l e R s m args below meth c D ca r H H0 locs cells slots A Q ls hC hE hD hP hS hl kk)
theorem gf_lload_n {k : Fin 4} {i : Nat} {x : Int64} (hd : decode cc pc = .ok (.lload_n k, 1)) (hi : (k : Nat) = i) (hv : lv[i]? = some (some (.long x))) (hq : pc + 1 = q) (h : GF EX Y d y cc nL rt q lv (.long x :: st) u em o) : GF EX Y d y cc nL rt pc lv (st) u em o := by
  subst hq
  intro z u' eo
  intro p l e R s m args below meth c D ca r H H0 locs cells slots A Q ls hC hE hD hP hS hl kk
  obtain ⟨hx, hb, hml, hr, hlk, hown, hts, hnw, hK, hfr, hlo, hce, hsl⟩ := id hC
  exact lv_lload_n hx hb hd hi (hl.2.2 _ _ hv) (h z u' eo p l e R s m args below meth c D ca r H H0 locs cells slots A Q ls hC hE hD hP hS hl kk)
theorem gf_aload {i : Nat} {x : Nat} (hd : decode cc pc = .ok (.aload i, 2)) (hv : lv[i]? = some (some (.ref x))) (hq : pc + 2 = q) (h : GF EX Y d y cc nL rt q lv (.ref x :: st) u em o) : GF EX Y d y cc nL rt pc lv (st) u em o := by
  subst hq
  intro z u' eo
  intro p l e R s m args below meth c D ca r H H0 locs cells slots A Q ls hC hE hD hP hS hl kk
  obtain ⟨hx, hb, hml, hr, hlk, hown, hts, hnw, hK, hfr, hlo, hce, hsl⟩ := id hC
  exact lv_aload hx hb hd (hl.2.2 _ _ hv) (h z u' eo p l e R s m args below meth c D ca r H H0 locs cells slots A Q ls hC hE hD hP hS hl kk)
theorem gf_aload_n {k : Fin 4} {i : Nat} {x : Nat} (hd : decode cc pc = .ok (.aload_n k, 1)) (hi : (k : Nat) = i) (hv : lv[i]? = some (some (.ref x))) (hq : pc + 1 = q) (h : GF EX Y d y cc nL rt q lv (.ref x :: st) u em o) : GF EX Y d y cc nL rt pc lv (st) u em o := by
  subst hq
  intro z u' eo
  intro p l e R s m args below meth c D ca r H H0 locs cells slots A Q ls hC hE hD hP hS hl kk
  obtain ⟨hx, hb, hml, hr, hlk, hown, hts, hnw, hK, hfr, hlo, hce, hsl⟩ := id hC
  exact lv_aload_n hx hb hd hi (hl.2.2 _ _ hv) (h z u' eo p l e R s m args below meth c D ca r H H0 locs cells slots A Q ls hC hE hD hP hS hl kk)
theorem gf_istore {i : Nat} {x : Int32} (hd : decode cc pc = .ok (.istore i, 2)) (hn : i < nL) (hs : xs1 (.int x) i lv = lv2) (hq : pc + 2 = q) (h : GF EX Y d y cc nL rt q lv2 st u em o) : GF EX Y d y cc nL rt pc lv (.int x :: st) u em o := by
  subst hq; subst hs
  intro z u' eo
  intro p l e R s m args below meth c D ca r H H0 locs cells slots A Q ls hC hE hD hP hS hl kk
  obtain ⟨hx, hb, hml, hr, hlk, hown, hts, hnw, hK, hfr, hlo, hce, hsl⟩ := id hC
  exact lv_istore hx hb hd hl.has hn rfl (fun ls2 h2 => h z u' eo p l e R s m args below meth c D ca r H H0 locs cells slots A Q ls2 hC hE hD hP hS (xs1_L (ls := ls) h2) kk)
theorem gf_istore_n {k : Fin 4} {i : Nat} {x : Int32} (hd : decode cc pc = .ok (.istore_n k, 1)) (hi : (k : Nat) = i) (hn : i < nL) (hs : xs1 (.int x) i lv = lv2) (hq : pc + 1 = q) (h : GF EX Y d y cc nL rt q lv2 st u em o) : GF EX Y d y cc nL rt pc lv (.int x :: st) u em o := by
  subst hq; subst hs
  intro z u' eo
  intro p l e R s m args below meth c D ca r H H0 locs cells slots A Q ls hC hE hD hP hS hl kk
  obtain ⟨hx, hb, hml, hr, hlk, hown, hts, hnw, hK, hfr, hlo, hce, hsl⟩ := id hC
  exact lv_istore_n hx hb hd hi hl.has hn rfl (fun ls2 h2 => h z u' eo p l e R s m args below meth c D ca r H H0 locs cells slots A Q ls2 hC hE hD hP hS (xs1_L (ls := ls) h2) kk)
theorem gf_lstore {i : Nat} {x : Int64} (hd : decode cc pc = .ok (.lstore i, 2)) (hn : i + 1 < nL) (hs : xs2 (.long x) i lv = lv2) (hq : pc + 2 = q) (h : GF EX Y d y cc nL rt q lv2 st u em o) : GF EX Y d y cc nL rt pc lv (.long x :: st) u em o := by
  subst hq; subst hs
  intro z u' eo
  intro p l e R s m args below meth c D ca r H H0 locs cells slots A Q ls hC hE hD hP hS hl kk
  obtain ⟨hx, hb, hml, hr, hlk, hown, hts, hnw, hK, hfr, hlo, hce, hsl⟩ := id hC
  exact lv_lstore hx hb hd hl.has hn rfl (fun ls2 h2 => h z u' eo p l e R s m args below meth c D ca r H H0 locs cells slots A Q ls2 hC hE hD hP hS (xs2_L (ls := ls) h2) kk)
theorem gf_lstore_n {k : Fin 4} {i : Nat} {x : Int64} (hd : decode cc pc = .ok (.lstore_n k, 1)) (hi : (k : Nat) = i) (hn : i + 1 < nL) (hs : xs2 (.long x) i lv = lv2) (hq : pc + 1 = q) (h : GF EX Y d y cc nL rt q lv2 st u em o) : GF EX Y d y cc nL rt pc lv (.long x :: st) u em o := by
  subst hq; subst hs
  intro z u' eo
  intro p l e R s m args below meth c D ca r H H0 locs cells slots A Q ls hC hE hD hP hS hl kk
  obtain ⟨hx, hb, hml, hr, hlk, hown, hts, hnw, hK, hfr, hlo, hce, hsl⟩ := id hC
  exact lv_lstore_n hx hb hd hi hl.has hn rfl (fun ls2 h2 => h z u' eo p l e R s m args below meth c D ca r H H0 locs cells slots A Q ls2 hC hE hD hP hS (xs2_L (ls := ls) h2) kk)
theorem gf_astore {i : Nat} {x : Nat} (hd : decode cc pc = .ok (.astore i, 2)) (hn : i < nL) (hs : xs1 (.ref x) i lv = lv2) (hq : pc + 2 = q) (h : GF EX Y d y cc nL rt q lv2 st u em o) : GF EX Y d y cc nL rt pc lv (.ref x :: st) u em o := by
  subst hq; subst hs
  intro z u' eo
  intro p l e R s m args below meth c D ca r H H0 locs cells slots A Q ls hC hE hD hP hS hl kk
  obtain ⟨hx, hb, hml, hr, hlk, hown, hts, hnw, hK, hfr, hlo, hce, hsl⟩ := id hC
  exact lv_astore hx hb hd hl.has hn rfl (fun ls2 h2 => h z u' eo p l e R s m args below meth c D ca r H H0 locs cells slots A Q ls2 hC hE hD hP hS (xs1_L (ls := ls) h2) kk)
theorem gf_astore_n {k : Fin 4} {i : Nat} {x : Nat} (hd : decode cc pc = .ok (.astore_n k, 1)) (hi : (k : Nat) = i) (hn : i < nL) (hs : xs1 (.ref x) i lv = lv2) (hq : pc + 1 = q) (h : GF EX Y d y cc nL rt q lv2 st u em o) : GF EX Y d y cc nL rt pc lv (.ref x :: st) u em o := by
  subst hq; subst hs
  intro z u' eo
  intro p l e R s m args below meth c D ca r H H0 locs cells slots A Q ls hC hE hD hP hS hl kk
  obtain ⟨hx, hb, hml, hr, hlk, hown, hts, hnw, hK, hfr, hlo, hce, hsl⟩ := id hC
  exact lv_astore_n hx hb hd hi hl.has hn rfl (fun ls2 h2 => h z u' eo p l e R s m args below meth c D ca r H H0 locs cells slots A Q ls2 hC hE hD hP hS (xs1_L (ls := ls) h2) kk)
theorem gf_iinc {i : Nat} {n : Int} {x v : Int32} (hd : decode cc pc = .ok (.iinc i n, 3)) (hx0 : lv[i]? = some (some (.int x))) (hv : x + Int32.ofInt n = v) (hn : i < nL) (hs : xs1 (.int v) i lv = lv2) (hq : pc + 3 = q) (h : GF EX Y d y cc nL rt q lv2 st u em o) : GF EX Y d y cc nL rt pc lv st u em o := by
  subst hq; subst hs
  intro z u' eo
  intro p l e R s m args below meth c D ca r H H0 locs cells slots A Q ls hC hE hD hP hS hl kk
  obtain ⟨hx, hb, hml, hr, hlk, hown, hts, hnw, hK, hfr, hlo, hce, hsl⟩ := id hC
  obtain ⟨k, hk⟩ := List.getElem?_of_mem (xl_mem (r := r) lv 0 i _ hx0)
  rw [Nat.zero_add] at hk
  exact lv_iinc hx hb hd hl.has hk hv hn rfl (fun ls2 h2 => h z u' eo p l e R s m args below meth c D ca r H H0 locs cells slots A Q ls2 hC hE hD hP hS (xs1_L (v := .int v) (ls := ls) h2) kk)
theorem gf_iadd {x w : Int32} (hd : decode cc pc = .ok (.iadd, 1)) (hq : pc + 1 = q) (h : GF EX Y d y cc nL rt q lv (.int (x + w) :: st) u em o) : GF EX Y d y cc nL rt pc lv (.int w :: .int x :: st) u em o := by
  subst hq
  intro z u' eo
  intro p l e R s m args below meth c D ca r H H0 locs cells slots A Q ls hC hE hD hP hS hl kk
  obtain ⟨hx, hb, hml, hr, hlk, hown, hts, hnw, hK, hfr, hlo, hce, hsl⟩ := id hC
  exact lv_iadd hx hb hd (h z u' eo p l e R s m args below meth c D ca r H H0 locs cells slots A Q ls hC hE hD hP hS hl kk)
theorem gf_isub {x w : Int32} (hd : decode cc pc = .ok (.isub, 1)) (hq : pc + 1 = q) (h : GF EX Y d y cc nL rt q lv (.int (x - w) :: st) u em o) : GF EX Y d y cc nL rt pc lv (.int w :: .int x :: st) u em o := by
  subst hq
  intro z u' eo
  intro p l e R s m args below meth c D ca r H H0 locs cells slots A Q ls hC hE hD hP hS hl kk
  obtain ⟨hx, hb, hml, hr, hlk, hown, hts, hnw, hK, hfr, hlo, hce, hsl⟩ := id hC
  exact lv_isub hx hb hd (h z u' eo p l e R s m args below meth c D ca r H H0 locs cells slots A Q ls hC hE hD hP hS hl kk)
theorem gf_imul {x w : Int32} (hd : decode cc pc = .ok (.imul, 1)) (hq : pc + 1 = q) (h : GF EX Y d y cc nL rt q lv (.int (x * w) :: st) u em o) : GF EX Y d y cc nL rt pc lv (.int w :: .int x :: st) u em o := by
  subst hq
  intro z u' eo
  intro p l e R s m args below meth c D ca r H H0 locs cells slots A Q ls hC hE hD hP hS hl kk
  obtain ⟨hx, hb, hml, hr, hlk, hown, hts, hnw, hK, hfr, hlo, hce, hsl⟩ := id hC
  exact lv_imul hx hb hd (h z u' eo p l e R s m args below meth c D ca r H H0 locs cells slots A Q ls hC hE hD hP hS hl kk)
theorem gf_iand {x w : Int32} (hd : decode cc pc = .ok (.iand, 1)) (hq : pc + 1 = q) (h : GF EX Y d y cc nL rt q lv (.int (x &&& w) :: st) u em o) : GF EX Y d y cc nL rt pc lv (.int w :: .int x :: st) u em o := by
  subst hq
  intro z u' eo
  intro p l e R s m args below meth c D ca r H H0 locs cells slots A Q ls hC hE hD hP hS hl kk
  obtain ⟨hx, hb, hml, hr, hlk, hown, hts, hnw, hK, hfr, hlo, hce, hsl⟩ := id hC
  exact lv_iand hx hb hd (h z u' eo p l e R s m args below meth c D ca r H H0 locs cells slots A Q ls hC hE hD hP hS hl kk)
theorem gf_ior {x w : Int32} (hd : decode cc pc = .ok (.ior, 1)) (hq : pc + 1 = q) (h : GF EX Y d y cc nL rt q lv (.int (x ||| w) :: st) u em o) : GF EX Y d y cc nL rt pc lv (.int w :: .int x :: st) u em o := by
  subst hq
  intro z u' eo
  intro p l e R s m args below meth c D ca r H H0 locs cells slots A Q ls hC hE hD hP hS hl kk
  obtain ⟨hx, hb, hml, hr, hlk, hown, hts, hnw, hK, hfr, hlo, hce, hsl⟩ := id hC
  exact lv_ior hx hb hd (h z u' eo p l e R s m args below meth c D ca r H H0 locs cells slots A Q ls hC hE hD hP hS hl kk)
theorem gf_ixor {x w : Int32} (hd : decode cc pc = .ok (.ixor, 1)) (hq : pc + 1 = q) (h : GF EX Y d y cc nL rt q lv (.int (x ^^^ w) :: st) u em o) : GF EX Y d y cc nL rt pc lv (.int w :: .int x :: st) u em o := by
  subst hq
  intro z u' eo
  intro p l e R s m args below meth c D ca r H H0 locs cells slots A Q ls hC hE hD hP hS hl kk
  obtain ⟨hx, hb, hml, hr, hlk, hown, hts, hnw, hK, hfr, hlo, hce, hsl⟩ := id hC
  exact lv_ixor hx hb hd (h z u' eo p l e R s m args below meth c D ca r H H0 locs cells slots A Q ls hC hE hD hP hS hl kk)
theorem gf_ishl {x w : Int32} (hd : decode cc pc = .ok (.ishl, 1)) (hq : pc + 1 = q) (h : GF EX Y d y cc nL rt q lv (.int (x <<< (w &&& 31)) :: st) u em o) : GF EX Y d y cc nL rt pc lv (.int w :: .int x :: st) u em o := by
  subst hq
  intro z u' eo
  intro p l e R s m args below meth c D ca r H H0 locs cells slots A Q ls hC hE hD hP hS hl kk
  obtain ⟨hx, hb, hml, hr, hlk, hown, hts, hnw, hK, hfr, hlo, hce, hsl⟩ := id hC
  exact lv_ishl hx hb hd (h z u' eo p l e R s m args below meth c D ca r H H0 locs cells slots A Q ls hC hE hD hP hS hl kk)
theorem gf_ishr {x w : Int32} (hd : decode cc pc = .ok (.ishr, 1)) (hq : pc + 1 = q) (h : GF EX Y d y cc nL rt q lv (.int (x >>> (w &&& 31)) :: st) u em o) : GF EX Y d y cc nL rt pc lv (.int w :: .int x :: st) u em o := by
  subst hq
  intro z u' eo
  intro p l e R s m args below meth c D ca r H H0 locs cells slots A Q ls hC hE hD hP hS hl kk
  obtain ⟨hx, hb, hml, hr, hlk, hown, hts, hnw, hK, hfr, hlo, hce, hsl⟩ := id hC
  exact lv_ishr hx hb hd (h z u' eo p l e R s m args below meth c D ca r H H0 locs cells slots A Q ls hC hE hD hP hS hl kk)
theorem gf_iushr {x w : Int32} (hd : decode cc pc = .ok (.iushr, 1)) (hq : pc + 1 = q) (h : GF EX Y d y cc nL rt q lv (.int ((x.toUInt32 >>> (w.toUInt32 &&& Int32.toUInt32 31)).toInt32) :: st) u em o) : GF EX Y d y cc nL rt pc lv (.int w :: .int x :: st) u em o := by
  subst hq
  intro z u' eo
  intro p l e R s m args below meth c D ca r H H0 locs cells slots A Q ls hC hE hD hP hS hl kk
  obtain ⟨hx, hb, hml, hr, hlk, hown, hts, hnw, hK, hfr, hlo, hce, hsl⟩ := id hC
  exact lv_iushr hx hb hd rfl (h z u' eo p l e R s m args below meth c D ca r H H0 locs cells slots A Q ls hC hE hD hP hS hl kk)
theorem gf_idiv {x w : Int32} (hd : decode cc pc = .ok (.idiv, 1)) (hq : pc + 1 = q) (h : GF EX Y d y cc nL rt q lv (.int (x / w) :: st) u em o) : GF EX Y d y cc nL rt pc lv (.int w :: .int x :: st) u em (if w = 0 then none else o) := by
  subst hq
  intro z u' eo
  by_cases hne : w = 0
  · rw [if_pos hne] at eo; cases eo
  rw [if_neg hne] at eo
  intro p l e R s m args below meth c D ca r H H0 locs cells slots A Q ls hC hE hD hP hS hl kk
  obtain ⟨hx, hb, hml, hr, hlk, hown, hts, hnw, hK, hfr, hlo, hce, hsl⟩ := id hC
  exact lv_idiv hx hb hd hne (h z u' eo p l e R s m args below meth c D ca r H H0 locs cells slots A Q ls hC hE hD hP hS hl kk)
theorem gf_idiv_c {x w : Int32} (hd : decode cc pc = .ok (.idiv, 1)) (hne : ¬ w = 0) (hq : pc + 1 = q) (h : GF EX Y d y cc nL rt q lv (.int (x / w) :: st) u em o) : GF EX Y d y cc nL rt pc lv (.int w :: .int x :: st) u em o := by
  subst hq
  intro z u' eo
  intro p l e R s m args below meth c D ca r H H0 locs cells slots A Q ls hC hE hD hP hS hl kk
  obtain ⟨hx, hb, hml, hr, hlk, hown, hts, hnw, hK, hfr, hlo, hce, hsl⟩ := id hC
  exact lv_idiv hx hb hd hne (h z u' eo p l e R s m args below meth c D ca r H H0 locs cells slots A Q ls hC hE hD hP hS hl kk)
theorem gf_irem {x w : Int32} (hd : decode cc pc = .ok (.irem, 1)) (hq : pc + 1 = q) (h : GF EX Y d y cc nL rt q lv (.int (x - x / w * w) :: st) u em o) : GF EX Y d y cc nL rt pc lv (.int w :: .int x :: st) u em (if w = 0 then none else o) := by
  subst hq
  intro z u' eo
  by_cases hne : w = 0
  · rw [if_pos hne] at eo; cases eo
  rw [if_neg hne] at eo
  intro p l e R s m args below meth c D ca r H H0 locs cells slots A Q ls hC hE hD hP hS hl kk
  obtain ⟨hx, hb, hml, hr, hlk, hown, hts, hnw, hK, hfr, hlo, hce, hsl⟩ := id hC
  exact lv_irem hx hb hd hne (h z u' eo p l e R s m args below meth c D ca r H H0 locs cells slots A Q ls hC hE hD hP hS hl kk)
theorem gf_irem_c {x w : Int32} (hd : decode cc pc = .ok (.irem, 1)) (hne : ¬ w = 0) (hq : pc + 1 = q) (h : GF EX Y d y cc nL rt q lv (.int (x - x / w * w) :: st) u em o) : GF EX Y d y cc nL rt pc lv (.int w :: .int x :: st) u em o := by
  subst hq
  intro z u' eo
  intro p l e R s m args below meth c D ca r H H0 locs cells slots A Q ls hC hE hD hP hS hl kk
  obtain ⟨hx, hb, hml, hr, hlk, hown, hts, hnw, hK, hfr, hlo, hce, hsl⟩ := id hC
  exact lv_irem hx hb hd hne (h z u' eo p l e R s m args below meth c D ca r H H0 locs cells slots A Q ls hC hE hD hP hS hl kk)
theorem gf_ineg {x : Int32} (hd : decode cc pc = .ok (.ineg, 1)) (hq : pc + 1 = q) (h : GF EX Y d y cc nL rt q lv (.int (-x) :: st) u em o) : GF EX Y d y cc nL rt pc lv (.int x :: st) u em o := by
  subst hq
  intro z u' eo
  intro p l e R s m args below meth c D ca r H H0 locs cells slots A Q ls hC hE hD hP hS hl kk
  obtain ⟨hx, hb, hml, hr, hlk, hown, hts, hnw, hK, hfr, hlo, hce, hsl⟩ := id hC
  exact lv_ineg hx hb hd (h z u' eo p l e R s m args below meth c D ca r H H0 locs cells slots A Q ls hC hE hD hP hS hl kk)
theorem gf_ladd {x w : Int64} (hd : decode cc pc = .ok (.ladd, 1)) (hq : pc + 1 = q) (h : GF EX Y d y cc nL rt q lv (.long (x + w) :: st) u em o) : GF EX Y d y cc nL rt pc lv (.long w :: .long x :: st) u em o := by
  subst hq
  intro z u' eo
  intro p l e R s m args below meth c D ca r H H0 locs cells slots A Q ls hC hE hD hP hS hl kk
  obtain ⟨hx, hb, hml, hr, hlk, hown, hts, hnw, hK, hfr, hlo, hce, hsl⟩ := id hC
  exact lv_ladd hx hb hd (h z u' eo p l e R s m args below meth c D ca r H H0 locs cells slots A Q ls hC hE hD hP hS hl kk)
theorem gf_lsub {x w : Int64} (hd : decode cc pc = .ok (.lsub, 1)) (hq : pc + 1 = q) (h : GF EX Y d y cc nL rt q lv (.long (x - w) :: st) u em o) : GF EX Y d y cc nL rt pc lv (.long w :: .long x :: st) u em o := by
  subst hq
  intro z u' eo
  intro p l e R s m args below meth c D ca r H H0 locs cells slots A Q ls hC hE hD hP hS hl kk
  obtain ⟨hx, hb, hml, hr, hlk, hown, hts, hnw, hK, hfr, hlo, hce, hsl⟩ := id hC
  exact lv_lsub hx hb hd (h z u' eo p l e R s m args below meth c D ca r H H0 locs cells slots A Q ls hC hE hD hP hS hl kk)
theorem gf_lmul {x w : Int64} (hd : decode cc pc = .ok (.lmul, 1)) (hq : pc + 1 = q) (h : GF EX Y d y cc nL rt q lv (.long (x * w) :: st) u em o) : GF EX Y d y cc nL rt pc lv (.long w :: .long x :: st) u em o := by
  subst hq
  intro z u' eo
  intro p l e R s m args below meth c D ca r H H0 locs cells slots A Q ls hC hE hD hP hS hl kk
  obtain ⟨hx, hb, hml, hr, hlk, hown, hts, hnw, hK, hfr, hlo, hce, hsl⟩ := id hC
  exact lv_lmul hx hb hd (h z u' eo p l e R s m args below meth c D ca r H H0 locs cells slots A Q ls hC hE hD hP hS hl kk)
theorem gf_ldiv {x w : Int64} (hd : decode cc pc = .ok (.ldiv, 1)) (hq : pc + 1 = q) (h : GF EX Y d y cc nL rt q lv (.long (x / w) :: st) u em o) : GF EX Y d y cc nL rt pc lv (.long w :: .long x :: st) u em (if w = 0 then none else o) := by
  subst hq
  intro z u' eo
  by_cases hne : w = 0
  · rw [if_pos hne] at eo; cases eo
  rw [if_neg hne] at eo
  intro p l e R s m args below meth c D ca r H H0 locs cells slots A Q ls hC hE hD hP hS hl kk
  obtain ⟨hx, hb, hml, hr, hlk, hown, hts, hnw, hK, hfr, hlo, hce, hsl⟩ := id hC
  exact lv_ldiv hx hb hd hne (h z u' eo p l e R s m args below meth c D ca r H H0 locs cells slots A Q ls hC hE hD hP hS hl kk)
theorem gf_ldiv_c {x w : Int64} (hd : decode cc pc = .ok (.ldiv, 1)) (hne : ¬ w = 0) (hq : pc + 1 = q) (h : GF EX Y d y cc nL rt q lv (.long (x / w) :: st) u em o) : GF EX Y d y cc nL rt pc lv (.long w :: .long x :: st) u em o := by
  subst hq
  intro z u' eo
  intro p l e R s m args below meth c D ca r H H0 locs cells slots A Q ls hC hE hD hP hS hl kk
  obtain ⟨hx, hb, hml, hr, hlk, hown, hts, hnw, hK, hfr, hlo, hce, hsl⟩ := id hC
  exact lv_ldiv hx hb hd hne (h z u' eo p l e R s m args below meth c D ca r H H0 locs cells slots A Q ls hC hE hD hP hS hl kk)
theorem gf_lrem {x w : Int64} (hd : decode cc pc = .ok (.lrem, 1)) (hq : pc + 1 = q) (h : GF EX Y d y cc nL rt q lv (.long (x - x / w * w) :: st) u em o) : GF EX Y d y cc nL rt pc lv (.long w :: .long x :: st) u em (if w = 0 then none else o) := by
  subst hq
  intro z u' eo
  by_cases hne : w = 0
  · rw [if_pos hne] at eo; cases eo
  rw [if_neg hne] at eo
  intro p l e R s m args below meth c D ca r H H0 locs cells slots A Q ls hC hE hD hP hS hl kk
  obtain ⟨hx, hb, hml, hr, hlk, hown, hts, hnw, hK, hfr, hlo, hce, hsl⟩ := id hC
  exact lv_lrem hx hb hd hne (h z u' eo p l e R s m args below meth c D ca r H H0 locs cells slots A Q ls hC hE hD hP hS hl kk)
theorem gf_lrem_c {x w : Int64} (hd : decode cc pc = .ok (.lrem, 1)) (hne : ¬ w = 0) (hq : pc + 1 = q) (h : GF EX Y d y cc nL rt q lv (.long (x - x / w * w) :: st) u em o) : GF EX Y d y cc nL rt pc lv (.long w :: .long x :: st) u em o := by
  subst hq
  intro z u' eo
  intro p l e R s m args below meth c D ca r H H0 locs cells slots A Q ls hC hE hD hP hS hl kk
  obtain ⟨hx, hb, hml, hr, hlk, hown, hts, hnw, hK, hfr, hlo, hce, hsl⟩ := id hC
  exact lv_lrem hx hb hd hne (h z u' eo p l e R s m args below meth c D ca r H H0 locs cells slots A Q ls hC hE hD hP hS hl kk)
theorem gf_i2l {x : Int32} (hd : decode cc pc = .ok (.i2l, 1)) (hq : pc + 1 = q) (h : GF EX Y d y cc nL rt q lv (.long x.toInt64 :: st) u em o) : GF EX Y d y cc nL rt pc lv (.int x :: st) u em o := by
  subst hq
  intro z u' eo
  intro p l e R s m args below meth c D ca r H H0 locs cells slots A Q ls hC hE hD hP hS hl kk
  obtain ⟨hx, hb, hml, hr, hlk, hown, hts, hnw, hK, hfr, hlo, hce, hsl⟩ := id hC
  exact lv_i2l hx hb hd rfl (h z u' eo p l e R s m args below meth c D ca r H H0 locs cells slots A Q ls hC hE hD hP hS hl kk)
theorem gf_l2i {x : Int64} (hd : decode cc pc = .ok (.l2i, 1)) (hq : pc + 1 = q) (h : GF EX Y d y cc nL rt q lv (.int x.toInt32 :: st) u em o) : GF EX Y d y cc nL rt pc lv (.long x :: st) u em o := by
  subst hq
  intro z u' eo
  intro p l e R s m args below meth c D ca r H H0 locs cells slots A Q ls hC hE hD hP hS hl kk
  obtain ⟨hx, hb, hml, hr, hlk, hown, hts, hnw, hK, hfr, hlo, hce, hsl⟩ := id hC
  exact lv_l2i hx hb hd rfl (h z u' eo p l e R s m args below meth c D ca r H H0 locs cells slots A Q ls hC hE hD hP hS hl kk)
theorem gf_i2b {x : Int32} (hd : decode cc pc = .ok (.i2b, 1)) (hq : pc + 1 = q) (h : GF EX Y d y cc nL rt q lv (.int x.toInt8.toInt32 :: st) u em o) : GF EX Y d y cc nL rt pc lv (.int x :: st) u em o := by
  subst hq
  intro z u' eo
  intro p l e R s m args below meth c D ca r H H0 locs cells slots A Q ls hC hE hD hP hS hl kk
  obtain ⟨hx, hb, hml, hr, hlk, hown, hts, hnw, hK, hfr, hlo, hce, hsl⟩ := id hC
  exact lv_i2b hx hb hd rfl (h z u' eo p l e R s m args below meth c D ca r H H0 locs cells slots A Q ls hC hE hD hP hS hl kk)
theorem gf_lcmp {x w : Int64} (hd : decode cc pc = .ok (.lcmp, 1)) (hq : pc + 1 = q) (h : GF EX Y d y cc nL rt q lv (.int (lg_cmp x w) :: st) u em o) : GF EX Y d y cc nL rt pc lv (.long w :: .long x :: st) u em o := by
  subst hq
  intro z u' eo
  intro p l e R s m args below meth c D ca r H H0 locs cells slots A Q ls hC hE hD hP hS hl kk
  obtain ⟨hx, hb, hml, hr, hlk, hown, hts, hnw, hK, hfr, hlo, hce, hsl⟩ := id hC
  exact W.lcmp hx hb hd (h z u' eo p l e R s m args below meth c D ca r H H0 locs cells slots A Q ls hC hE hD hP hS hl kk)
theorem gf_dup {va : Value} (hd : decode cc pc = .ok (.dup, 1)) (hva : va.category = 1) (hq : pc + 1 = q) (h : GF EX Y d y cc nL rt q lv (va :: va :: st) u em o) : GF EX Y d y cc nL rt pc lv (va :: st) u em o := by
  subst hq
  intro z u' eo
  intro p l e R s m args below meth c D ca r H H0 locs cells slots A Q ls hC hE hD hP hS hl kk
  obtain ⟨hx, hb, hml, hr, hlk, hown, hts, hnw, hK, hfr, hlo, hce, hsl⟩ := id hC
  exact lv_dup hx hb hd (by rw [xv_cat]; exact hva) (h z u' eo p l e R s m args below meth c D ca r H H0 locs cells slots A Q ls hC hE hD hP hS hl kk)
theorem gf_pop {va : Value} (hd : decode cc pc = .ok (.pop, 1)) (hva : va.category = 1) (hq : pc + 1 = q) (h : GF EX Y d y cc nL rt q lv (st) u em o) : GF EX Y d y cc nL rt pc lv (va :: st) u em o := by
  subst hq
  intro z u' eo
  intro p l e R s m args below meth c D ca r H H0 locs cells slots A Q ls hC hE hD hP hS hl kk
  obtain ⟨hx, hb, hml, hr, hlk, hown, hts, hnw, hK, hfr, hlo, hce, hsl⟩ := id hC
  exact lv_pop hx hb hd (by rw [xv_cat]; exact hva) (h z u' eo p l e R s m args below meth c D ca r H H0 locs cells slots A Q ls hC hE hD hP hS hl kk)
theorem gf_dup2 {va vb : Value} (hd : decode cc pc = .ok (.dup2, 1)) (hva : va.category = 1) (hvb : vb.category = 1) (hq : pc + 1 = q) (h : GF EX Y d y cc nL rt q lv (va :: vb :: va :: vb :: st) u em o) : GF EX Y d y cc nL rt pc lv (va :: vb :: st) u em o := by
  subst hq
  intro z u' eo
  intro p l e R s m args below meth c D ca r H H0 locs cells slots A Q ls hC hE hD hP hS hl kk
  obtain ⟨hx, hb, hml, hr, hlk, hown, hts, hnw, hK, hfr, hlo, hce, hsl⟩ := id hC
  exact lv_dup2_11 hx hb hd (by rw [xv_cat]; exact hva) (by rw [xv_cat]; exact hvb) (h z u' eo p l e R s m args below meth c D ca r H H0 locs cells slots A Q ls hC hE hD hP hS hl kk)
theorem gf_goto {off : Int} (hd : decode cc pc = .ok (.goto off, 3)) (hq : (pc : Int) + off = (q : Int)) (h : GF EX Y d y cc nL rt q lv st u em o) : GF EX Y d y cc nL rt pc lv st u em o := by
  intro z u' eo
  intro p l e R s m args below meth c D ca r H H0 locs cells slots A Q ls hC hE hD hP hS hl kk
  obtain ⟨hx, hb, hml, hr, hlk, hown, hts, hnw, hK, hfr, hlo, hce, hsl⟩ := id hC
  exact lv_goto hx hb hd hq (h z u' eo p l e R s m args below meth c D ca r H H0 locs cells slots A Q ls hC hE hD hP hS hl kk)
theorem gf_if_eq {x : Int32} {off : Int} {t : Nat} {o1 o2 : Option (τ × XM)} (hd : decode cc pc = .ok (.ifCond .eq off, 3)) (ht : (pc : Int) + off = (t : Int)) (hq : pc + 3 = q) (h1 : GF EX Y d y cc nL rt t lv st u em o1) (h2 : GF EX Y d y cc nL rt q lv st u em o2) : GF EX Y d y cc nL rt pc lv (.int x :: st) u em (if x = 0 then o1 else o2) := by
  subst hq
  intro z u' eo
  by_cases hc : x = 0
  · rw [if_pos hc] at eo
    intro p l e R s m args below meth c D ca r H H0 locs cells slots A Q ls hC hE hD hP hS hl kk
    obtain ⟨hx, hb, hml, hr, hlk, hown, hts, hnw, hK, hfr, hlo, hce, hsl⟩ := id hC
    exact lv_if_eq hx hb hd ht (fun _ => (h1 z u' eo p l e R s m args below meth c D ca r H H0 locs cells slots A Q ls hC hE hD hP hS hl kk)) (fun q => absurd hc q)
  · rw [if_neg hc] at eo
    intro p l e R s m args below meth c D ca r H H0 locs cells slots A Q ls hC hE hD hP hS hl kk
    obtain ⟨hx, hb, hml, hr, hlk, hown, hts, hnw, hK, hfr, hlo, hce, hsl⟩ := id hC
    exact lv_if_eq hx hb hd ht (fun q => absurd q hc) (fun _ => (h2 z u' eo p l e R s m args below meth c D ca r H H0 locs cells slots A Q ls hC hE hD hP hS hl kk))
theorem gf_icmp_eq {x w : Int32} {off : Int} {t : Nat} {o1 o2 : Option (τ × XM)} (hd : decode cc pc = .ok (.if_icmp .eq off, 3)) (ht : (pc : Int) + off = (t : Int)) (hq : pc + 3 = q) (h1 : GF EX Y d y cc nL rt t lv st u em o1) (h2 : GF EX Y d y cc nL rt q lv st u em o2) : GF EX Y d y cc nL rt pc lv (.int w :: .int x :: st) u em (if x = w then o1 else o2) := by
  subst hq
  intro z u' eo
  by_cases hc : x = w
  · rw [if_pos hc] at eo
    intro p l e R s m args below meth c D ca r H H0 locs cells slots A Q ls hC hE hD hP hS hl kk
    obtain ⟨hx, hb, hml, hr, hlk, hown, hts, hnw, hK, hfr, hlo, hce, hsl⟩ := id hC
    exact lv_icmp_eq hx hb hd ht (fun _ => (h1 z u' eo p l e R s m args below meth c D ca r H H0 locs cells slots A Q ls hC hE hD hP hS hl kk)) (fun q => absurd hc q)
  · rw [if_neg hc] at eo
    intro p l e R s m args below meth c D ca r H H0 locs cells slots A Q ls hC hE hD hP hS hl kk
    obtain ⟨hx, hb, hml, hr, hlk, hown, hts, hnw, hK, hfr, hlo, hce, hsl⟩ := id hC
    exact lv_icmp_eq hx hb hd ht (fun q => absurd q hc) (fun _ => (h2 z u' eo p l e R s m args below meth c D ca r H H0 locs cells slots A Q ls hC hE hD hP hS hl kk))
theorem gf_if_ne {x : Int32} {off : Int} {t : Nat} {o1 o2 : Option (τ × XM)} (hd : decode cc pc = .ok (.ifCond .ne off, 3)) (ht : (pc : Int) + off = (t : Int)) (hq : pc + 3 = q) (h1 : GF EX Y d y cc nL rt q lv st u em o1) (h2 : GF EX Y d y cc nL rt t lv st u em o2) : GF EX Y d y cc nL rt pc lv (.int x :: st) u em (if x = 0 then o1 else o2) := by
  subst hq
  intro z u' eo
  by_cases hc : x = 0
  · rw [if_pos hc] at eo
    intro p l e R s m args below meth c D ca r H H0 locs cells slots A Q ls hC hE hD hP hS hl kk
    obtain ⟨hx, hb, hml, hr, hlk, hown, hts, hnw, hK, hfr, hlo, hce, hsl⟩ := id hC
    exact lv_if_ne hx hb hd ht (fun q => absurd hc q) (fun _ => (h1 z u' eo p l e R s m args below meth c D ca r H H0 locs cells slots A Q ls hC hE hD hP hS hl kk))
  · rw [if_neg hc] at eo
    intro p l e R s m args below meth c D ca r H H0 locs cells slots A Q ls hC hE hD hP hS hl kk
    obtain ⟨hx, hb, hml, hr, hlk, hown, hts, hnw, hK, hfr, hlo, hce, hsl⟩ := id hC
    exact lv_if_ne hx hb hd ht (fun _ => (h2 z u' eo p l e R s m args below meth c D ca r H H0 locs cells slots A Q ls hC hE hD hP hS hl kk)) (fun q => absurd q hc)
theorem gf_icmp_ne {x w : Int32} {off : Int} {t : Nat} {o1 o2 : Option (τ × XM)} (hd : decode cc pc = .ok (.if_icmp .ne off, 3)) (ht : (pc : Int) + off = (t : Int)) (hq : pc + 3 = q) (h1 : GF EX Y d y cc nL rt q lv st u em o1) (h2 : GF EX Y d y cc nL rt t lv st u em o2) : GF EX Y d y cc nL rt pc lv (.int w :: .int x :: st) u em (if x = w then o1 else o2) := by
  subst hq
  intro z u' eo
  by_cases hc : x = w
  · rw [if_pos hc] at eo
    intro p l e R s m args below meth c D ca r H H0 locs cells slots A Q ls hC hE hD hP hS hl kk
    obtain ⟨hx, hb, hml, hr, hlk, hown, hts, hnw, hK, hfr, hlo, hce, hsl⟩ := id hC
    exact lv_icmp_ne hx hb hd ht (fun q => absurd hc q) (fun _ => (h1 z u' eo p l e R s m args below meth c D ca r H H0 locs cells slots A Q ls hC hE hD hP hS hl kk))
  · rw [if_neg hc] at eo
    intro p l e R s m args below meth c D ca r H H0 locs cells slots A Q ls hC hE hD hP hS hl kk
    obtain ⟨hx, hb, hml, hr, hlk, hown, hts, hnw, hK, hfr, hlo, hce, hsl⟩ := id hC
    exact lv_icmp_ne hx hb hd ht (fun _ => (h2 z u' eo p l e R s m args below meth c D ca r H H0 locs cells slots A Q ls hC hE hD hP hS hl kk)) (fun q => absurd q hc)
theorem gf_if_lt {x : Int32} {off : Int} {t : Nat} {o1 o2 : Option (τ × XM)} (hd : decode cc pc = .ok (.ifCond .lt off, 3)) (ht : (pc : Int) + off = (t : Int)) (hq : pc + 3 = q) (h1 : GF EX Y d y cc nL rt t lv st u em o1) (h2 : GF EX Y d y cc nL rt q lv st u em o2) : GF EX Y d y cc nL rt pc lv (.int x :: st) u em (if x < 0 then o1 else o2) := by
  subst hq
  intro z u' eo
  by_cases hc : x < 0
  · rw [if_pos hc] at eo
    intro p l e R s m args below meth c D ca r H H0 locs cells slots A Q ls hC hE hD hP hS hl kk
    obtain ⟨hx, hb, hml, hr, hlk, hown, hts, hnw, hK, hfr, hlo, hce, hsl⟩ := id hC
    exact lv_if_lt hx hb hd ht (fun _ => (h1 z u' eo p l e R s m args below meth c D ca r H H0 locs cells slots A Q ls hC hE hD hP hS hl kk)) (fun q => absurd hc q)
  · rw [if_neg hc] at eo
    intro p l e R s m args below meth c D ca r H H0 locs cells slots A Q ls hC hE hD hP hS hl kk
    obtain ⟨hx, hb, hml, hr, hlk, hown, hts, hnw, hK, hfr, hlo, hce, hsl⟩ := id hC
    exact lv_if_lt hx hb hd ht (fun q => absurd q hc) (fun _ => (h2 z u' eo p l e R s m args below meth c D ca r H H0 locs cells slots A Q ls hC hE hD hP hS hl kk))
theorem gf_icmp_lt {x w : Int32} {off : Int} {t : Nat} {o1 o2 : Option (τ × XM)} (hd : decode cc pc = .ok (.if_icmp .lt off, 3)) (ht : (pc : Int) + off = (t : Int)) (hq : pc + 3 = q) (h1 : GF EX Y d y cc nL rt t lv st u em o1) (h2 : GF EX Y d y cc nL rt q lv st u em o2) : GF EX Y d y cc nL rt pc lv (.int w :: .int x :: st) u em (if x < w then o1 else o2) := by
  subst hq
  intro z u' eo
  by_cases hc : x < w
  · rw [if_pos hc] at eo
    intro p l e R s m args below meth c D ca r H H0 locs cells slots A Q ls hC hE hD hP hS hl kk
    obtain ⟨hx, hb, hml, hr, hlk, hown, hts, hnw, hK, hfr, hlo, hce, hsl⟩ := id hC
    exact lv_icmp_lt hx hb hd ht (fun _ => (h1 z u' eo p l e R s m args below meth c D ca r H H0 locs cells slots A Q ls hC hE hD hP hS hl kk)) (fun q => absurd hc q)
  · rw [if_neg hc] at eo
    intro p l e R s m args below meth c D ca r H H0 locs cells slots A Q ls hC hE hD hP hS hl kk
    obtain ⟨hx, hb, hml, hr, hlk, hown, hts, hnw, hK, hfr, hlo, hce, hsl⟩ := id hC
    exact lv_icmp_lt hx hb hd ht (fun q => absurd q hc) (fun _ => (h2 z u' eo p l e R s m args below meth c D ca r H H0 locs cells slots A Q ls hC hE hD hP hS hl kk))
theorem gf_if_ge {x : Int32} {off : Int} {t : Nat} {o1 o2 : Option (τ × XM)} (hd : decode cc pc = .ok (.ifCond .ge off, 3)) (ht : (pc : Int) + off = (t : Int)) (hq : pc + 3 = q) (h1 : GF EX Y d y cc nL rt t lv st u em o1) (h2 : GF EX Y d y cc nL rt q lv st u em o2) : GF EX Y d y cc nL rt pc lv (.int x :: st) u em (if 0 ≤ x then o1 else o2) := by
  subst hq
  intro z u' eo
  by_cases hc : 0 ≤ x
  · rw [if_pos hc] at eo
    intro p l e R s m args below meth c D ca r H H0 locs cells slots A Q ls hC hE hD hP hS hl kk
    obtain ⟨hx, hb, hml, hr, hlk, hown, hts, hnw, hK, hfr, hlo, hce, hsl⟩ := id hC
    exact lv_if_ge hx hb hd ht (fun _ => (h1 z u' eo p l e R s m args below meth c D ca r H H0 locs cells slots A Q ls hC hE hD hP hS hl kk)) (fun q => absurd hc q)
  · rw [if_neg hc] at eo
    intro p l e R s m args below meth c D ca r H H0 locs cells slots A Q ls hC hE hD hP hS hl kk
    obtain ⟨hx, hb, hml, hr, hlk, hown, hts, hnw, hK, hfr, hlo, hce, hsl⟩ := id hC
    exact lv_if_ge hx hb hd ht (fun q => absurd q hc) (fun _ => (h2 z u' eo p l e R s m args below meth c D ca r H H0 locs cells slots A Q ls hC hE hD hP hS hl kk))
theorem gf_icmp_ge {x w : Int32} {off : Int} {t : Nat} {o1 o2 : Option (τ × XM)} (hd : decode cc pc = .ok (.if_icmp .ge off, 3)) (ht : (pc : Int) + off = (t : Int)) (hq : pc + 3 = q) (h1 : GF EX Y d y cc nL rt t lv st u em o1) (h2 : GF EX Y d y cc nL rt q lv st u em o2) : GF EX Y d y cc nL rt pc lv (.int w :: .int x :: st) u em (if w ≤ x then o1 else o2) := by
  subst hq
  intro z u' eo
  by_cases hc : w ≤ x
  · rw [if_pos hc] at eo
    intro p l e R s m args below meth c D ca r H H0 locs cells slots A Q ls hC hE hD hP hS hl kk
    obtain ⟨hx, hb, hml, hr, hlk, hown, hts, hnw, hK, hfr, hlo, hce, hsl⟩ := id hC
    exact lv_icmp_ge hx hb hd ht (fun _ => (h1 z u' eo p l e R s m args below meth c D ca r H H0 locs cells slots A Q ls hC hE hD hP hS hl kk)) (fun q => absurd hc q)
  · rw [if_neg hc] at eo
    intro p l e R s m args below meth c D ca r H H0 locs cells slots A Q ls hC hE hD hP hS hl kk
    obtain ⟨hx, hb, hml, hr, hlk, hown, hts, hnw, hK, hfr, hlo, hce, hsl⟩ := id hC
    exact lv_icmp_ge hx hb hd ht (fun q => absurd q hc) (fun _ => (h2 z u' eo p l e R s m args below meth c D ca r H H0 locs cells slots A Q ls hC hE hD hP hS hl kk))
theorem gf_if_gt {x : Int32} {off : Int} {t : Nat} {o1 o2 : Option (τ × XM)} (hd : decode cc pc = .ok (.ifCond .gt off, 3)) (ht : (pc : Int) + off = (t : Int)) (hq : pc + 3 = q) (h1 : GF EX Y d y cc nL rt t lv st u em o1) (h2 : GF EX Y d y cc nL rt q lv st u em o2) : GF EX Y d y cc nL rt pc lv (.int x :: st) u em (if 0 < x then o1 else o2) := by
  subst hq
  intro z u' eo
  by_cases hc : 0 < x
  · rw [if_pos hc] at eo
    intro p l e R s m args below meth c D ca r H H0 locs cells slots A Q ls hC hE hD hP hS hl kk
    obtain ⟨hx, hb, hml, hr, hlk, hown, hts, hnw, hK, hfr, hlo, hce, hsl⟩ := id hC
    exact lv_if_gt hx hb hd ht (fun _ => (h1 z u' eo p l e R s m args below meth c D ca r H H0 locs cells slots A Q ls hC hE hD hP hS hl kk)) (fun q => absurd hc q)
  · rw [if_neg hc] at eo
    intro p l e R s m args below meth c D ca r H H0 locs cells slots A Q ls hC hE hD hP hS hl kk
    obtain ⟨hx, hb, hml, hr, hlk, hown, hts, hnw, hK, hfr, hlo, hce, hsl⟩ := id hC
    exact lv_if_gt hx hb hd ht (fun q => absurd q hc) (fun _ => (h2 z u' eo p l e R s m args below meth c D ca r H H0 locs cells slots A Q ls hC hE hD hP hS hl kk))
theorem gf_icmp_gt {x w : Int32} {off : Int} {t : Nat} {o1 o2 : Option (τ × XM)} (hd : decode cc pc = .ok (.if_icmp .gt off, 3)) (ht : (pc : Int) + off = (t : Int)) (hq : pc + 3 = q) (h1 : GF EX Y d y cc nL rt t lv st u em o1) (h2 : GF EX Y d y cc nL rt q lv st u em o2) : GF EX Y d y cc nL rt pc lv (.int w :: .int x :: st) u em (if w < x then o1 else o2) := by
  subst hq
  intro z u' eo
  by_cases hc : w < x
  · rw [if_pos hc] at eo
    intro p l e R s m args below meth c D ca r H H0 locs cells slots A Q ls hC hE hD hP hS hl kk
    obtain ⟨hx, hb, hml, hr, hlk, hown, hts, hnw, hK, hfr, hlo, hce, hsl⟩ := id hC
    exact lv_icmp_gt hx hb hd ht (fun _ => (h1 z u' eo p l e R s m args below meth c D ca r H H0 locs cells slots A Q ls hC hE hD hP hS hl kk)) (fun q => absurd hc q)
  · rw [if_neg hc] at eo
    intro p l e R s m args below meth c D ca r H H0 locs cells slots A Q ls hC hE hD hP hS hl kk
    obtain ⟨hx, hb, hml, hr, hlk, hown, hts, hnw, hK, hfr, hlo, hce, hsl⟩ := id hC
    exact lv_icmp_gt hx hb hd ht (fun q => absurd q hc) (fun _ => (h2 z u' eo p l e R s m args below meth c D ca r H H0 locs cells slots A Q ls hC hE hD hP hS hl kk))
theorem gf_if_le {x : Int32} {off : Int} {t : Nat} {o1 o2 : Option (τ × XM)} (hd : decode cc pc = .ok (.ifCond .le off, 3)) (ht : (pc : Int) + off = (t : Int)) (hq : pc + 3 = q) (h1 : GF EX Y d y cc nL rt t lv st u em o1) (h2 : GF EX Y d y cc nL rt q lv st u em o2) : GF EX Y d y cc nL rt pc lv (.int x :: st) u em (if x ≤ 0 then o1 else o2) := by
  subst hq
  intro z u' eo
  by_cases hc : x ≤ 0
  · rw [if_pos hc] at eo
    intro p l e R s m args below meth c D ca r H H0 locs cells slots A Q ls hC hE hD hP hS hl kk
    obtain ⟨hx, hb, hml, hr, hlk, hown, hts, hnw, hK, hfr, hlo, hce, hsl⟩ := id hC
    exact lv_if_le hx hb hd ht (fun _ => (h1 z u' eo p l e R s m args below meth c D ca r H H0 locs cells slots A Q ls hC hE hD hP hS hl kk)) (fun q => absurd hc q)
  · rw [if_neg hc] at eo
    intro p l e R s m args below meth c D ca r H H0 locs cells slots A Q ls hC hE hD hP hS hl kk
    obtain ⟨hx, hb, hml, hr, hlk, hown, hts, hnw, hK, hfr, hlo, hce, hsl⟩ := id hC
    exact lv_if_le hx hb hd ht (fun q => absurd q hc) (fun _ => (h2 z u' eo p l e R s m args below meth c D ca r H H0 locs cells slots A Q ls hC hE hD hP hS hl kk))
theorem gf_icmp_le {x w : Int32} {off : Int} {t : Nat} {o1 o2 : Option (τ × XM)} (hd : decode cc pc = .ok (.if_icmp .le off, 3)) (ht : (pc : Int) + off = (t : Int)) (hq : pc + 3 = q) (h1 : GF EX Y d y cc nL rt t lv st u em o1) (h2 : GF EX Y d y cc nL rt q lv st u em o2) : GF EX Y d y cc nL rt pc lv (.int w :: .int x :: st) u em (if x ≤ w then o1 else o2) := by
  subst hq
  intro z u' eo
  by_cases hc : x ≤ w
  · rw [if_pos hc] at eo
    intro p l e R s m args below meth c D ca r H H0 locs cells slots A Q ls hC hE hD hP hS hl kk
    obtain ⟨hx, hb, hml, hr, hlk, hown, hts, hnw, hK, hfr, hlo, hce, hsl⟩ := id hC
    exact lv_icmp_le hx hb hd ht (fun _ => (h1 z u' eo p l e R s m args below meth c D ca r H H0 locs cells slots A Q ls hC hE hD hP hS hl kk)) (fun q => absurd hc q)
  · rw [if_neg hc] at eo
    intro p l e R s m args below meth c D ca r H H0 locs cells slots A Q ls hC hE hD hP hS hl kk
    obtain ⟨hx, hb, hml, hr, hlk, hown, hts, hnw, hK, hfr, hlo, hce, hsl⟩ := id hC
    exact lv_icmp_le hx hb hd ht (fun q => absurd q hc) (fun _ => (h2 z u' eo p l e R s m args below meth c D ca r H H0 locs cells slots A Q ls hC hE hD hP hS hl kk))
theorem gf_getI {C : String} {T : u_T} {N ci k j n idx : Nat} {dd : List Nat} (hd : decode cc pc = .ok (.getfield idx, 3)) (hY : Y[k]? = some (ci + 5, n, dd)) (hc : vwCl[ci]? = some (C, T, N)) (hin : ∀ w ∈ u_ws C T N, w ∈ GW) (hj : j < N) (hlk0 : Cond.fieldLink y.cls idx (T j).1 (T j).2.1 (T j).2.2.1 ∈ GW) (hf : dd[j]? = some 0) (hq : pc + 3 = q) (h : GF EX Y d y cc nL rt q lv (.int (mi u k j) :: st) u em o) : GF EX Y d y cc nL rt pc lv (.ref k :: st) u em o := by
  subst hq
  intro z u' eo
  intro p l e R s m args below meth c D ca r H H0 locs cells slots A Q ls hC hE hD hP hS hl kk
  obtain ⟨hx, hb, hml, hr, hlk, hown, hts, hnw, hK, hfr, hlo, hce, hsl⟩ := id hC
  exact va_get (v := .int (mi u k j)) hx hb hts hin hown hK hP k (xw_obj hY) hc j hj (hts _ hlk0) (fun _ h9 => h9) (by rw [xfs_get, hf, Nat.zero_add]; rfl) hd (h z u' eo p l e R s m args below meth c D ca r H H0 locs cells slots A Q ls hC hE hD hP hS hl kk)
theorem gf_getL {C : String} {T : u_T} {N ci k j n idx : Nat} {dd : List Nat} (hd : decode cc pc = .ok (.getfield idx, 3)) (hY : Y[k]? = some (ci + 5, n, dd)) (hc : vwCl[ci]? = some (C, T, N)) (hin : ∀ w ∈ u_ws C T N, w ∈ GW) (hj : j < N) (hlk0 : Cond.fieldLink y.cls idx (T j).1 (T j).2.1 (T j).2.2.1 ∈ GW) (hf : dd[j]? = some 1) (hq : pc + 3 = q) (h : GF EX Y d y cc nL rt q lv (.long (ml u k j) :: st) u em o) : GF EX Y d y cc nL rt pc lv (.ref k :: st) u em o := by
  subst hq
  intro z u' eo
  intro p l e R s m args below meth c D ca r H H0 locs cells slots A Q ls hC hE hD hP hS hl kk
  obtain ⟨hx, hb, hml, hr, hlk, hown, hts, hnw, hK, hfr, hlo, hce, hsl⟩ := id hC
  exact va_get (v := .long (ml u k j)) hx hb hts hin hown hK hP k (xw_obj hY) hc j hj (hts _ hlk0) (fun _ h9 => h9) (by rw [xfs_get, hf, Nat.zero_add]; rfl) hd (h z u' eo p l e R s m args below meth c D ca r H H0 locs cells slots A Q ls hC hE hD hP hS hl kk)
theorem gf_getA {C : String} {T : u_T} {N ci k j n idx t : Nat} {dd : List Nat} (hd : decode cc pc = .ok (.getfield idx, 3)) (hY : Y[k]? = some (ci + 5, n, dd)) (hc : vwCl[ci]? = some (C, T, N)) (hin : ∀ w ∈ u_ws C T N, w ∈ GW) (hj : j < N) (hlk0 : Cond.fieldLink y.cls idx (T j).1 (T j).2.1 (T j).2.2.1 ∈ GW) (hf : dd[j]? = some (t + 2)) (hq : pc + 3 = q) (h : GF EX Y d y cc nL rt q lv (.ref t :: st) u em o) : GF EX Y d y cc nL rt pc lv (.ref k :: st) u em o := by
  subst hq
  intro z u' eo
  intro p l e R s m args below meth c D ca r H H0 locs cells slots A Q ls hC hE hD hP hS hl kk
  obtain ⟨hx, hb, hml, hr, hlk, hown, hts, hnw, hK, hfr, hlo, hce, hsl⟩ := id hC
  exact va_get (v := .ref (r t)) hx hb hts hin hown hK hP k (xw_obj hY) hc j hj (hts _ hlk0) (fun _ h9 => h9) (by rw [xfs_get, hf, Nat.zero_add]; rfl) hd (h z u' eo p l e R s m args below meth c D ca r H H0 locs cells slots A Q ls hC hE hD hP hS hl kk)
theorem gf_putI {C : String} {T : u_T} {N ci k j n idx : Nat} {dd : List Nat} {x : Int32} (hd : decode cc pc = .ok (.putfield idx, 3)) (hY : Y[k]? = some (ci + 5, n, dd)) (hc : vwCl[ci]? = some (C, T, N)) (hin : ∀ w ∈ u_ws C T N, w ∈ GW) (ty0 : Nat → FieldType) (hty : ∀ k, k < N → parseFieldDescriptor (T k).2.2.1 = some (ty0 k)) (hnm : ∀ a, a < N → ∀ b, b < N → a ≠ b → (T a).2.1 ≠ (T b).2.1) (hj : j < N) (hlk0 : Cond.fieldLink y.cls idx (T j).1 (T j).2.1 (T j).2.2.1 ∈ GW) (hfin : (T j).2.2.2 = false) (hpd : parseFieldDescriptor (T j).2.2.1 = some .int) (hf : dd[j]? = some 0) (hq : pc + 3 = q) (h : GF EX Y d y cc nL rt q lv st (wi u k j x) em o) : GF EX Y d y cc nL rt pc lv (.int x :: .ref k :: st) u em o := by
  subst hq
  intro z u' eo
  intro p l e R s m args below meth c D ca r H H0 locs cells slots A Q ls hC hE hD hP hS hl kk
  obtain ⟨hx, hb, hml, hr, hlk, hown, hts, hnw, hK, hfr, hlo, hce, hsl⟩ := id hC
  have hlen : j < (xfs r u k 0 dd).length := by
    have h1 : (xfs r u k 0 dd)[j]? = some (xf r u k (0 + j) 0) := by rw [xfs_get, hf]; rfl
    exact (List.getElem?_eq_some_iff.mp h1).1
  refine va_put (v := .int x) hx hb hts hin ty0 hty hnm hown hK hP (hD.D ca u) hS k (xw_obj hY) hc j hj (hts _ hlk0) (fun _ h9 => h9) hfin hpd rfl rfl hlen hd (fun H1 locs1 hP1 _ hS1 => ?_)
  have e1 : (xfs r u k 0 dd).set j (.int x) = xfs r (wi u k j x) k 0 dd := xfs_set hf (by show Value.int x = Value.int _; simp [mi, ml, wi, wl]) (fun b hb => by simp [mi, wi, wl, hb]) (fun b hb => by simp [ml, wi, wl, hb])
  rw [e1, xw_set (u' := wi u k j x) hY (by rw [xe, if_neg (by simp only; omega), if_neg (by simp only; omega)]; rfl) (fun a ha => by funext b; simp [mi, wi, wl, ha]) (fun a ha => by funext b; simp [ml, wi, wl, ha])] at hP1
  exact h z u' eo p l e R s m args below meth c D ca r H1 H0 locs1 cells slots A Q ls hC hE hD hP1 hS1 hl kk
theorem gf_putL {C : String} {T : u_T} {N ci k j n idx : Nat} {dd : List Nat} {x : Int64} (hd : decode cc pc = .ok (.putfield idx, 3)) (hY : Y[k]? = some (ci + 5, n, dd)) (hc : vwCl[ci]? = some (C, T, N)) (hin : ∀ w ∈ u_ws C T N, w ∈ GW) (ty0 : Nat → FieldType) (hty : ∀ k, k < N → parseFieldDescriptor (T k).2.2.1 = some (ty0 k)) (hnm : ∀ a, a < N → ∀ b, b < N → a ≠ b → (T a).2.1 ≠ (T b).2.1) (hj : j < N) (hlk0 : Cond.fieldLink y.cls idx (T j).1 (T j).2.1 (T j).2.2.1 ∈ GW) (hfin : (T j).2.2.2 = false) (hpd : parseFieldDescriptor (T j).2.2.1 = some .long) (hf : dd[j]? = some 1) (hq : pc + 3 = q) (h : GF EX Y d y cc nL rt q lv st (wl u k j x) em o) : GF EX Y d y cc nL rt pc lv (.long x :: .ref k :: st) u em o := by
  subst hq
  intro z u' eo
  intro p l e R s m args below meth c D ca r H H0 locs cells slots A Q ls hC hE hD hP hS hl kk
  obtain ⟨hx, hb, hml, hr, hlk, hown, hts, hnw, hK, hfr, hlo, hce, hsl⟩ := id hC
  have hlen : j < (xfs r u k 0 dd).length := by
    have h1 : (xfs r u k 0 dd)[j]? = some (xf r u k (0 + j) 1) := by rw [xfs_get, hf]; rfl
    exact (List.getElem?_eq_some_iff.mp h1).1
  refine va_put (v := .long x) hx hb hts hin ty0 hty hnm hown hK hP (hD.D ca u) hS k (xw_obj hY) hc j hj (hts _ hlk0) (fun _ h9 => h9) hfin hpd rfl rfl hlen hd (fun H1 locs1 hP1 _ hS1 => ?_)
  have e1 : (xfs r u k 0 dd).set j (.long x) = xfs r (wl u k j x) k 0 dd := xfs_set hf (by show Value.long x = Value.long _; simp [mi, ml, wi, wl]) (fun b hb => by simp [mi, wi, wl, hb]) (fun b hb => by simp [ml, wi, wl, hb])
  rw [e1, xw_set (u' := wl u k j x) hY (by rw [xe, if_neg (by simp only; omega), if_neg (by simp only; omega)]; rfl) (fun a ha => by funext b; simp [mi, wi, wl, ha]) (fun a ha => by funext b; simp [ml, wi, wl, ha])] at hP1
  exact h z u' eo p l e R s m args below meth c D ca r H1 H0 locs1 cells slots A Q ls hC hE hD hP1 hS1 hl kk
end XRows
/-- the cell is an array of tag t, and i is one of its places -/
def ain (Y : List XS) (t k : Nat) (i : Int32) : Bool := match Y[k]? with
  | some (t', n, _) => t' == t && decide (0 ≤ i) && decide (i.toNatClampNeg < n)
  | none => false
def alen (Y : List XS) (t k : Nat) : Option Nat := match Y[k]? with
  | some (t', n, _) => if t' = t then some n else none
  | none => none
theorem ain_spec {Y : List XS} {t k : Nat} {i : Int32} (h : ain Y t k i = true) : ∃ (n : Nat) (dd : List Nat), Y[k]? = some (t, n, dd) ∧ vp_in i n := by
  unfold ain at h
  cases hY : Y[k]? with
  | none => rw [hY] at h; cases h
  | some sh =>
    obtain ⟨t', n, dd⟩ := sh
    rw [hY] at h
    simp only [Bool.and_eq_true, beq_iff_eq, decide_eq_true_eq] at h
    obtain ⟨⟨h1, h2⟩, h3⟩ := h
    subst h1
    exact ⟨n, dd, rfl, fun q => q.elim (fun q => by have := Int32.not_le.mpr q; exact this h2) (fun q => by omega)⟩
theorem alen_spec {Y : List XS} {t k n : Nat} (h : alen Y t k = some n) : ∃ (dd : List Nat), Y[k]? = some (t, n, dd) := by
  unfold alen at h
  cases hY : Y[k]? with
  | none => rw [hY] at h; cases h
  | some sh =>
    obtain ⟨t', n', dd⟩ := sh
    rw [hY] at h
    by_cases ht : t' = t
    · subst ht
      simp at h
      subst h
      exact ⟨dd, rfl⟩
    · simp [ht] at h
section XRows2
variable {EX : State → Heap → (Nat → Prop) → (Nat → Nat) → Prop} {Y : List XS} {d : Nat} {y : MethodName} {cc : ByteArray} {nL : Nat} {rt : Option FieldType} {pc q : Nat} {lv lv2 : List (Option Value)} {st : List Value} {u : XM} {τ : Type} {em : τ → Option Value} {o : Option (τ × XM)}
theorem gf_iald {k : Nat} {i : Int32} (hd : decode cc pc = .ok (.iaload, 1)) (hq : pc + 1 = q) (h : GF EX Y d y cc nL rt q lv (.int (mi u k i.toNatClampNeg) :: st) u em o) : GF EX Y d y cc nL rt pc lv (.int i :: .ref k :: st) u em (if ain Y 0 k i = true then o else none) := by
  subst hq
  intro z u' eo
  by_cases hc : ain Y 0 k i = true
  · rw [if_pos hc] at eo
    obtain ⟨n, dd, hY, hin⟩ := ain_spec hc
    intro p l e R s m args below meth c D ca r H H0 locs cells slots A Q ls hC hE hD hP hS hl kk
    obtain ⟨hx, hb, hml, hr, hlk, hown, hts, hnw, hK, hfr, hlo, hce, hsl⟩ := id hC
    exact va_iald hx hb hK hP k 0 (xw_arr (by decide) hY) rfl hin hd (h z u' eo p l e R s m args below meth c D ca r H H0 locs cells slots A Q ls hC hE hD hP hS hl kk)
  · rw [if_neg hc] at eo; cases eo
theorem gf_bald {k : Nat} {i : Int32} (hd : decode cc pc = .ok (.baload, 1)) (hq : pc + 1 = q) (h : GF EX Y d y cc nL rt q lv (.int (mi u k i.toNatClampNeg) :: st) u em o) : GF EX Y d y cc nL rt pc lv (.int i :: .ref k :: st) u em (if ain Y 1 k i = true then o else none) := by
  subst hq
  intro z u' eo
  by_cases hc : ain Y 1 k i = true
  · rw [if_pos hc] at eo
    obtain ⟨n, dd, hY, hin⟩ := ain_spec hc
    intro p l e R s m args below meth c D ca r H H0 locs cells slots A Q ls hC hE hD hP hS hl kk
    obtain ⟨hx, hb, hml, hr, hlk, hown, hts, hnw, hK, hfr, hlo, hce, hsl⟩ := id hC
    exact va_bald hx hb hK hP k 1 (xw_arr (by decide) hY) rfl hin hd (h z u' eo p l e R s m args below meth c D ca r H H0 locs cells slots A Q ls hC hE hD hP hS hl kk)
  · rw [if_neg hc] at eo; cases eo
theorem gf_zald {k : Nat} {i : Int32} (hd : decode cc pc = .ok (.baload, 1)) (hq : pc + 1 = q) (h : GF EX Y d y cc nL rt q lv (.int (mi u k i.toNatClampNeg) :: st) u em o) : GF EX Y d y cc nL rt pc lv (.int i :: .ref k :: st) u em (if ain Y 2 k i = true then o else none) := by
  subst hq
  intro z u' eo
  by_cases hc : ain Y 2 k i = true
  · rw [if_pos hc] at eo
    obtain ⟨n, dd, hY, hin⟩ := ain_spec hc
    intro p l e R s m args below meth c D ca r H H0 locs cells slots A Q ls hC hE hD hP hS hl kk
    obtain ⟨hx, hb, hml, hr, hlk, hown, hts, hnw, hK, hfr, hlo, hce, hsl⟩ := id hC
    exact va_zald hx hb hK hP k 2 (xw_arr (by decide) hY) rfl hin hd (h z u' eo p l e R s m args below meth c D ca r H H0 locs cells slots A Q ls hC hE hD hP hS hl kk)
  · rw [if_neg hc] at eo; cases eo
theorem gf_iast {k : Nat} {i x : Int32} (hd : decode cc pc = .ok (.iastore, 1)) (hq : pc + 1 = q) (h : GF EX Y d y cc nL rt q lv st (wi u k i.toNatClampNeg x) em o) : GF EX Y d y cc nL rt pc lv (.int x :: .int i :: .ref k :: st) u em (if ain Y 0 k i = true then o else none) := by
  subst hq
  intro z u' eo
  by_cases hc : ain Y 0 k i = true
  · rw [if_pos hc] at eo
    obtain ⟨n, dd, hY, hin⟩ := ain_spec hc
    intro p l e R s m args below meth c D ca r H H0 locs cells slots A Q ls hC hE hD hP hS hl kk
    obtain ⟨hx, hb, hml, hr, hlk, hown, hts, hnw, hK, hfr, hlo, hce, hsl⟩ := id hC
    refine va_iast hx hb hK hP (hD.D ca u) hS k 0 (xw_arr (by decide) hY) rfl hin hd (fun H1 locs1 hP1 _ hS1 => ?_)
    rw [xw_set (u' := wi u k i.toNatClampNeg x) hY (by rw [xe, if_pos (show (0 : Nat) < 3 by decide), xmi_wi]) (fun a ha => xmi_ne ha) (fun a ha => rfl)] at hP1
    exact h z u' eo p l e R s m args below meth c D ca r H1 H0 locs1 cells slots A Q ls hC hE hD hP1 hS1 hl kk
  · rw [if_neg hc] at eo; cases eo
theorem gf_bast {k : Nat} {i x : Int32} (hd : decode cc pc = .ok (.bastore, 1)) (hq : pc + 1 = q) (h : GF EX Y d y cc nL rt q lv st (wi u k i.toNatClampNeg (vp_nar .byte x)) em o) : GF EX Y d y cc nL rt pc lv (.int x :: .int i :: .ref k :: st) u em (if ain Y 1 k i = true then o else none) := by
  subst hq
  intro z u' eo
  by_cases hc : ain Y 1 k i = true
  · rw [if_pos hc] at eo
    obtain ⟨n, dd, hY, hin⟩ := ain_spec hc
    intro p l e R s m args below meth c D ca r H H0 locs cells slots A Q ls hC hE hD hP hS hl kk
    obtain ⟨hx, hb, hml, hr, hlk, hown, hts, hnw, hK, hfr, hlo, hce, hsl⟩ := id hC
    refine va_bast hx hb hK hP (hD.D ca u) hS k 1 (xw_arr (by decide) hY) rfl hin hd (fun H1 locs1 hP1 _ hS1 => ?_)
    rw [xw_set (u' := wi u k i.toNatClampNeg (vp_nar .byte x)) hY (by rw [xe, if_pos (show (1 : Nat) < 3 by decide), xmi_wi]) (fun a ha => xmi_ne ha) (fun a ha => rfl)] at hP1
    exact h z u' eo p l e R s m args below meth c D ca r H1 H0 locs1 cells slots A Q ls hC hE hD hP1 hS1 hl kk
  · rw [if_neg hc] at eo; cases eo
theorem gf_zast {k : Nat} {i x : Int32} (hd : decode cc pc = .ok (.bastore, 1)) (hq : pc + 1 = q) (h : GF EX Y d y cc nL rt q lv st (wi u k i.toNatClampNeg (vp_nar .boolean x)) em o) : GF EX Y d y cc nL rt pc lv (.int x :: .int i :: .ref k :: st) u em (if ain Y 2 k i = true then o else none) := by
  subst hq
  intro z u' eo
  by_cases hc : ain Y 2 k i = true
  · rw [if_pos hc] at eo
    obtain ⟨n, dd, hY, hin⟩ := ain_spec hc
    intro p l e R s m args below meth c D ca r H H0 locs cells slots A Q ls hC hE hD hP hS hl kk
    obtain ⟨hx, hb, hml, hr, hlk, hown, hts, hnw, hK, hfr, hlo, hce, hsl⟩ := id hC
    refine va_zast hx hb hK hP (hD.D ca u) hS k 2 (xw_arr (by decide) hY) rfl hin hd (fun H1 locs1 hP1 _ hS1 => ?_)
    rw [xw_set (u' := wi u k i.toNatClampNeg (vp_nar .boolean x)) hY (by rw [xe, if_pos (show (2 : Nat) < 3 by decide), xmi_wi]) (fun a ha => xmi_ne ha) (fun a ha => rfl)] at hP1
    exact h z u' eo p l e R s m args below meth c D ca r H1 H0 locs1 cells slots A Q ls hC hE hD hP1 hS1 hl kk
  · rw [if_neg hc] at eo; cases eo
theorem gf_aald3 {k n b : Nat} {i : Int32} (hd : decode cc pc = .ok (.aaload, 1)) (hY : Y[k]? = some (3, n, [b])) (hq : pc + 1 = q) (h : GF EX Y d y cc nL rt q lv (.ref (b + i.toNatClampNeg) :: st) u em o) : GF EX Y d y cc nL rt pc lv (.int i :: .ref k :: st) u em (if ain Y 3 k i = true then o else none) := by
  subst hq
  intro z u' eo
  by_cases hc : ain Y 3 k i = true
  · rw [if_pos hc] at eo
    obtain ⟨n', dd, hY', hin⟩ := ain_spec hc
    rw [hY] at hY'
    cases hY'
    intro p l e R s m args below meth c D ca r H H0 locs cells slots A Q ls hC hE hD hP hS hl kk
    obtain ⟨hx, hb, hml, hr, hlk, hown, hts, hnw, hK, hfr, hlo, hce, hsl⟩ := id hC
    have hlt : i.toNatClampNeg < n := Nat.not_le.mp fun q => hin (Or.inr q)
    refine W.aald (v := .ref (r (b + i.toNatClampNeg))) (ty := .array .int) hx hb (hP k _ (xw_row (by decide) (by decide) hY)) ((hK.2 3 _ rfl).1 n (fun j => va_rf (if j < n then some (r (b + j)) else none))) rfl (fun q => by cases q) (by show ¬ (i < 0 ∨ (arrV _ _ _).slots.size ≤ _); rw [arrV_size]; exact hin) (by show (arrV _ _ _).slots[_]? = _; rw [arrV_read _ _ hlt]; simp [hlt, va_rf]) rfl rfl hd (h z u' eo p l e R s m args below meth c D ca r H H0 locs cells slots A Q ls hC hE hD hP hS hl kk)
  · rw [if_neg hc] at eo; cases eo
theorem gf_aald4 {k n b : Nat} {i : Int32} (hd : decode cc pc = .ok (.aaload, 1)) (hY : Y[k]? = some (4, n, [b])) (hq : pc + 1 = q) (h : GF EX Y d y cc nL rt q lv (.ref (b + i.toNatClampNeg) :: st) u em o) : GF EX Y d y cc nL rt pc lv (.int i :: .ref k :: st) u em (if ain Y 4 k i = true then o else none) := by
  subst hq
  intro z u' eo
  by_cases hc : ain Y 4 k i = true
  · rw [if_pos hc] at eo
    obtain ⟨n', dd, hY', hin⟩ := ain_spec hc
    rw [hY] at hY'
    cases hY'
    intro p l e R s m args below meth c D ca r H H0 locs cells slots A Q ls hC hE hD hP hS hl kk
    obtain ⟨hx, hb, hml, hr, hlk, hown, hts, hnw, hK, hfr, hlo, hce, hsl⟩ := id hC
    have hlt : i.toNatClampNeg < n := Nat.not_le.mp fun q => hin (Or.inr q)
    refine W.aald (v := .ref (r (b + i.toNatClampNeg))) (ty := .array .byte) hx hb (hP k _ (xw_row (by decide) (by decide) hY)) ((hK.2 4 _ rfl).1 n (fun j => va_rf (if j < n then some (r (b + j)) else none))) rfl (fun q => by cases q) (by show ¬ (i < 0 ∨ (arrV _ _ _).slots.size ≤ _); rw [arrV_size]; exact hin) (by show (arrV _ _ _).slots[_]? = _; rw [arrV_read _ _ hlt]; simp [hlt, va_rf]) rfl rfl hd (h z u' eo p l e R s m args below meth c D ca r H H0 locs cells slots A Q ls hC hE hD hP hS hl kk)
  · rw [if_neg hc] at eo; cases eo
theorem gf_alen0 {k n : Nat} {dd : List Nat} (hd : decode cc pc = .ok (.arraylength, 1)) (hY : Y[k]? = some (0, n, dd)) {v : Int32} (hv : Int32.ofNat n = v) (hq : pc + 1 = q) (h : GF EX Y d y cc nL rt q lv (.int v :: st) u em o) : GF EX Y d y cc nL rt pc lv (.ref k :: st) u em o := by
  subst hq
  intro z u' eo
  intro p l e R s m args below meth c D ca r H H0 locs cells slots A Q ls hC hE hD hP hS hl kk
  obtain ⟨hx, hb, hml, hr, hlk, hown, hts, hnw, hK, hfr, hlo, hce, hsl⟩ := id hC
  exact va_alen hx hb hK hP k 0 (xw_arr (by decide) hY) rfl hv hd (h z u' eo p l e R s m args below meth c D ca r H H0 locs cells slots A Q ls hC hE hD hP hS hl kk)
theorem gf_alenS0 {k : Nat} {f : Int32 → Option (τ × XM)} (hd : decode cc pc = .ok (.arraylength, 1)) (hq : pc + 1 = q) (h : ∀ n : Nat, GF EX Y d y cc nL rt q lv (.int (nI n) :: st) u em (f (nI n))) : GF EX Y d y cc nL rt pc lv (.ref k :: st) u em ((alen Y 0 k).bind (fun n => f (nI n))) := by
  cases ha : alen Y 0 k with
  | none => intro z u' eo; cases eo
  | some n =>
    obtain ⟨dd, hY⟩ := alen_spec ha
    exact gf_alen0 hd hY rfl hq (h n)
theorem gf_alen1 {k n : Nat} {dd : List Nat} (hd : decode cc pc = .ok (.arraylength, 1)) (hY : Y[k]? = some (1, n, dd)) {v : Int32} (hv : Int32.ofNat n = v) (hq : pc + 1 = q) (h : GF EX Y d y cc nL rt q lv (.int v :: st) u em o) : GF EX Y d y cc nL rt pc lv (.ref k :: st) u em o := by
  subst hq
  intro z u' eo
  intro p l e R s m args below meth c D ca r H H0 locs cells slots A Q ls hC hE hD hP hS hl kk
  obtain ⟨hx, hb, hml, hr, hlk, hown, hts, hnw, hK, hfr, hlo, hce, hsl⟩ := id hC
  exact va_alen hx hb hK hP k 1 (xw_arr (by decide) hY) rfl hv hd (h z u' eo p l e R s m args below meth c D ca r H H0 locs cells slots A Q ls hC hE hD hP hS hl kk)
theorem gf_alenS1 {k : Nat} {f : Int32 → Option (τ × XM)} (hd : decode cc pc = .ok (.arraylength, 1)) (hq : pc + 1 = q) (h : ∀ n : Nat, GF EX Y d y cc nL rt q lv (.int (nI n) :: st) u em (f (nI n))) : GF EX Y d y cc nL rt pc lv (.ref k :: st) u em ((alen Y 1 k).bind (fun n => f (nI n))) := by
  cases ha : alen Y 1 k with
  | none => intro z u' eo; cases eo
  | some n =>
    obtain ⟨dd, hY⟩ := alen_spec ha
    exact gf_alen1 hd hY rfl hq (h n)
/-- fewer locals known -/
theorem gf_mask {b : List Bool} (hs : xms b lv = lv2) (h : GF EX Y d y cc nL rt pc lv2 st u em o) : GF EX Y d y cc nL rt pc lv st u em o := by
  subst hs
  intro z u' eo
  intro p l e R s m args below meth c D ca r H H0 locs cells slots A Q ls hC hE hD hP hS hl kk
  obtain ⟨hx, hb, hml, hr, hlk, hown, hts, hnw, hK, hfr, hlo, hce, hsl⟩ := id hC
  exact h z u' eo p l e R s m args below meth c D ca r H H0 locs cells slots A Q ls hC hE hD hP hS ⟨hl.1, hl.2.1, fun i v hv => hl.2.2 i v (xms_get _ _ _ _ hv)⟩ kk
theorem gf_none : GF EX Y d y cc nL rt pc lv st u em none := fun _ _ eo => by cases eo
theorem gf_eq {o2 : Option (τ × XM)} (ho : o2 = o) (h : GF EX Y d y cc nL rt pc lv st u em o) : GF EX Y d y cc nL rt pc lv st u em o2 := ho ▸ h
theorem gf_reti {x : Int32} (hd : decode cc pc = .ok (.ireturn, 1)) (hrt : rt = some .int) : GF EX Y d y cc nL rt pc lv [.int x] u emI (some (x, u)) := by
  intro z u' eo
  cases eo
  intro p l e R s m args below meth c D ca r H H0 locs cells slots A Q ls hC hE hD hP hS hl kk
  obtain ⟨hx, hb, hml, hr, hlk, hown, hts, hnw, hK, hfr, hlo, hce, hsl⟩ := id hC
  exact kk (some (.int x)) u H locs pc ls ⟨rfl, rfl⟩ hP hS ⟨hd, .int, hrt, rfl⟩
theorem gf_retz {x : Int32} (hd : decode cc pc = .ok (.ireturn, 1)) (hrt : rt = some .boolean) (hz : narrow .boolean (.int x) = .int x) : GF EX Y d y cc nL rt pc lv [.int x] u emI (some (x, u)) := by
  intro z u' eo
  cases eo
  intro p l e R s m args below meth c D ca r H H0 locs cells slots A Q ls hC hE hD hP hS hl kk
  obtain ⟨hx, hb, hml, hr, hlk, hown, hts, hnw, hK, hfr, hlo, hce, hsl⟩ := id hC
  exact kk (some (.int x)) u H locs pc ls ⟨rfl, rfl⟩ hP hS ⟨hd, .boolean, hrt, hz⟩
theorem gf_retb {x : Int32} (hd : decode cc pc = .ok (.ireturn, 1)) (hrt : rt = some .boolean) : GF EX Y d y cc nL rt pc lv [.int x] u emI (if vp_nar .boolean x = x then some (x, u) else none) := by
  by_cases hz : vp_nar .boolean x = x
  · rw [if_pos hz]
    exact gf_retz hd hrt (by
      show Value.int (vp_nar .boolean x) = _
      rw [hz])
  · rw [if_neg hz]
    exact gf_none
theorem gf_retl {x : Int64} (hd : decode cc pc = .ok (.lreturn, 1)) (hrt : rt = some .long) : GF EX Y d y cc nL rt pc lv [.long x] u emL (some (x, u)) := by
  intro z u' eo
  cases eo
  intro p l e R s m args below meth c D ca r H H0 locs cells slots A Q ls hC hE hD hP hS hl kk
  obtain ⟨hx, hb, hml, hr, hlk, hown, hts, hnw, hK, hfr, hlo, hce, hsl⟩ := id hC
  exact kk (some (.long x)) u H locs pc ls ⟨rfl, rfl⟩ hP hS ⟨hd, hrt⟩
theorem gf_retv (hd : decode cc pc = .ok (.return_, 1)) (hrt : rt = none) : GF EX Y d y cc nL rt pc lv [] u emV (some ((), u)) := by
  intro z u' eo
  cases eo
  intro p l e R s m args below meth c D ca r H H0 locs cells slots A Q ls hC hE hD hP hS hl kk
  obtain ⟨hx, hb, hml, hr, hlk, hown, hts, hnw, hK, hfr, hlo, hce, hsl⟩ := id hC
  exact kk none u H locs pc ls ⟨rfl, rfl⟩ hP hS ⟨hd, hrt⟩
theorem gf_tsw {dflt lo hi : Int} {offs : Array Int} {len : Nat} {x : Int32} (hd : decode cc pc = .ok (.tableswitch dflt lo hi offs, len))
    (h1 : ¬ x.toInt < lo → ¬ hi < x.toInt → ∀ off t, offs[(x.toInt - lo).toNat]? = some off → (pc : Int) + off = ((t : Nat) : Int) → GF EX Y d y cc nL rt t lv st u em o)
    (ht : ¬ x.toInt < lo → ¬ hi < x.toInt → ∃ off t, offs[(x.toInt - lo).toNat]? = some off ∧ (pc : Int) + off = ((t : Nat) : Int))
    {t0 : Nat} (ht0 : (pc : Int) + dflt = (t0 : Int)) (h2 : x.toInt < lo ∨ hi < x.toInt → GF EX Y d y cc nL rt t0 lv st u em o) : GF EX Y d y cc nL rt pc lv (.int x :: st) u em o := by
  by_cases hc : x.toInt < lo ∨ hi < x.toInt
  · have h := h2 hc
    intro z u' eo
    intro p l e R s m args below meth c D ca r H H0 locs cells slots A Q ls hC hE hD hP hS hl kk
    obtain ⟨hx, hb, hml, hr, hlk, hown, hts, hnw, hK, hfr, hlo, hce, hsl⟩ := id hC
    exact lv_tableOut hx hb hd hc ht0 (h z u' eo p l e R s m args below meth c D ca r H H0 locs cells slots A Q ls hC hE hD hP hS hl kk)
  · have g1 : ¬ x.toInt < lo := fun q => hc (Or.inl q)
    have g2 : ¬ hi < x.toInt := fun q => hc (Or.inr q)
    obtain ⟨off, t, e1, e2⟩ := ht g1 g2
    have h := h1 g1 g2 off t e1 e2
    intro z u' eo
    intro p l e R s m args below meth c D ca r H H0 locs cells slots A Q ls hC hE hD hP hS hl kk
    obtain ⟨hx, hb, hml, hr, hlk, hown, hts, hnw, hK, hfr, hlo, hce, hsl⟩ := id hC
    exact lv_tableIn hx hb hd g1 g2 e1 e2 (h z u' eo p l e R s m args below meth c D ca r H H0 locs cells slots A Q ls hC hE hD hP hS hl kk)
end XRows2
end
section
/-! ===== calls: a method's contract out of its frame's; a call's row ===== -/
def xin (As : List Value) (nL : Nat) : List (Option Value) := (List.range nL).map (fun i => (lv_args 0 As).lookup i)
theorem lv_args_xv (r : Nat → Nat) : ∀ (As : List Value) (i : Nat), lv_args i (As.map (xv r)) = (lv_args i As).map (fun q => (q.1, xv r q.2))
  | [], _ => rfl
  | v :: vs, i => by
    show (i, xv r v) :: lv_args (if (xv r v).category = 2 then i + 2 else i + 1) (vs.map (xv r)) = (i, xv r v) :: _
    rw [xv_cat, lv_args_xv r vs]
theorem lookup_mem : ∀ (l : List (Nat × Value)) (i : Nat) (v : Value), l.lookup i = some v → (i, v) ∈ l
  | [], _, _, h => by cases h
  | (a, b) :: l, i, v, h => by
    rw [List.lookup_cons] at h
    by_cases hi : i == a
    · rw [hi] at h
      simp at h hi
      subst h; subst hi
      exact List.mem_cons_self
    · simp only [Bool.not_eq_true] at hi
      rw [hi] at h
      exact List.mem_cons_of_mem _ (lookup_mem l i v h)
theorem xin_L (r : Nat → Nat) (As : List Value) (nL : Nat) (h : (lg_sl As).length ≤ nL) : xL r nL (xin As nL) ((lg_sl (As.map (xv r)) ++ List.replicate (nL - (lg_sl (As.map (xv r))).length) Slot.unset).toArray) := by
  have hlen : (lg_sl (As.map (xv r))).length = (lg_sl As).length := by
    clear h
    induction As with
    | nil => rfl
    | cons v vs ih =>
      have e : ∀ (w : Value) (ws : List Value), (lg_sl (w :: ws)).length = (if w.category = 2 then 2 else 1) + (lg_sl ws).length := by
        intro w ws
        show (List.flatMap _ (w :: ws)).length = _
        rw [List.flatMap_cons, List.length_append]
        by_cases hc : w.category = 2 <;> simp [hc, lg_sl]
      rw [List.map_cons, e, e, ih, xv_cat]
  have h2 := lv_entry (As.map (xv r)) (n := nL) (by rw [hlen]; exact h)
  refine ⟨h2.1, h2.2.1, fun i v hv => ?_⟩
  unfold xin at hv
  rw [List.getElem?_map] at hv
  by_cases hi : i < nL
  · rw [List.getElem?_range hi] at hv
    simp only [Option.map_some, Option.some.injEq] at hv
    have h3 := lookup_mem _ _ _ hv
    refine h2.2.2 (i, xv r v) ?_
    rw [lv_args_xv]
    exact List.mem_map.mpr ⟨(i, v), h3, rfl⟩
  · rw [List.getElem?_eq_none (by simpa using hi)] at hv
    cases hv
theorem cf_of {Y : List XS} {d : Nat} {y : MethodName} {cc : ByteArray} {nL : Nat} {rt : Option FieldType} {As : List Value} {u : XM} {τ : Type} {em : τ → Option Value} {o : Option (τ × XM)} {lv : List (Option Value)} (hy : plainName y.cls = true) (hn : (lg_sl As).length ≤ nL) (hlv : xin As nL = lv)
    (h : GF E0 Y d y cc nL rt 0 lv [] u em o) : CF Y d y cc nL rt As u em o := by
  subst hlv
  intro z u' eo l D ca r
  refine Met.ofW (cc := cc) (maxL := nL) (ret := rt) hy rfl ?_
  intro p e s m args below meth c s₁ B hml hv
  obtain ⟨rfl, hnw, hK, hinj, hP⟩ := hv
  have hts := atoms_spec (ws := Cond.code y cc nL rt :: GW) B.pre
  have hlocks := B.notSynchronized
  have hl := xin_L r As nL hn
  rw [lg_entry_eq]
  generalize (lg_sl (As.map (xv r)) ++ List.replicate (nL - (lg_sl (As.map (xv r))).length) Slot.unset).toArray = ls at hl ⊢
  refine h z u' eo p l e _ s m _ below meth c D ca r s.heap s.heap [] 0 0 (xA Y r) _ ls ⟨B.exec, B.bytes, hml, B.returns, hlocks, findClass_of_methodNamed B.named, fun w hw => hts w (List.mem_cons_of_mem _ hw), hnw, hK, Nat.le_refl _, Nat.le_refl _, Nat.zero_le _, Nat.zero_le _⟩ trivial ⟨hinj, fun k hk => ⟨k, hk, rfl⟩⟩ hP va_S.rf hl ?_
  intro v u2 H' locs' pc' ls' hpost hP' hS' hR
  obtain ⟨rfl, rfl⟩ := hpost
  have hq : ∀ t : State, t.heap = H' → s.WarmedH t.vm → (Outcome.returned (em z) = .returned (em z) ∧ va_P D vwCl (xw r ca u2 0 Y) t.heap ∧ va_F (xA Y r) s t) := fun t ht _ => ⟨rfl, by rw [ht]; exact hP', hS'.F ht⟩
  generalize em z = v at hR hq ⊢
  match v, hR, hq with
  | none, hR, hq => exact W.vret B.exec B.bytes (by rw [B.returns]; exact hR.2) hq hS'.2.2 hR.1
  | some (.int x), hR, hq =>
    obtain ⟨h1, ty, h2, h3⟩ := hR
    exact W.zret B.exec B.bytes (by rw [B.returns]; exact h2) h3 hq hS'.2.2 h1
  | some (.long x), hR, hq => exact W.lret B.exec B.bytes (by rw [B.returns]; exact hR.2) hq hS'.2.2 hR.1
section XCalls
variable {EX : State → Heap → (Nat → Prop) → (Nat → Nat) → Prop} {Y : List XS} {d : Nat} {y : MethodName} {cc : ByteArray} {nL : Nat} {rt : Option FieldType} {pc q : Nat} {lv lv2 : List (Option Value)} {st : List Value} {u : XM} {τ : Type} {em : τ → Option Value} {o : Option (τ × XM)}
theorem gf_callS {y2 : MethodName} {cc2 : ByteArray} {nL2 : Nat} {rt2 : Option FieldType} {d2 idx : Nat} {τ2 : Type} {em2 : τ2 → Option Value} {o2 : Option (τ2 × XM)} {f : τ2 → XM → Option (τ × XM)} {As : List Value} {n2 : Nat} {hlen : As.length = n2} (hlk0 : Cond.methodLink y.cls idx y2 ∈ GW) (hstt : Cond.static y2 ∈ GW) (hd : decode cc pc = .ok (.invokestatic idx, 3)) (hcd : Cond.code y2 cc2 nL2 rt2 ∈ GW) (hini : Cond.initialized y2.cls ∈ GW) (hsd : (decide (y2.cls ≠ "java/lang/invoke/MethodHandle") && decide (y2.cls ≠ "java/lang/invoke/VarHandle") && (parseMethodDescriptor y2.desc).map (fun x => x.parameters.length) == some n2 && Nat.ble nL2 45) = true) (hd2 : d2 < d) (hrm : (st.map fun v => v.category).sum ≤ 8) (hem : ∀ x, (em2 x).toList.map (xv (fun k => k)) = (em2 x).toList ∧ ∀ r, (em2 x).toList.map (xv r) = (em2 x).toList) (hc : CF Y d2 y2 cc2 nL2 rt2 (As) u em2 o2) (hq : pc + 3 = q) (h : ∀ x u1, GF EX Y d y cc nL rt q lv ((em2 x).toList ++ st) u1 em (f x u1)) : GF EX Y d y cc nL rt pc lv (As.reverse ++ st) u em (o2.bind (fun x => f x.1 x.2)) := by
  subst hq
  intro z u' eo
  have hem := fun x => (hem x).2
  cases ho : o2 with
  | none => rw [ho] at eo; cases eo
  | some w =>
    obtain ⟨r2, u1⟩ := w
    rw [ho] at eo
    have eo : f r2 u1 = some (z, u') := eo
    simp only [Bool.and_eq_true, decide_eq_true_eq, beq_iff_eq] at hsd
    obtain ⟨⟨⟨hs1, hs2⟩, hs3⟩, hs4⟩ := hsd
    have hs4 := Nat.le_of_ble_eq_true hs4
    intro p l e R s m args below meth c D ca r H H0 locs cells slots A Q ls hC hE hD hP hS hl kk
    obtain ⟨hx, hb, hml, hr, hlk, hown, hts, hnw, hK, hfr, hlo, hce, hsl⟩ := id hC
    have hem := fun x => hem x r
    have hM := hc r2 u1 ho l D ca r
    have hrun := va_runS (g := F0 m pc ls ((As.reverse ++ st).map (xv r))) (As := As.map (xv r)) (rest := st.map (xv r)) (locs := locs) (n := n2) (e := e) (R := R) (below := below) (meth := meth) (cells := cells) (slots := slots) (H := H) ⟨hx, hb, hml, hown, hts⟩ hM ⟨callB_of n2 hts (gw_good hcd) rfl rfl rfl (hts _ hini) (hts _ hlk0) ⟨hs1, hs2, hs3⟩ ⟨Nat.le_trans hd2 hfr, by show 8 + (nL2 + 11) + 64 * d2 ≤ R.locals; omega⟩, hts _ hstt⟩ ⟨fun a U g mk q => by obtain ⟨q0, q1, q2, q3, q4⟩ := q; exact ⟨q0, q1.same rfl, va_K.moved (u := U) (U := U.calling g mk a) (Vm.Alike.refl U.vm) q2, q3, q4⟩, fun U hU hW => ⟨rfl, hnw.warm hW, va_K.moved hW.alike hK, hD.1, by rw [hU]; exact hP⟩⟩ rfl (by rw [List.length_map]; exact hlen) hl.1 (by show List.map _ _ = _; rw [List.map_append, List.map_reverse]) (lv_room (by rw [List.map_map]; simpa [Function.comp_def, xv_cat] using hrm)) hd ⟨hce, hsl⟩
    intro T hT X
    obtain ⟨v, st₀, t, T', L, h0, X', hL, e1, e2, ⟨hv, hP1, hF⟩, stp⟩ := hrun T hT X
    cases hv
    have hP1 : va_P D vwCl (xw r ca u1 0 Y) T'.heap := by rw [e1]; exact hP1
    have hS1 : va_S A H0 T'.heap (locs ++ L) := by
      refine ⟨Nat.le_trans hS.1 (by rw [e1, ← h0]; exact hF.1), fun q h1 h2 => ?_, fun q hq => ?_⟩
      · have hlt : q < H.size := Nat.lt_of_lt_of_le h1 hS.1
        have hn : ¬ xA Y r q := fun ⟨k, hk, e⟩ => h2 (by rw [e]; exact hD.2 k hk)
        rw [e1, hF.2 q (by rw [h0]; exact hlt) hn, h0]
        exact hS.2.1 q h1 h2
      · rcases List.mem_append.mp hq with h | h
        · exact hS.2.2 q h
        · obtain ⟨k, hk, e⟩ := hL q h
          rw [e]
          exact hD.2 k hk
    have hst : ((em2 r2).toList ++ st.map (xv r)) = ((em2 r2).toList ++ st).map (xv r) := by
      rw [List.map_append]
      congr 1
      rw [hem r2]
    have hW2 := h r2 u1 z u' eo p l e R s m args below meth c D ca r T'.heap H0 (locs ++ L) cells slots A Q ls hC hE hD hP1 hS1 hl kk
    rw [← hst] at hW2
    obtain ⟨t2, a1, b1⟩ := hW2 T' rfl X'
    exact ⟨t2, stp t2 a1, b1⟩
theorem gf_callSN {y2 : MethodName} {cc2 : ByteArray} {nL2 : Nat} {rt2 : Option FieldType} {d2 idx : Nat} {τ2 : Type} {em2 : τ2 → Option Value} {o2 : Option (τ2 × XM)} {f : τ2 → XM → Option (τ × XM)} {As : List Value} {n2 : Nat} {host : String} {hlen : As.length = n2} (hlk0 : Cond.methodLinkNest y.cls idx y2 host ∈ tables_1) (hstt : Cond.static y2 ∈ GW) (hd : decode cc pc = .ok (.invokestatic idx, 3)) (hcd : Cond.code y2 cc2 nL2 rt2 ∈ GW) (hini : Cond.initialized y2.cls ∈ GW) (hsd : (decide (y2.cls ≠ "java/lang/invoke/MethodHandle") && decide (y2.cls ≠ "java/lang/invoke/VarHandle") && (parseMethodDescriptor y2.desc).map (fun x => x.parameters.length) == some n2 && Nat.ble nL2 45) = true) (hd2 : d2 < d) (hrm : (st.map fun v => v.category).sum ≤ 8) (hem : ∀ x, (em2 x).toList.map (xv (fun k => k)) = (em2 x).toList ∧ ∀ r, (em2 x).toList.map (xv r) = (em2 x).toList) (hc : CF Y d2 y2 cc2 nL2 rt2 (As) u em2 o2) (hq : pc + 3 = q) (h : ∀ x u1, GF EX Y d y cc nL rt q lv ((em2 x).toList ++ st) u1 em (f x u1)) : GF EX Y d y cc nL rt pc lv (As.reverse ++ st) u em (o2.bind (fun x => f x.1 x.2)) := by
  subst hq
  intro z u' eo
  have hem := fun x => (hem x).2
  cases ho : o2 with
  | none => rw [ho] at eo; cases eo
  | some w =>
    obtain ⟨r2, u1⟩ := w
    rw [ho] at eo
    have eo : f r2 u1 = some (z, u') := eo
    simp only [Bool.and_eq_true, decide_eq_true_eq, beq_iff_eq] at hsd
    obtain ⟨⟨⟨hs1, hs2⟩, hs3⟩, hs4⟩ := hsd
    have hs4 := Nat.le_of_ble_eq_true hs4
    intro p l e R s m args below meth c D ca r H H0 locs cells slots A Q ls hC hE hD hP hS hl kk
    obtain ⟨hx, hb, hml, hr, hlk, hown, hts, hnw, hK, hfr, hlo, hce, hsl⟩ := id hC
    have hem := fun x => hem x r
    have hM := hc r2 u1 ho l D ca r
    have hrun := va_runSN (g := F0 m pc ls ((As.reverse ++ st).map (xv r))) (As := As.map (xv r)) (rest := st.map (xv r)) (locs := locs) (n := n2) (e := e) (R := R) (below := below) (meth := meth) (cells := cells) (slots := slots) (H := H) (Ts := GW) ⟨hx, hb, hml, hown, hts⟩ hM ⟨va_cnB n2 hts (gw_good hcd) rfl rfl rfl (hnw _ _ _ _ hlk0) (hts _ hini) ⟨hs1, hs2, hs3⟩ ⟨Nat.le_trans hd2 hfr, by show 8 + (nL2 + 11) + 64 * d2 ≤ R.locals; omega⟩, hts _ hstt, trivial⟩ ⟨fun a U g mk q => by obtain ⟨q0, q1, q2, q3, q4⟩ := q; exact ⟨q0, q1.same rfl, va_K.moved (u := U) (U := U.calling g mk a) (Vm.Alike.refl U.vm) q2, q3, q4⟩, fun U hU hW => ⟨rfl, hnw.warm hW, va_K.moved hW.alike hK, hD.1, by rw [hU]; exact hP⟩⟩ rfl (by rw [List.length_map]; exact hlen) hl.1 (by show List.map _ _ = _; rw [List.map_append, List.map_reverse]) (lv_room (by rw [List.map_map]; simpa [Function.comp_def, xv_cat] using hrm)) hd ⟨hce, hsl⟩
    intro T hT X
    obtain ⟨v, st₀, t, T', L, h0, X', hL, e1, e2, ⟨hv, hP1, hF⟩, stp⟩ := hrun T hT X
    cases hv
    have hP1 : va_P D vwCl (xw r ca u1 0 Y) T'.heap := by rw [e1]; exact hP1
    have hS1 : va_S A H0 T'.heap (locs ++ L) := by
      refine ⟨Nat.le_trans hS.1 (by rw [e1, ← h0]; exact hF.1), fun q h1 h2 => ?_, fun q hq => ?_⟩
      · have hlt : q < H.size := Nat.lt_of_lt_of_le h1 hS.1
        have hn : ¬ xA Y r q := fun ⟨k, hk, e⟩ => h2 (by rw [e]; exact hD.2 k hk)
        rw [e1, hF.2 q (by rw [h0]; exact hlt) hn, h0]
        exact hS.2.1 q h1 h2
      · rcases List.mem_append.mp hq with h | h
        · exact hS.2.2 q h
        · obtain ⟨k, hk, e⟩ := hL q h
          rw [e]
          exact hD.2 k hk
    have hst : ((em2 r2).toList ++ st.map (xv r)) = ((em2 r2).toList ++ st).map (xv r) := by
      rw [List.map_append]
      congr 1
      rw [hem r2]
    have hW2 := h r2 u1 z u' eo p l e R s m args below meth c D ca r T'.heap H0 (locs ++ L) cells slots A Q ls hC hE hD hP1 hS1 hl kk
    rw [← hst] at hW2
    obtain ⟨t2, a1, b1⟩ := hW2 T' rfl X'
    exact ⟨t2, stp t2 a1, b1⟩
theorem gf_callV {y2 : MethodName} {cc2 : ByteArray} {nL2 : Nat} {rt2 : Option FieldType} {d2 idx : Nat} {τ2 : Type} {em2 : τ2 → Option Value} {o2 : Option (τ2 × XM)} {f : τ2 → XM → Option (τ × XM)} {As : List Value} {n2 : Nat} {b ci nb N : Nat} {C : String} {T : u_T} {db : List Nat} {hlen : As.length = n2} (hY : Y[b]? = some (ci + 5, nb, db)) (hcl : vwCl[ci]? = some (C, T, N)) (hlk0 : Cond.methodLink y.cls idx y2 ∈ GW) (hins : Cond.instanceMethod y2 ∈ GW) (hsel : Cond.selects C y2 y2 ∈ GW) (hd : decode cc pc = .ok (.invokevirtual idx, 3)) (hcd : Cond.code y2 cc2 nL2 rt2 ∈ GW) (hini : Cond.initialized y2.cls ∈ GW) (hsd : (decide (y2.cls ≠ "java/lang/invoke/MethodHandle") && decide (y2.cls ≠ "java/lang/invoke/VarHandle") && (parseMethodDescriptor y2.desc).map (fun x => x.parameters.length) == some n2 && Nat.ble nL2 45) = true) (hd2 : d2 < d) (hrm : (st.map fun v => v.category).sum ≤ 8) (hem : ∀ x, (em2 x).toList.map (xv (fun k => k)) = (em2 x).toList ∧ ∀ r, (em2 x).toList.map (xv r) = (em2 x).toList) (hc : CF Y d2 y2 cc2 nL2 rt2 (.ref b :: As) u em2 o2) (hq : pc + 3 = q) (h : ∀ x u1, GF EX Y d y cc nL rt q lv ((em2 x).toList ++ st) u1 em (f x u1)) : GF EX Y d y cc nL rt pc lv (As.reverse ++ .ref b :: st) u em (o2.bind (fun x => f x.1 x.2)) := by
  subst hq
  intro z u' eo
  have hem := fun x => (hem x).2
  cases ho : o2 with
  | none => rw [ho] at eo; cases eo
  | some w =>
    obtain ⟨r2, u1⟩ := w
    rw [ho] at eo
    have eo : f r2 u1 = some (z, u') := eo
    simp only [Bool.and_eq_true, decide_eq_true_eq, beq_iff_eq] at hsd
    obtain ⟨⟨⟨hs1, hs2⟩, hs3⟩, hs4⟩ := hsd
    have hs4 := Nat.le_of_ble_eq_true hs4
    intro p l e R s m args below meth c D ca r H H0 locs cells slots A Q ls hC hE hD hP hS hl kk
    obtain ⟨hx, hb, hml, hr, hlk, hown, hts, hnw, hK, hfr, hlo, hce, hsl⟩ := id hC
    have hem := fun x => hem x r
    have hM := hc r2 u1 ho l D ca r
    have hrun := va_runV (g := F0 m pc ls ((As.reverse ++ .ref b :: st).map (xv r))) (b := r b) (C := C) (As := As.map (xv r)) (rest := st.map (xv r)) (locs := locs) (n := n2) (e := e) (R := R) (below := below) (meth := meth) (cells := cells) (slots := slots) (H := H) ⟨hx, hb, hml, hown, hts⟩ hM ⟨callB_of n2 hts (gw_good hcd) rfl rfl rfl (hts _ hini) (hts _ hlk0) ⟨hs1, hs2, hs3⟩ ⟨Nat.le_trans hd2 hfr, by show 8 + (nL2 + 11) + 64 * d2 ≤ R.locals; omega⟩, hts _ hins, hts _ hsel⟩ ⟨fun a U g mk q => by obtain ⟨q0, q1, q2, q3, q4⟩ := q; exact ⟨q0, q1.same rfl, va_K.moved (u := U) (U := U.calling g mk a) (Vm.Alike.refl U.vm) q2, q3, q4⟩, va_recv hK hP (ci := ci) (q0 := b) hcl (xw_obj hY), fun U hU hW => ⟨rfl, hnw.warm hW, va_K.moved hW.alike hK, hD.1, by rw [hU]; exact hP⟩⟩ rfl (by rw [List.length_map]; exact hlen) hl.1 (by show List.map _ _ = _; rw [List.map_append, List.map_reverse]; rfl) (lv_room (by rw [List.map_map]; simpa [Function.comp_def, xv_cat] using hrm)) hd ⟨hce, hsl⟩
    intro T hT X
    obtain ⟨v, st₀, t, T', L, h0, X', hL, e1, e2, ⟨hv, hP1, hF⟩, stp⟩ := hrun T hT X
    cases hv
    have hP1 : va_P D vwCl (xw r ca u1 0 Y) T'.heap := by rw [e1]; exact hP1
    have hS1 : va_S A H0 T'.heap (locs ++ L) := by
      refine ⟨Nat.le_trans hS.1 (by rw [e1, ← h0]; exact hF.1), fun q h1 h2 => ?_, fun q hq => ?_⟩
      · have hlt : q < H.size := Nat.lt_of_lt_of_le h1 hS.1
        have hn : ¬ xA Y r q := fun ⟨k, hk, e⟩ => h2 (by rw [e]; exact hD.2 k hk)
        rw [e1, hF.2 q (by rw [h0]; exact hlt) hn, h0]
        exact hS.2.1 q h1 h2
      · rcases List.mem_append.mp hq with h | h
        · exact hS.2.2 q h
        · obtain ⟨k, hk, e⟩ := hL q h
          rw [e]
          exact hD.2 k hk
    have hst : ((em2 r2).toList ++ st.map (xv r)) = ((em2 r2).toList ++ st).map (xv r) := by
      rw [List.map_append]
      congr 1
      rw [hem r2]
    have hW2 := h r2 u1 z u' eo p l e R s m args below meth c D ca r T'.heap H0 (locs ++ L) cells slots A Q ls hC hE hD hP1 hS1 hl kk
    rw [← hst] at hW2
    obtain ⟨t2, a1, b1⟩ := hW2 T' rfl X'
    exact ⟨t2, stp t2 a1, b1⟩
theorem gf_copy {idx k1 k2 : Nat} {sp dp n : Int32} (hd : decode cc pc = .ok (.invokestatic idx, 3)) (hlk0 : Cond.methodLink y.cls idx arraycopyName ∈ GW) (hnat : Cond.native arraycopyName ∈ GW) (hstt : Cond.static arraycopyName ∈ GW) (hini : Cond.initialized "java/lang/System" ∈ GW) (hd1 : 0 < d) (hrm : (st.map fun v => v.category).sum ≤ 8) (hq : pc + 3 = q)
    (h : GF EX Y d y cc nL rt q lv st (wc u k1 sp.toNatClampNeg k2 dp.toNatClampNeg n.toNatClampNeg) em o) : GF EX Y d y cc nL rt pc lv (.int n :: .int dp :: .ref k2 :: .int sp :: .ref k1 :: st) u em ((alen Y 0 k1).bind (fun n1 => (alen Y 0 k2).bind (fun n2 => if 0 ≤ sp ∧ 0 ≤ dp ∧ 0 ≤ n ∧ sp.toNatClampNeg + n.toNatClampNeg ≤ n1 ∧ dp.toNatClampNeg + n.toNatClampNeg ≤ n2 then o else none))) := by
  subst hq
  cases h1 : alen Y 0 k1 with
  | none => exact gf_none
  | some n1 =>
  cases h2 : alen Y 0 k2 with
  | none => exact gf_none
  | some n2 =>
  obtain ⟨dd1, hY1⟩ := alen_spec h1
  obtain ⟨dd2, hY2⟩ := alen_spec h2
  show GF EX Y d y cc nL rt pc lv _ u em (if _ then o else none)
  by_cases hc : 0 ≤ sp ∧ 0 ≤ dp ∧ 0 ≤ n ∧ sp.toNatClampNeg + n.toNatClampNeg ≤ n1 ∧ dp.toNatClampNeg + n.toNatClampNeg ≤ n2
  · rw [if_pos hc]
    obtain ⟨c1, c2, c3, c4, c5⟩ := hc
    intro z u' eo
    intro p l e R s m args below meth c D ca r H H0 locs cells slots A Q ls hC hE hD hP hS hl kk
    obtain ⟨hx, hb, hml, hr, hlk, hown, hts, hnw, hK, hfr, hlo, hce, hsl⟩ := id hC
    refine va_copyi hx hb (hml.trans hl.1.symm) hown (hts _ hlk0) (hts _ hnat) (hts _ hstt) (hts _ hini) hK hP (hD.D ca u) hS k1 k2 0 0 (xw_arr (by decide) hY1) (xw_arr (by decide) hY2) rfl rfl rfl (Int32.not_lt.mpr c1) (Int32.not_lt.mpr c2) (Int32.not_lt.mpr c3) c4 c5 (fun i _ => rfl) (Nat.le_trans hd1 hfr) ?_ hd (fun H1 locs1 hP1 _ hS1 => ?_)
    · rw [List.map_map]
      have hrm2 : (List.map ((fun v => v.category) ∘ xv r) st).sum ≤ 8 := by simpa [Function.comp_def, xv_cat] using hrm
      have : nativeFrameWords "java/lang/System" "arraycopy" 5 + 11 ≤ 56 := by decide +kernel
      omega
    · rw [xw_set (u' := wc u k1 sp.toNatClampNeg k2 dp.toNatClampNeg n.toNatClampNeg) hY2 (by rw [xe, if_pos (show (0 : Nat) < 3 by decide), xmi_wc]) (fun a ha => xmi_wcne ha) (fun a ha => rfl)] at hP1
      exact h z u' eo p l e R s m args below meth c D ca r H1 H0 locs1 cells slots A Q ls hC hE hD hP1 hS1 hl kk
  · rw [if_neg hc]
    exact gf_none
end XCalls
theorem emI_ok : ∀ x, (emI x).toList.map (xv (fun k => k)) = (emI x).toList ∧ ∀ r, (emI x).toList.map (xv r) = (emI x).toList := fun _ => ⟨rfl, fun _ => rfl⟩
theorem emL_ok : ∀ x, (emL x).toList.map (xv (fun k => k)) = (emL x).toList ∧ ∀ r, (emL x).toList.map (xv r) = (emL x).toList := fun _ => ⟨rfl, fun _ => rfl⟩
theorem emV_ok : ∀ x, (emV x).toList.map (xv (fun k => k)) = (emV x).toList ∧ ∀ r, (emV x).toList.map (xv r) = (emV x).toList := fun _ => ⟨rfl, fun _ => rfl⟩
end
