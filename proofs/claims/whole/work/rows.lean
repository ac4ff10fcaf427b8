section
-- ===== PART A: goes FIRST, ahead of the names: the tables' words, and 'selects' of the private methods out of them =====
/-- a private method of a class that the tables say can be made, by its rows of tables_1 -/
def lw_okq (q : MethodName × Nat) : Prop := (q.1.cls ≠ "java/lang/invoke/MethodHandle" ∧ q.1.cls ≠ "java/lang/invoke/VarHandle") ∧ Cond.instantiable q.1.cls q.2 ∈ tables_1 ∧ Cond.privateMethod q.1 ∈ tables_1 ∧ Cond.instanceMethod q.1 ∈ tables_1
theorem lw_p0 : lw_okq (⟨"LampPlans$Text", "readToken", "()V"⟩, 6) := ⟨⟨by decide +kernel, by decide +kernel⟩, List.mem_of_getElem? (i := 61) (by decide +kernel), List.mem_of_getElem? (i := 212) (by decide +kernel), List.mem_of_getElem? (i := 213) (by decide +kernel)⟩
theorem lw_p1 : lw_okq (⟨"LampPlans$Text", "readItem", "(LLampPlans$Plan;I)Z"⟩, 6) := ⟨⟨by decide +kernel, by decide +kernel⟩, List.mem_of_getElem? (i := 61) (by decide +kernel), List.mem_of_getElem? (i := 219) (by decide +kernel), List.mem_of_getElem? (i := 220) (by decide +kernel)⟩
theorem lw_p2 : lw_okq (⟨"LampPlans$Text", "readSize", "(LLampPlans$Plan;)Z"⟩, 6) := ⟨⟨by decide +kernel, by decide +kernel⟩, List.mem_of_getElem? (i := 61) (by decide +kernel), List.mem_of_getElem? (i := 223) (by decide +kernel), List.mem_of_getElem? (i := 224) (by decide +kernel)⟩
theorem lw_p3 : lw_okq (⟨"LampPlans$Text", "readNumber", "(II)Z"⟩, 6) := ⟨⟨by decide +kernel, by decide +kernel⟩, List.mem_of_getElem? (i := 61) (by decide +kernel), List.mem_of_getElem? (i := 227) (by decide +kernel), List.mem_of_getElem? (i := 228) (by decide +kernel)⟩
theorem lw_p4 : lw_okq (⟨"LampPlans$Text", "readItemEnd", "()Z"⟩, 6) := ⟨⟨by decide +kernel, by decide +kernel⟩, List.mem_of_getElem? (i := 61) (by decide +kernel), List.mem_of_getElem? (i := 231) (by decide +kernel), List.mem_of_getElem? (i := 232) (by decide +kernel)⟩
theorem lw_p5 : lw_okq (⟨"LampPlans$Text", "readWall", "(LLampPlans$Plan;I)Z"⟩, 6) := ⟨⟨by decide +kernel, by decide +kernel⟩, List.mem_of_getElem? (i := 61) (by decide +kernel), List.mem_of_getElem? (i := 235) (by decide +kernel), List.mem_of_getElem? (i := 236) (by decide +kernel)⟩
theorem lw_p6 : lw_okq (⟨"LampPlans$Text", "readLamp", "(LLampPlans$Plan;)Z"⟩, 6) := ⟨⟨by decide +kernel, by decide +kernel⟩, List.mem_of_getElem? (i := 61) (by decide +kernel), List.mem_of_getElem? (i := 240) (by decide +kernel), List.mem_of_getElem? (i := 241) (by decide +kernel)⟩
theorem lw_p7 : lw_okq (⟨"LampPlans$Ray", "addEvent", "(II)V"⟩, 7) := ⟨⟨by decide +kernel, by decide +kernel⟩, List.mem_of_getElem? (i := 118) (by decide +kernel), List.mem_of_getElem? (i := 410) (by decide +kernel), List.mem_of_getElem? (i := 411) (by decide +kernel)⟩
theorem lw_p8 : lw_okq (⟨"LampPlans$Ray", "eventBehind", "(I)I"⟩, 7) := ⟨⟨by decide +kernel, by decide +kernel⟩, List.mem_of_getElem? (i := 118) (by decide +kernel), List.mem_of_getElem? (i := 435) (by decide +kernel), List.mem_of_getElem? (i := 436) (by decide +kernel)⟩
theorem lw_p9 : lw_okq (⟨"LampPlans$Ray", "gapTo", "(LLampPlans$Plan;I)I"⟩, 7) := ⟨⟨by decide +kernel, by decide +kernel⟩, List.mem_of_getElem? (i := 118) (by decide +kernel), List.mem_of_getElem? (i := 439) (by decide +kernel), List.mem_of_getElem? (i := 440) (by decide +kernel)⟩
theorem lw_p10 : lw_okq (⟨"LampPlans$Ray", "isOnWall", "(LLampPlans$Plan;III)Z"⟩, 7) := ⟨⟨by decide +kernel, by decide +kernel⟩, List.mem_of_getElem? (i := 118) (by decide +kernel), List.mem_of_getElem? (i := 443) (by decide +kernel), List.mem_of_getElem? (i := 444) (by decide +kernel)⟩
theorem lw_p11 : lw_okq (⟨"LampPlans", "litWithout", "(I)I"⟩, 10) := ⟨⟨by decide +kernel, by decide +kernel⟩, List.mem_of_getElem? (i := 12) (by decide +kernel), List.mem_of_getElem? (i := 482) (by decide +kernel), List.mem_of_getElem? (i := 483) (by decide +kernel)⟩
theorem lw_p12 : lw_okq (⟨"LampPlans", "lampsThatMayBeOut", "(I)I"⟩, 10) := ⟨⟨by decide +kernel, by decide +kernel⟩, List.mem_of_getElem? (i := 12) (by decide +kernel), List.mem_of_getElem? (i := 502) (by decide +kernel), List.mem_of_getElem? (i := 503) (by decide +kernel)⟩
theorem lw_p13 : lw_okq (⟨"LampPlansModel", "begins", "()V"⟩, 30) := ⟨⟨by decide +kernel, by decide +kernel⟩, List.mem_of_getElem? (i := 518) (by decide +kernel), List.mem_of_getElem? (i := 524) (by decide +kernel), List.mem_of_getElem? (i := 525) (by decide +kernel)⟩
theorem lw_p14 : lw_okq (⟨"LampPlansModel", "becomes", "()V"⟩, 30) := ⟨⟨by decide +kernel, by decide +kernel⟩, List.mem_of_getElem? (i := 518) (by decide +kernel), List.mem_of_getElem? (i := 528) (by decide +kernel), List.mem_of_getElem? (i := 529) (by decide +kernel)⟩
theorem lw_p15 : lw_okq (⟨"LampPlansModel", "setsWall", "(IIIII)V"⟩, 30) := ⟨⟨by decide +kernel, by decide +kernel⟩, List.mem_of_getElem? (i := 518) (by decide +kernel), List.mem_of_getElem? (i := 532) (by decide +kernel), List.mem_of_getElem? (i := 533) (by decide +kernel)⟩
def lw_privs_1 : List (MethodName × Nat) := [(⟨"LampPlans$Text", "readToken", "()V"⟩, 6), (⟨"LampPlans$Text", "readItem", "(LLampPlans$Plan;I)Z"⟩, 6), (⟨"LampPlans$Text", "readSize", "(LLampPlans$Plan;)Z"⟩, 6), (⟨"LampPlans$Text", "readNumber", "(II)Z"⟩, 6), (⟨"LampPlans$Text", "readItemEnd", "()Z"⟩, 6), (⟨"LampPlans$Text", "readWall", "(LLampPlans$Plan;I)Z"⟩, 6), (⟨"LampPlans$Text", "readLamp", "(LLampPlans$Plan;)Z"⟩, 6), (⟨"LampPlans$Ray", "addEvent", "(II)V"⟩, 7), (⟨"LampPlans$Ray", "eventBehind", "(I)I"⟩, 7), (⟨"LampPlans$Ray", "gapTo", "(LLampPlans$Plan;I)I"⟩, 7), (⟨"LampPlans$Ray", "isOnWall", "(LLampPlans$Plan;III)Z"⟩, 7), (⟨"LampPlans", "litWithout", "(I)I"⟩, 10), (⟨"LampPlans", "lampsThatMayBeOut", "(I)I"⟩, 10), (⟨"LampPlansModel", "begins", "()V"⟩, 30), (⟨"LampPlansModel", "becomes", "()V"⟩, 30), (⟨"LampPlansModel", "setsWall", "(IIIII)V"⟩, 30)]
theorem lw_r1 : ∀ q ∈ lw_privs_1, lw_okq q := List.forall_mem_cons.mpr ⟨lw_p0, List.forall_mem_cons.mpr ⟨lw_p1, List.forall_mem_cons.mpr ⟨lw_p2, List.forall_mem_cons.mpr ⟨lw_p3, List.forall_mem_cons.mpr ⟨lw_p4, List.forall_mem_cons.mpr ⟨lw_p5, List.forall_mem_cons.mpr ⟨lw_p6, List.forall_mem_cons.mpr ⟨lw_p7, List.forall_mem_cons.mpr ⟨lw_p8, List.forall_mem_cons.mpr ⟨lw_p9, List.forall_mem_cons.mpr ⟨lw_p10, List.forall_mem_cons.mpr ⟨lw_p11, List.forall_mem_cons.mpr ⟨lw_p12, List.forall_mem_cons.mpr ⟨lw_p13, List.forall_mem_cons.mpr ⟨lw_p14, List.forall_mem_cons.mpr ⟨lw_p15, fun _ h => absurd h List.not_mem_nil⟩⟩⟩⟩⟩⟩⟩⟩⟩⟩⟩⟩⟩⟩⟩⟩
theorem lw_p16 : lw_okq (⟨"LampPlansModel", "steps", "()V"⟩, 30) := ⟨⟨by decide +kernel, by decide +kernel⟩, List.mem_of_getElem? (i := 518) (by decide +kernel), List.mem_of_getElem? (i := 642) (by decide +kernel), List.mem_of_getElem? (i := 643) (by decide +kernel)⟩
theorem lw_p17 : lw_okq (⟨"LampPlansModel", "isFigure", "(I)Z"⟩, 30) := ⟨⟨by decide +kernel, by decide +kernel⟩, List.mem_of_getElem? (i := 518) (by decide +kernel), List.mem_of_getElem? (i := 646) (by decide +kernel), List.mem_of_getElem? (i := 647) (by decide +kernel)⟩
theorem lw_p18 : lw_okq (⟨"LampPlansModel", "item", "(I)Z"⟩, 30) := ⟨⟨by decide +kernel, by decide +kernel⟩, List.mem_of_getElem? (i := 518) (by decide +kernel), List.mem_of_getElem? (i := 650) (by decide +kernel), List.mem_of_getElem? (i := 651) (by decide +kernel)⟩
theorem lw_p19 : lw_okq (⟨"LampPlansModel", "readsPlan", "(I)Z"⟩, 30) := ⟨⟨by decide +kernel, by decide +kernel⟩, List.mem_of_getElem? (i := 518) (by decide +kernel), List.mem_of_getElem? (i := 654) (by decide +kernel), List.mem_of_getElem? (i := 655) (by decide +kernel)⟩
theorem lw_p20 : lw_okq (⟨"LampPlansModel", "reads", "(II)Z"⟩, 30) := ⟨⟨by decide +kernel, by decide +kernel⟩, List.mem_of_getElem? (i := 518) (by decide +kernel), List.mem_of_getElem? (i := 658) (by decide +kernel), List.mem_of_getElem? (i := 659) (by decide +kernel)⟩
theorem lw_p21 : lw_okq (⟨"LampPlansModel", "readsWall", "(I)Z"⟩, 30) := ⟨⟨by decide +kernel, by decide +kernel⟩, List.mem_of_getElem? (i := 518) (by decide +kernel), List.mem_of_getElem? (i := 662) (by decide +kernel), List.mem_of_getElem? (i := 663) (by decide +kernel)⟩
theorem lw_p22 : lw_okq (⟨"LampPlansModel", "readsLamp", "()Z"⟩, 30) := ⟨⟨by decide +kernel, by decide +kernel⟩, List.mem_of_getElem? (i := 518) (by decide +kernel), List.mem_of_getElem? (i := 666) (by decide +kernel), List.mem_of_getElem? (i := 667) (by decide +kernel)⟩
theorem lw_p23 : lw_okq (⟨"LampPlansModel", "isWall", "(I)Z"⟩, 30) := ⟨⟨by decide +kernel, by decide +kernel⟩, List.mem_of_getElem? (i := 518) (by decide +kernel), List.mem_of_getElem? (i := 674) (by decide +kernel), List.mem_of_getElem? (i := 675) (by decide +kernel)⟩
theorem lw_p24 : lw_okq (⟨"LampPlansModel", "ofWall", "(II)I"⟩, 30) := ⟨⟨by decide +kernel, by decide +kernel⟩, List.mem_of_getElem? (i := 518) (by decide +kernel), List.mem_of_getElem? (i := 678) (by decide +kernel), List.mem_of_getElem? (i := 679) (by decide +kernel)⟩
theorem lw_p25 : lw_okq (⟨"LampPlansModel", "isLamp", "(I)Z"⟩, 30) := ⟨⟨by decide +kernel, by decide +kernel⟩, List.mem_of_getElem? (i := 518) (by decide +kernel), List.mem_of_getElem? (i := 686) (by decide +kernel), List.mem_of_getElem? (i := 687) (by decide +kernel)⟩
theorem lw_p26 : lw_okq (⟨"LampPlansModel", "ofLamp", "(II)I"⟩, 30) := ⟨⟨by decide +kernel, by decide +kernel⟩, List.mem_of_getElem? (i := 518) (by decide +kernel), List.mem_of_getElem? (i := 690) (by decide +kernel), List.mem_of_getElem? (i := 691) (by decide +kernel)⟩
theorem lw_p27 : lw_okq (⟨"LampPlansModel", "isSpot", "(II)Z"⟩, 30) := ⟨⟨by decide +kernel, by decide +kernel⟩, List.mem_of_getElem? (i := 518) (by decide +kernel), List.mem_of_getElem? (i := 698) (by decide +kernel), List.mem_of_getElem? (i := 699) (by decide +kernel)⟩
theorem lw_p28 : lw_okq (⟨"LampPlansModel", "isLitBy", "(IIII)Z"⟩, 30) := ⟨⟨by decide +kernel, by decide +kernel⟩, List.mem_of_getElem? (i := 518) (by decide +kernel), List.mem_of_getElem? (i := 702) (by decide +kernel), List.mem_of_getElem? (i := 703) (by decide +kernel)⟩
theorem lw_p29 : lw_okq (⟨"LampPlansModel", "isLit", "(IIIII)Z"⟩, 30) := ⟨⟨by decide +kernel, by decide +kernel⟩, List.mem_of_getElem? (i := 518) (by decide +kernel), List.mem_of_getElem? (i := 706) (by decide +kernel), List.mem_of_getElem? (i := 707) (by decide +kernel)⟩
theorem lw_p30 : lw_okq (⟨"LampPlansModel", "isBetween", "(IIIII)Z"⟩, 30) := ⟨⟨by decide +kernel, by decide +kernel⟩, List.mem_of_getElem? (i := 518) (by decide +kernel), List.mem_of_getElem? (i := 710) (by decide +kernel), List.mem_of_getElem? (i := 711) (by decide +kernel)⟩
theorem lw_p31 : lw_okq (⟨"LampPlansModel", "lampsOf", "(III)I"⟩, 30) := ⟨⟨by decide +kernel, by decide +kernel⟩, List.mem_of_getElem? (i := 518) (by decide +kernel), List.mem_of_getElem? (i := 718) (by decide +kernel), List.mem_of_getElem? (i := 719) (by decide +kernel)⟩
def lw_privs_2 : List (MethodName × Nat) := [(⟨"LampPlansModel", "steps", "()V"⟩, 30), (⟨"LampPlansModel", "isFigure", "(I)Z"⟩, 30), (⟨"LampPlansModel", "item", "(I)Z"⟩, 30), (⟨"LampPlansModel", "readsPlan", "(I)Z"⟩, 30), (⟨"LampPlansModel", "reads", "(II)Z"⟩, 30), (⟨"LampPlansModel", "readsWall", "(I)Z"⟩, 30), (⟨"LampPlansModel", "readsLamp", "()Z"⟩, 30), (⟨"LampPlansModel", "isWall", "(I)Z"⟩, 30), (⟨"LampPlansModel", "ofWall", "(II)I"⟩, 30), (⟨"LampPlansModel", "isLamp", "(I)Z"⟩, 30), (⟨"LampPlansModel", "ofLamp", "(II)I"⟩, 30), (⟨"LampPlansModel", "isSpot", "(II)Z"⟩, 30), (⟨"LampPlansModel", "isLitBy", "(IIII)Z"⟩, 30), (⟨"LampPlansModel", "isLit", "(IIIII)Z"⟩, 30), (⟨"LampPlansModel", "isBetween", "(IIIII)Z"⟩, 30), (⟨"LampPlansModel", "lampsOf", "(III)I"⟩, 30)]
theorem lw_r2 : ∀ q ∈ lw_privs_2, lw_okq q := List.forall_mem_cons.mpr ⟨lw_p16, List.forall_mem_cons.mpr ⟨lw_p17, List.forall_mem_cons.mpr ⟨lw_p18, List.forall_mem_cons.mpr ⟨lw_p19, List.forall_mem_cons.mpr ⟨lw_p20, List.forall_mem_cons.mpr ⟨lw_p21, List.forall_mem_cons.mpr ⟨lw_p22, List.forall_mem_cons.mpr ⟨lw_p23, List.forall_mem_cons.mpr ⟨lw_p24, List.forall_mem_cons.mpr ⟨lw_p25, List.forall_mem_cons.mpr ⟨lw_p26, List.forall_mem_cons.mpr ⟨lw_p27, List.forall_mem_cons.mpr ⟨lw_p28, List.forall_mem_cons.mpr ⟨lw_p29, List.forall_mem_cons.mpr ⟨lw_p30, List.forall_mem_cons.mpr ⟨lw_p31, fun _ h => absurd h List.not_mem_nil⟩⟩⟩⟩⟩⟩⟩⟩⟩⟩⟩⟩⟩⟩⟩⟩
theorem lw_p32 : lw_okq (⟨"LampPlansModel", "on", "()I"⟩, 30) := ⟨⟨by decide +kernel, by decide +kernel⟩, List.mem_of_getElem? (i := 518) (by decide +kernel), List.mem_of_getElem? (i := 722) (by decide +kernel), List.mem_of_getElem? (i := 723) (by decide +kernel)⟩
theorem lw_p33 : lw_okq (⟨"LampPlansModel", "allBy", "(I)I"⟩, 30) := ⟨⟨by decide +kernel, by decide +kernel⟩, List.mem_of_getElem? (i := 518) (by decide +kernel), List.mem_of_getElem? (i := 734) (by decide +kernel), List.mem_of_getElem? (i := 735) (by decide +kernel)⟩
theorem lw_p34 : lw_okq (⟨"LampPlansModel", "laysEvents", "(I)V"⟩, 30) := ⟨⟨by decide +kernel, by decide +kernel⟩, List.mem_of_getElem? (i := 518) (by decide +kernel), List.mem_of_getElem? (i := 742) (by decide +kernel), List.mem_of_getElem? (i := 743) (by decide +kernel)⟩
theorem lw_p35 : lw_okq (⟨"LampPlansModel", "comes", "(III)V"⟩, 30) := ⟨⟨by decide +kernel, by decide +kernel⟩, List.mem_of_getElem? (i := 518) (by decide +kernel), List.mem_of_getElem? (i := 746) (by decide +kernel), List.mem_of_getElem? (i := 747) (by decide +kernel)⟩
theorem lw_p36 : lw_okq (⟨"LampPlansModel", "wallOfSector", "(II)I"⟩, 30) := ⟨⟨by decide +kernel, by decide +kernel⟩, List.mem_of_getElem? (i := 518) (by decide +kernel), List.mem_of_getElem? (i := 767) (by decide +kernel), List.mem_of_getElem? (i := 768) (by decide +kernel)⟩
theorem lw_p37 : lw_okq (⟨"LampPlansModel", "firstWall", "(III)I"⟩, 30) := ⟨⟨by decide +kernel, by decide +kernel⟩, List.mem_of_getElem? (i := 518) (by decide +kernel), List.mem_of_getElem? (i := 771) (by decide +kernel), List.mem_of_getElem? (i := 772) (by decide +kernel)⟩
theorem lw_p38 : lw_okq (⟨"LampPlansModel", "meets", "(IIII)Z"⟩, 30) := ⟨⟨by decide +kernel, by decide +kernel⟩, List.mem_of_getElem? (i := 518) (by decide +kernel), List.mem_of_getElem? (i := 775) (by decide +kernel), List.mem_of_getElem? (i := 776) (by decide +kernel)⟩
theorem lw_p39 : lw_okq (⟨"LampPlansModel", "areaOf", "(IIII)I"⟩, 30) := ⟨⟨by decide +kernel, by decide +kernel⟩, List.mem_of_getElem? (i := 518) (by decide +kernel), List.mem_of_getElem? (i := 779) (by decide +kernel), List.mem_of_getElem? (i := 780) (by decide +kernel)⟩
theorem lw_p40 : lw_okq (⟨"LampPlansModel", "laysSpots", "()V"⟩, 30) := ⟨⟨by decide +kernel, by decide +kernel⟩, List.mem_of_getElem? (i := 518) (by decide +kernel), List.mem_of_getElem? (i := 791) (by decide +kernel), List.mem_of_getElem? (i := 792) (by decide +kernel)⟩
theorem lw_p41 : lw_okq (⟨"LampPlansModel", "isEnough", "(I)Z"⟩, 30) := ⟨⟨by decide +kernel, by decide +kernel⟩, List.mem_of_getElem? (i := 518) (by decide +kernel), List.mem_of_getElem? (i := 798) (by decide +kernel), List.mem_of_getElem? (i := 799) (by decide +kernel)⟩
theorem lw_p42 : lw_okq (⟨"LampPlansModel", "lampAt", "(II)I"⟩, 30) := ⟨⟨by decide +kernel, by decide +kernel⟩, List.mem_of_getElem? (i := 518) (by decide +kernel), List.mem_of_getElem? (i := 806) (by decide +kernel), List.mem_of_getElem? (i := 807) (by decide +kernel)⟩
theorem lw_p43 : lw_okq (⟨"LampPlansModel", "notes", "()V"⟩, 30) := ⟨⟨by decide +kernel, by decide +kernel⟩, List.mem_of_getElem? (i := 518) (by decide +kernel), List.mem_of_getElem? (i := 822) (by decide +kernel), List.mem_of_getElem? (i := 823) (by decide +kernel)⟩
def lw_privs_3 : List (MethodName × Nat) := [(⟨"LampPlansModel", "on", "()I"⟩, 30), (⟨"LampPlansModel", "allBy", "(I)I"⟩, 30), (⟨"LampPlansModel", "laysEvents", "(I)V"⟩, 30), (⟨"LampPlansModel", "comes", "(III)V"⟩, 30), (⟨"LampPlansModel", "wallOfSector", "(II)I"⟩, 30), (⟨"LampPlansModel", "firstWall", "(III)I"⟩, 30), (⟨"LampPlansModel", "meets", "(IIII)Z"⟩, 30), (⟨"LampPlansModel", "areaOf", "(IIII)I"⟩, 30), (⟨"LampPlansModel", "laysSpots", "()V"⟩, 30), (⟨"LampPlansModel", "isEnough", "(I)Z"⟩, 30), (⟨"LampPlansModel", "lampAt", "(II)I"⟩, 30), (⟨"LampPlansModel", "notes", "()V"⟩, 30)]
theorem lw_r3 : ∀ q ∈ lw_privs_3, lw_okq q := List.forall_mem_cons.mpr ⟨lw_p32, List.forall_mem_cons.mpr ⟨lw_p33, List.forall_mem_cons.mpr ⟨lw_p34, List.forall_mem_cons.mpr ⟨lw_p35, List.forall_mem_cons.mpr ⟨lw_p36, List.forall_mem_cons.mpr ⟨lw_p37, List.forall_mem_cons.mpr ⟨lw_p38, List.forall_mem_cons.mpr ⟨lw_p39, List.forall_mem_cons.mpr ⟨lw_p40, List.forall_mem_cons.mpr ⟨lw_p41, List.forall_mem_cons.mpr ⟨lw_p42, List.forall_mem_cons.mpr ⟨lw_p43, fun _ h => absurd h List.not_mem_nil⟩⟩⟩⟩⟩⟩⟩⟩⟩⟩⟩⟩
def lw_privs : List (MethodName × Nat) := lw_privs_1 ++ (lw_privs_2 ++ (lw_privs_3))
def lw_tbl : List Cond := k2_sels lw_privs ++ tables_1
theorem lw_privs_ok : ∀ q ∈ lw_privs, lw_okq q := by
  show ∀ q ∈ lw_privs_1 ++ (lw_privs_2 ++ (lw_privs_3)), lw_okq q
  exact List.forall_mem_append.mpr ⟨lw_r1, List.forall_mem_append.mpr ⟨lw_r2, lw_r3⟩⟩
end
section

def RX0 : String := "LampPlans$Light"
def TX0 : u_T := fun k => match k with
  | _ => ("LampPlans$Light", "litBy", "[I", true)
def tyX0 : Nat → FieldType := fun k => match k with
  | _ => .array .int
abbrev wsX00 : List Cond := u_ws RX0 TX0 1
theorem nmX0 : ∀ a, a < 1 → ∀ b, b < 1 → a ≠ b → (TX0 a).2.1 ≠ (TX0 b).2.1 := by decide +kernel
theorem tyX0_ok : ∀ k, k < 1 → parseFieldDescriptor (TX0 k).2.2.1 = some (tyX0 k) := by decide +kernel
abbrev cX0_init : ByteArray := prog_2_method_1_code
def yX0_init : MethodName := ⟨RX0, "<init>", "()V"⟩
abbrev cX0_isFree : ByteArray := prog_2_method_2_code
def yX0_isFree : MethodName := ⟨RX0, "isFree", "(LLampPlans$Plan;IIIII)Z"⟩
abbrev cX0_isStopped : ByteArray := prog_2_method_3_code
def yX0_isStopped : MethodName := ⟨RX0, "isStopped", "(LLampPlans$Plan;IIIII)Z"⟩
abbrev cX0_isLitBy : ByteArray := prog_2_method_4_code
def yX0_isLitBy : MethodName := ⟨RX0, "isLitBy", "(LLampPlans$Plan;IIII)Z"⟩
abbrev cX0_lampsOnAt : ByteArray := prog_2_method_5_code
def yX0_lampsOnAt : MethodName := ⟨RX0, "lampsOnAt", "(LLampPlans$Plan;II)I"⟩
abbrev cX0_lampsAt : ByteArray := prog_2_method_6_code
def yX0_lampsAt : MethodName := ⟨RX0, "lampsAt", "(LLampPlans$Plan;IIII)I"⟩
abbrev cX0_shine : ByteArray := prog_2_method_7_code
def yX0_shine : MethodName := ⟨RX0, "shine", "(LLampPlans$Plan;II)V"⟩
abbrev cX0_spotsLitBy : ByteArray := prog_2_method_8_code
def yX0_spotsLitBy : MethodName := ⟨RX0, "spotsLitBy", "(LLampPlans$Plan;II)I"⟩
abbrev cX0_isEnough : ByteArray := prog_2_method_9_code
def yX0_isEnough : MethodName := ⟨RX0, "isEnough", "(LLampPlans$Plan;I)Z"⟩
abbrev cX0_darkSpotsSeenFrom : ByteArray := prog_2_method_10_code
def yX0_darkSpotsSeenFrom : MethodName := ⟨RX0, "darkSpotsSeenFrom", "(LLampPlans$Plan;II)I"⟩
def RX1 : String := "LampPlans$Past"
def TX1 : u_T := fun k => match k with
  | 0 => ("LampPlans$Past", "ring", "[LLampPlans$Plan;", true)
  | 1 => ("LampPlans$Past", "next", "I", false)
  | _ => ("LampPlans$Past", "size", "I", false)
def tyX1 : Nat → FieldType := fun k => match k with
  | 0 => .array (.object "LampPlans$Plan")
  | 1 => .int
  | _ => .int
abbrev wsX10 : List Cond := u_ws RX1 TX1 3
theorem nmX1 : ∀ a, a < 3 → ∀ b, b < 3 → a ≠ b → (TX1 a).2.1 ≠ (TX1 b).2.1 := by decide +kernel
theorem tyX1_ok : ∀ k, k < 3 → parseFieldDescriptor (TX1 k).2.2.1 = some (tyX1 k) := by decide +kernel
abbrev cX1_init : ByteArray := prog_3_method_1_code
def yX1_init : MethodName := ⟨RX1, "<init>", "()V"⟩
abbrev cX1_remember : ByteArray := prog_3_method_2_code
def yX1_remember : MethodName := ⟨RX1, "remember", "(LLampPlans$Plan;)V"⟩
abbrev cX1_restore : ByteArray := prog_3_method_3_code
def yX1_restore : MethodName := ⟨RX1, "restore", "(LLampPlans$Plan;)V"⟩
def RX2 : String := "LampPlans$Plan"
def TX2 : u_T := fun k => match k with
  | 0 => ("LampPlans$Plan", "width", "I", false)
  | 1 => ("LampPlans$Plan", "height", "I", false)
  | 2 => ("LampPlans$Plan", "wallCount", "I", false)
  | 3 => ("LampPlans$Plan", "lampCount", "I", false)
  | 4 => ("LampPlans$Plan", "wallRows", "[I", true)
  | _ => ("LampPlans$Plan", "lampRows", "[I", true)
def tyX2 : Nat → FieldType := fun k => match k with
  | 0 => .int
  | 1 => .int
  | 2 => .int
  | 3 => .int
  | 4 => .array .int
  | _ => .array .int
abbrev wsX20 : List Cond := u_ws RX2 TX2 6
theorem nmX2 : ∀ a, a < 6 → ∀ b, b < 6 → a ≠ b → (TX2 a).2.1 ≠ (TX2 b).2.1 := by decide +kernel
theorem tyX2_ok : ∀ k, k < 6 → parseFieldDescriptor (TX2 k).2.2.1 = some (tyX2 k) := by decide +kernel
abbrev cX2_init : ByteArray := prog_4_method_1_code
def yX2_init : MethodName := ⟨RX2, "<init>", "()V"⟩
abbrev cX2_begin : ByteArray := prog_4_method_2_code
def yX2_begin : MethodName := ⟨RX2, "begin", "(II)V"⟩
abbrev cX2_copyFrom : ByteArray := prog_4_method_3_code
def yX2_copyFrom : MethodName := ⟨RX2, "copyFrom", "(LLampPlans$Plan;)V"⟩
abbrev cX2_hasWall : ByteArray := prog_4_method_4_code
def yX2_hasWall : MethodName := ⟨RX2, "hasWall", "(I)Z"⟩
abbrev cX2_hasInnerWall : ByteArray := prog_4_method_5_code
def yX2_hasInnerWall : MethodName := ⟨RX2, "hasInnerWall", "(I)Z"⟩
abbrev cX2_hasLamp : ByteArray := prog_4_method_6_code
def yX2_hasLamp : MethodName := ⟨RX2, "hasLamp", "(I)Z"⟩
abbrev cX2_hasSpot : ByteArray := prog_4_method_7_code
def yX2_hasSpot : MethodName := ⟨RX2, "hasSpot", "(II)Z"⟩
abbrev cX2_hasLampAt : ByteArray := prog_4_method_8_code
def yX2_hasLampAt : MethodName := ⟨RX2, "hasLampAt", "(II)Z"⟩
abbrev cX2_canHoldWall : ByteArray := prog_4_method_9_code
def yX2_canHoldWall : MethodName := ⟨RX2, "canHoldWall", "(IIII)Z"⟩
abbrev cX2_wallPart : ByteArray := prog_4_method_10_code
def yX2_wallPart : MethodName := ⟨RX2, "wallPart", "(II)I"⟩
abbrev cX2_lampPart : ByteArray := prog_4_method_11_code
def yX2_lampPart : MethodName := ⟨RX2, "lampPart", "(II)I"⟩
abbrev cX2_lampsOn : ByteArray := prog_4_method_12_code
def yX2_lampsOn : MethodName := ⟨RX2, "lampsOn", "()I"⟩
abbrev cX2_addWall : ByteArray := prog_4_method_13_code
def yX2_addWall : MethodName := ⟨RX2, "addWall", "(IIII)V"⟩
abbrev cX2_addLamp : ByteArray := prog_4_method_14_code
def yX2_addLamp : MethodName := ⟨RX2, "addLamp", "(II)V"⟩
abbrev cX2_removeWall : ByteArray := prog_4_method_15_code
def yX2_removeWall : MethodName := ⟨RX2, "removeWall", "(I)V"⟩
abbrev cX2_removeLamp : ByteArray := prog_4_method_16_code
def yX2_removeLamp : MethodName := ⟨RX2, "removeLamp", "(I)V"⟩
abbrev cX2_switchLamp : ByteArray := prog_4_method_17_code
def yX2_switchLamp : MethodName := ⟨RX2, "switchLamp", "(I)I"⟩
abbrev cX2_closeGap : ByteArray := prog_4_method_18_code
def yX2_closeGap : MethodName := ⟨RX2, "closeGap", "([IIII)V"⟩
def RX3 : String := "LampPlans$Ray"
def TX3 : u_T := fun k => match k with
  | 0 => ("LampPlans$Ray", "eventX", "[I", true)
  | 1 => ("LampPlans$Ray", "eventY", "[I", true)
  | 2 => ("LampPlans$Ray", "size", "I", false)
  | 3 => ("LampPlans$Ray", "lampX", "I", false)
  | 4 => ("LampPlans$Ray", "lampY", "I", false)
  | 5 => ("LampPlans$Ray", "areaUpper", "I", false)
  | _ => ("LampPlans$Ray", "areaLower", "I", false)
def tyX3 : Nat → FieldType := fun k => match k with
  | 0 => .array .int
  | 1 => .array .int
  | 2 => .int
  | 3 => .int
  | 4 => .int
  | 5 => .int
  | _ => .int
abbrev wsX30 : List Cond := u_ws RX3 TX3 7
theorem nmX3 : ∀ a, a < 7 → ∀ b, b < 7 → a ≠ b → (TX3 a).2.1 ≠ (TX3 b).2.1 := by decide +kernel
theorem tyX3_ok : ∀ k, k < 7 → parseFieldDescriptor (TX3 k).2.2.1 = some (tyX3 k) := by decide +kernel
abbrev cX3_init : ByteArray := prog_5_method_1_code
def yX3_init : MethodName := ⟨RX3, "<init>", "()V"⟩
abbrev cX3_turnRound : ByteArray := prog_5_method_2_code
def yX3_turnRound : MethodName := ⟨RX3, "turnRound", "(LLampPlans$Plan;I)V"⟩
abbrev cX3_isEventPoint : ByteArray := prog_5_method_3_code
def yX3_isEventPoint : MethodName := ⟨RX3, "isEventPoint", "(LLampPlans$Plan;II)Z"⟩
abbrev cX3_addEvent : ByteArray := prog_5_method_4_code
def yX3_addEvent : MethodName := ⟨RX3, "addEvent", "(II)V"⟩
abbrev cX3_isAhead : ByteArray := prog_5_method_5_code
def yX3_isAhead : MethodName := ⟨RX3, "isAhead", "(IIII)Z"⟩
abbrev cX3_eventBehind : ByteArray := prog_5_method_6_code
def yX3_eventBehind : MethodName := ⟨RX3, "eventBehind", "(I)I"⟩
abbrev cX3_wallOfSector : ByteArray := prog_5_method_7_code
def yX3_wallOfSector : MethodName := ⟨RX3, "wallOfSector", "(LLampPlans$Plan;I)I"⟩
abbrev cX3_gapTo : ByteArray := prog_5_method_8_code
def yX3_gapTo : MethodName := ⟨RX3, "gapTo", "(LLampPlans$Plan;I)I"⟩
abbrev cX3_isOnWall : ByteArray := prog_5_method_9_code
def yX3_isOnWall : MethodName := ⟨RX3, "isOnWall", "(LLampPlans$Plan;III)Z"⟩
abbrev cX3_measure : ByteArray := prog_5_method_10_code
def yX3_measure : MethodName := ⟨RX3, "measure", "(LLampPlans$Plan;II)V"⟩
abbrev cX3_commonDivisor : ByteArray := prog_5_method_11_code
def yX3_commonDivisor : MethodName := ⟨RX3, "commonDivisor", "(II)I"⟩
def RX4 : String := "LampPlans$Text"
def TX4 : u_T := fun k => match k with
  | 0 => ("LampPlans$Text", "letters", "[C", true)
  | 1 => ("LampPlans$Text", "length", "I", false)
  | 2 => ("LampPlans$Text", "start", "I", false)
  | 3 => ("LampPlans$Text", "sign", "I", false)
  | 4 => ("LampPlans$Text", "number", "I", false)
  | _ => ("LampPlans$Text", "place", "I", false)
def tyX4 : Nat → FieldType := fun k => match k with
  | 0 => .array .char
  | 1 => .int
  | 2 => .int
  | 3 => .int
  | 4 => .int
  | _ => .int
abbrev wsX40 : List Cond := u_ws RX4 TX4 6
theorem nmX4 : ∀ a, a < 6 → ∀ b, b < 6 → a ≠ b → (TX4 a).2.1 ≠ (TX4 b).2.1 := by decide +kernel
theorem tyX4_ok : ∀ k, k < 6 → parseFieldDescriptor (TX4 k).2.2.1 = some (tyX4 k) := by decide +kernel
abbrev cX4_init : ByteArray := prog_6_method_1_code
def yX4_init : MethodName := ⟨RX4, "<init>", "()V"⟩
abbrev cX4_add : ByteArray := prog_6_method_2_code
def yX4_add : MethodName := ⟨RX4, "add", "(C)V"⟩
abbrev cX4_tell : ByteArray := prog_6_method_3_code
def yX4_tell : MethodName := ⟨RX4, "tell", "(LLampPlans$Plan;)I"⟩
abbrev cX4_readItem : ByteArray := prog_6_method_4_code
def yX4_readItem : MethodName := ⟨RX4, "readItem", "(LLampPlans$Plan;I)Z"⟩
abbrev cX4_readSize : ByteArray := prog_6_method_5_code
def yX4_readSize : MethodName := ⟨RX4, "readSize", "(LLampPlans$Plan;)Z"⟩
abbrev cX4_readWall : ByteArray := prog_6_method_6_code
def yX4_readWall : MethodName := ⟨RX4, "readWall", "(LLampPlans$Plan;I)Z"⟩
abbrev cX4_readLamp : ByteArray := prog_6_method_7_code
def yX4_readLamp : MethodName := ⟨RX4, "readLamp", "(LLampPlans$Plan;)Z"⟩
abbrev cX4_readNumber : ByteArray := prog_6_method_8_code
def yX4_readNumber : MethodName := ⟨RX4, "readNumber", "(II)Z"⟩
abbrev cX4_readItemEnd : ByteArray := prog_6_method_9_code
def yX4_readItemEnd : MethodName := ⟨RX4, "readItemEnd", "()Z"⟩
abbrev cX4_readToken : ByteArray := prog_6_method_10_code
def yX4_readToken : MethodName := ⟨RX4, "readToken", "()V"⟩
abbrev cX4_isFigure : ByteArray := prog_6_method_11_code
def yX4_isFigure : MethodName := ⟨RX4, "isFigure", "(C)Z"⟩
def RX5 : String := "LampPlans"
def TX5 : u_T := fun k => match k with
  | 0 => ("LampPlans", "now", "LLampPlans$Plan;", true)
  | 1 => ("LampPlans", "told", "LLampPlans$Plan;", true)
  | 2 => ("LampPlans", "text", "LLampPlans$Text;", true)
  | 3 => ("LampPlans", "past", "LLampPlans$Past;", true)
  | 4 => ("LampPlans", "light", "LLampPlans$Light;", true)
  | 5 => ("LampPlans", "ray", "LLampPlans$Ray;", true)
  | 6 => ("LampPlans", "images", "[LLampPlans$Plan;", true)
  | 7 => ("LampPlans", "kept", "[Z", true)
  | 8 => ("LampPlans", "seenRows", "[I", true)
  | _ => ("LampPlans", "seenCount", "I", false)
def tyX5 : Nat → FieldType := fun k => match k with
  | 0 => .object "LampPlans$Plan"
  | 1 => .object "LampPlans$Plan"
  | 2 => .object "LampPlans$Text"
  | 3 => .object "LampPlans$Past"
  | 4 => .object "LampPlans$Light"
  | 5 => .object "LampPlans$Ray"
  | 6 => .array (.object "LampPlans$Plan")
  | 7 => .array .boolean
  | 8 => .array .int
  | _ => .int
abbrev wsX50 : List Cond := u_ws RX5 TX5 10
theorem nmX5 : ∀ a, a < 10 → ∀ b, b < 10 → a ≠ b → (TX5 a).2.1 ≠ (TX5 b).2.1 := by decide +kernel
theorem tyX5_ok : ∀ k, k < 10 → parseFieldDescriptor (TX5 k).2.2.1 = some (tyX5 k) := by decide +kernel
abbrev cX5_init : ByteArray := prog_1_method_1_code
def yX5_init : MethodName := ⟨RX5, "<init>", "()V"⟩
abbrev cX5_type : ByteArray := prog_1_method_2_code
def yX5_type : MethodName := ⟨RX5, "type", "(I)I"⟩
abbrev cX5_clear : ByteArray := prog_1_method_3_code
def yX5_clear : MethodName := ⟨RX5, "clear", "()I"⟩
abbrev cX5_plan : ByteArray := prog_1_method_4_code
def yX5_plan : MethodName := ⟨RX5, "plan", "()I"⟩
abbrev cX5_wall : ByteArray := prog_1_method_5_code
def yX5_wall : MethodName := ⟨RX5, "wall", "(II)I"⟩
abbrev cX5_lamp : ByteArray := prog_1_method_6_code
def yX5_lamp : MethodName := ⟨RX5, "lamp", "(II)I"⟩
abbrev cX5_puts : ByteArray := prog_1_method_7_code
def yX5_puts : MethodName := ⟨RX5, "puts", "(II)I"⟩
abbrev cX5_takes : ByteArray := prog_1_method_8_code
def yX5_takes : MethodName := ⟨RX5, "takes", "(I)I"⟩
abbrev cX5_switches : ByteArray := prog_1_method_9_code
def yX5_switches : MethodName := ⟨RX5, "switches", "(I)I"⟩
abbrev cX5_builds : ByteArray := prog_1_method_10_code
def yX5_builds : MethodName := ⟨RX5, "builds", "(IIII)I"⟩
abbrev cX5_breaks : ByteArray := prog_1_method_11_code
def yX5_breaks : MethodName := ⟨RX5, "breaks", "(I)I"⟩
abbrev cX5_undo : ByteArray := prog_1_method_12_code
def yX5_undo : MethodName := ⟨RX5, "undo", "()I"⟩
abbrev cX5_lit : ByteArray := prog_1_method_13_code
def yX5_lit : MethodName := ⟨RX5, "lit", "(III)I"⟩
abbrev cX5_by : ByteArray := prog_1_method_14_code
def yX5_by : MethodName := ⟨RX5, "by", "(II)I"⟩
abbrev cX5_lights : ByteArray := prog_1_method_15_code
def yX5_lights : MethodName := ⟨RX5, "lights", "(I)I"⟩
abbrev cX5_all : ByteArray := prog_1_method_16_code
def yX5_all : MethodName := ⟨RX5, "all", "()I"⟩
abbrev cX5_events : ByteArray := prog_1_method_17_code
def yX5_events : MethodName := ⟨RX5, "events", "(I)I"⟩
abbrev cX5_event : ByteArray := prog_1_method_18_code
def yX5_event : MethodName := ⟨RX5, "event", "(III)I"⟩
abbrev cX5_sector : ByteArray := prog_1_method_19_code
def yX5_sector : MethodName := ⟨RX5, "sector", "(III)I"⟩
abbrev cX5_walls : ByteArray := prog_1_method_20_code
def yX5_walls : MethodName := ⟨RX5, "walls", "(I)I"⟩
abbrev cX5_fewest : ByteArray := prog_1_method_21_code
def yX5_fewest : MethodName := ⟨RX5, "fewest", "()I"⟩
abbrev cX5_best : ByteArray := prog_1_method_22_code
def yX5_best : MethodName := ⟨RX5, "best", "(I)I"⟩
abbrev cX5_gain : ByteArray := prog_1_method_23_code
def yX5_gain : MethodName := ⟨RX5, "gain", "(I)I"⟩
abbrev cX5_worst : ByteArray := prog_1_method_24_code
def yX5_worst : MethodName := ⟨RX5, "worst", "()I"⟩
abbrev cX5_litWithout : ByteArray := prog_1_method_25_code
def yX5_litWithout : MethodName := ⟨RX5, "litWithout", "(I)I"⟩
abbrev cX5_sees : ByteArray := prog_1_method_26_code
def yX5_sees : MethodName := ⟨RX5, "sees", "(III)I"⟩
abbrev cX5_forget : ByteArray := prog_1_method_27_code
def yX5_forget : MethodName := ⟨RX5, "forget", "()I"⟩
abbrev cX5_unseen : ByteArray := prog_1_method_28_code
def yX5_unseen : MethodName := ⟨RX5, "unseen", "()I"⟩
abbrev cX5_lampsThatMayBeOut : ByteArray := prog_1_method_29_code
def yX5_lampsThatMayBeOut : MethodName := ⟨RX5, "lampsThatMayBeOut", "(I)I"⟩
abbrev cX5_keep : ByteArray := prog_1_method_30_code
def yX5_keep : MethodName := ⟨RX5, "keep", "(I)I"⟩
abbrev cX5_back : ByteArray := prog_1_method_31_code
def yX5_back : MethodName := ⟨RX5, "back", "(I)I"⟩
abbrev cX5_count : ByteArray := prog_1_method_32_code
def yX5_count : MethodName := ⟨RX5, "count", "(I)I"⟩
def RX6 : String := "LampPlansModel"
def TX6 : u_T := fun k => match k with
  | 0 => ("LampPlansModel", "thrown", "I", false)
  | 1 => ("LampPlansModel", "width", "I", false)
  | 2 => ("LampPlansModel", "height", "I", false)
  | 3 => ("LampPlansModel", "s", "[I", true)
  | 4 => ("LampPlansModel", "past", "[I", true)
  | 5 => ("LampPlansModel", "undos", "I", false)
  | 6 => ("LampPlansModel", "kept", "[I", true)
  | 7 => ("LampPlansModel", "isKept", "[Z", true)
  | 8 => ("LampPlansModel", "seen", "I", false)
  | 9 => ("LampPlansModel", "seenX", "[I", true)
  | 10 => ("LampPlansModel", "seenY", "[I", true)
  | 11 => ("LampPlansModel", "seenIs", "[I", true)
  | 12 => ("LampPlansModel", "letters", "I", false)
  | 13 => ("LampPlansModel", "text", "[I", true)
  | 14 => ("LampPlansModel", "next", "I", false)
  | 15 => ("LampPlansModel", "begin", "I", false)
  | 16 => ("LampPlansModel", "token", "I", false)
  | 17 => ("LampPlansModel", "number", "I", false)
  | 18 => ("LampPlansModel", "readWidth", "I", false)
  | 19 => ("LampPlansModel", "readHeight", "I", false)
  | 20 => ("LampPlansModel", "readWalls", "I", false)
  | 21 => ("LampPlansModel", "wallOf", "[I", true)
  | 22 => ("LampPlansModel", "readLamps", "I", false)
  | 23 => ("LampPlansModel", "lampOf", "[I", true)
  | 24 => ("LampPlansModel", "events", "I", false)
  | 25 => ("LampPlansModel", "eventX", "[I", true)
  | 26 => ("LampPlansModel", "eventY", "[I", true)
  | 27 => ("LampPlansModel", "farUpper", "I", false)
  | 28 => ("LampPlansModel", "farLower", "I", false)
  | _ => ("LampPlansModel", "spotBy", "[I", true)
def tyX6 : Nat → FieldType := fun k => match k with
  | 0 => .int
  | 1 => .int
  | 2 => .int
  | 3 => .array .int
  | 4 => .array .int
  | 5 => .int
  | 6 => .array .int
  | 7 => .array .boolean
  | 8 => .int
  | 9 => .array .int
  | 10 => .array .int
  | 11 => .array .int
  | 12 => .int
  | 13 => .array .int
  | 14 => .int
  | 15 => .int
  | 16 => .int
  | 17 => .int
  | 18 => .int
  | 19 => .int
  | 20 => .int
  | 21 => .array .int
  | 22 => .int
  | 23 => .array .int
  | 24 => .int
  | 25 => .array .int
  | 26 => .array .int
  | 27 => .int
  | 28 => .int
  | _ => .array .int
abbrev wsX60 : List Cond := u_ws RX6 TX6 30
theorem nmX6 : ∀ a, a < 30 → ∀ b, b < 30 → a ≠ b → (TX6 a).2.1 ≠ (TX6 b).2.1 := by decide +kernel
theorem tyX6_ok : ∀ k, k < 30 → parseFieldDescriptor (TX6 k).2.2.1 = some (tyX6 k) := by decide +kernel
abbrev cX6_init : ByteArray := prog_8_method_1_code
def yX6_init : MethodName := ⟨RX6, "<init>", "()V"⟩
abbrev cX6_in : ByteArray := prog_8_method_3_code
def yX6_in : MethodName := ⟨RX6, "in", "(III)Z"⟩
abbrev cX6_size : ByteArray := prog_8_method_4_code
def yX6_size : MethodName := ⟨RX6, "size", "(I)I"⟩
abbrev cX6_isSpot : ByteArray := prog_8_method_5_code
def yX6_isSpot : MethodName := ⟨RX6, "isSpot", "(II)Z"⟩
abbrev cX6_isLamp : ByteArray := prog_8_method_6_code
def yX6_isLamp : MethodName := ⟨RX6, "isLamp", "(I)Z"⟩
abbrev cX6_isWall : ByteArray := prog_8_method_7_code
def yX6_isWall : MethodName := ⟨RX6, "isWall", "(I)Z"⟩
abbrev cX6_ofLamp : ByteArray := prog_8_method_8_code
def yX6_ofLamp : MethodName := ⟨RX6, "ofLamp", "(II)I"⟩
abbrev cX6_ofWall : ByteArray := prog_8_method_9_code
def yX6_ofWall : MethodName := ⟨RX6, "ofWall", "(II)I"⟩
abbrev cX6_lampAt : ByteArray := prog_8_method_10_code
def yX6_lampAt : MethodName := ⟨RX6, "lampAt", "(II)I"⟩
abbrev cX6_type : ByteArray := prog_8_method_11_code
def yX6_type : MethodName := ⟨RX6, "type", "(I)I"⟩
abbrev cX6_clear : ByteArray := prog_8_method_12_code
def yX6_clear : MethodName := ⟨RX6, "clear", "()I"⟩
abbrev cX6_isFigure : ByteArray := prog_8_method_13_code
def yX6_isFigure : MethodName := ⟨RX6, "isFigure", "(I)Z"⟩
abbrev cX6_steps : ByteArray := prog_8_method_14_code
def yX6_steps : MethodName := ⟨RX6, "steps", "()V"⟩
abbrev cX6_reads : ByteArray := prog_8_method_15_code
def yX6_reads : MethodName := ⟨RX6, "reads", "(II)Z"⟩
abbrev cX6_readsPlan : ByteArray := prog_8_method_16_code
def yX6_readsPlan : MethodName := ⟨RX6, "readsPlan", "(I)Z"⟩
abbrev cX6_readsWall : ByteArray := prog_8_method_17_code
def yX6_readsWall : MethodName := ⟨RX6, "readsWall", "(I)Z"⟩
abbrev cX6_readsLamp : ByteArray := prog_8_method_18_code
def yX6_readsLamp : MethodName := ⟨RX6, "readsLamp", "()Z"⟩
abbrev cX6_item : ByteArray := prog_8_method_19_code
def yX6_item : MethodName := ⟨RX6, "item", "(I)Z"⟩
abbrev cX6_begins : ByteArray := prog_8_method_20_code
def yX6_begins : MethodName := ⟨RX6, "begins", "()V"⟩
abbrev cX6_setsWall : ByteArray := prog_8_method_21_code
def yX6_setsWall : MethodName := ⟨RX6, "setsWall", "(IIIII)V"⟩
abbrev cX6_becomes : ByteArray := prog_8_method_22_code
def yX6_becomes : MethodName := ⟨RX6, "becomes", "()V"⟩
abbrev cX6_plan : ByteArray := prog_8_method_23_code
def yX6_plan : MethodName := ⟨RX6, "plan", "()I"⟩
abbrev cX6_wall : ByteArray := prog_8_method_24_code
def yX6_wall : MethodName := ⟨RX6, "wall", "(II)I"⟩
abbrev cX6_lamp : ByteArray := prog_8_method_25_code
def yX6_lamp : MethodName := ⟨RX6, "lamp", "(II)I"⟩
abbrev cX6_isBetween : ByteArray := prog_8_method_26_code
def yX6_isBetween : MethodName := ⟨RX6, "isBetween", "(IIIII)Z"⟩
abbrev cX6_isLit : ByteArray := prog_8_method_27_code
def yX6_isLit : MethodName := ⟨RX6, "isLit", "(IIIII)Z"⟩
abbrev cX6_isLitBy : ByteArray := prog_8_method_28_code
def yX6_isLitBy : MethodName := ⟨RX6, "isLitBy", "(IIII)Z"⟩
abbrev cX6_lampsOf : ByteArray := prog_8_method_29_code
def yX6_lampsOf : MethodName := ⟨RX6, "lampsOf", "(III)I"⟩
abbrev cX6_on : ByteArray := prog_8_method_30_code
def yX6_on : MethodName := ⟨RX6, "on", "()I"⟩
abbrev cX6_allBy : ByteArray := prog_8_method_31_code
def yX6_allBy : MethodName := ⟨RX6, "allBy", "(I)I"⟩
abbrev cX6_lit : ByteArray := prog_8_method_32_code
def yX6_lit : MethodName := ⟨RX6, "lit", "(III)I"⟩
abbrev cX6_by : ByteArray := prog_8_method_33_code
def yX6_by : MethodName := ⟨RX6, "by", "(II)I"⟩
abbrev cX6_lights : ByteArray := prog_8_method_34_code
def yX6_lights : MethodName := ⟨RX6, "lights", "(I)I"⟩
abbrev cX6_all : ByteArray := prog_8_method_35_code
def yX6_all : MethodName := ⟨RX6, "all", "()I"⟩
abbrev cX6_divisor : ByteArray := prog_8_method_36_code
def yX6_divisor : MethodName := ⟨RX6, "divisor", "(II)I"⟩
abbrev cX6_isAhead : ByteArray := prog_8_method_37_code
def yX6_isAhead : MethodName := ⟨RX6, "isAhead", "(IIII)Z"⟩
abbrev cX6_comes : ByteArray := prog_8_method_38_code
def yX6_comes : MethodName := ⟨RX6, "comes", "(III)V"⟩
abbrev cX6_laysEvents : ByteArray := prog_8_method_39_code
def yX6_laysEvents : MethodName := ⟨RX6, "laysEvents", "(I)V"⟩
abbrev cX6_meets : ByteArray := prog_8_method_40_code
def yX6_meets : MethodName := ⟨RX6, "meets", "(IIII)Z"⟩
abbrev cX6_firstWall : ByteArray := prog_8_method_41_code
def yX6_firstWall : MethodName := ⟨RX6, "firstWall", "(III)I"⟩
abbrev cX6_wallOfSector : ByteArray := prog_8_method_42_code
def yX6_wallOfSector : MethodName := ⟨RX6, "wallOfSector", "(II)I"⟩
abbrev cX6_events : ByteArray := prog_8_method_43_code
def yX6_events : MethodName := ⟨RX6, "events", "(I)I"⟩
abbrev cX6_areaOf : ByteArray := prog_8_method_44_code
def yX6_areaOf : MethodName := ⟨RX6, "areaOf", "(IIII)I"⟩
abbrev cX6_event : ByteArray := prog_8_method_45_code
def yX6_event : MethodName := ⟨RX6, "event", "(III)I"⟩
abbrev cX6_sector : ByteArray := prog_8_method_46_code
def yX6_sector : MethodName := ⟨RX6, "sector", "(III)I"⟩
abbrev cX6_walls : ByteArray := prog_8_method_47_code
def yX6_walls : MethodName := ⟨RX6, "walls", "(I)I"⟩
abbrev cX6_laysSpots : ByteArray := prog_8_method_48_code
def yX6_laysSpots : MethodName := ⟨RX6, "laysSpots", "()V"⟩
abbrev cX6_isEnough : ByteArray := prog_8_method_49_code
def yX6_isEnough : MethodName := ⟨RX6, "isEnough", "(I)Z"⟩
abbrev cX6_ones : ByteArray := prog_8_method_50_code
def yX6_ones : MethodName := ⟨RX6, "ones", "(I)I"⟩
abbrev cX6_fewest : ByteArray := prog_8_method_51_code
def yX6_fewest : MethodName := ⟨RX6, "fewest", "()I"⟩
abbrev cX6_best : ByteArray := prog_8_method_52_code
def yX6_best : MethodName := ⟨RX6, "best", "(I)I"⟩
abbrev cX6_gain : ByteArray := prog_8_method_53_code
def yX6_gain : MethodName := ⟨RX6, "gain", "(I)I"⟩
abbrev cX6_worst : ByteArray := prog_8_method_54_code
def yX6_worst : MethodName := ⟨RX6, "worst", "()I"⟩
abbrev cX6_notes : ByteArray := prog_8_method_55_code
def yX6_notes : MethodName := ⟨RX6, "notes", "()V"⟩
abbrev cX6_puts : ByteArray := prog_8_method_56_code
def yX6_puts : MethodName := ⟨RX6, "puts", "(II)I"⟩
abbrev cX6_takes : ByteArray := prog_8_method_57_code
def yX6_takes : MethodName := ⟨RX6, "takes", "(I)I"⟩
abbrev cX6_switches : ByteArray := prog_8_method_58_code
def yX6_switches : MethodName := ⟨RX6, "switches", "(I)I"⟩
abbrev cX6_builds : ByteArray := prog_8_method_59_code
def yX6_builds : MethodName := ⟨RX6, "builds", "(IIII)I"⟩
abbrev cX6_breaks : ByteArray := prog_8_method_60_code
def yX6_breaks : MethodName := ⟨RX6, "breaks", "(I)I"⟩
abbrev cX6_undo : ByteArray := prog_8_method_61_code
def yX6_undo : MethodName := ⟨RX6, "undo", "()I"⟩
abbrev cX6_sees : ByteArray := prog_8_method_62_code
def yX6_sees : MethodName := ⟨RX6, "sees", "(III)I"⟩
abbrev cX6_forget : ByteArray := prog_8_method_63_code
def yX6_forget : MethodName := ⟨RX6, "forget", "()I"⟩
abbrev cX6_unseen : ByteArray := prog_8_method_64_code
def yX6_unseen : MethodName := ⟨RX6, "unseen", "()I"⟩
abbrev cX6_keep : ByteArray := prog_8_method_65_code
def yX6_keep : MethodName := ⟨RX6, "keep", "(I)I"⟩
abbrev cX6_back : ByteArray := prog_8_method_66_code
def yX6_back : MethodName := ⟨RX6, "back", "(I)I"⟩
abbrev cX6_count : ByteArray := prog_8_method_67_code
def yX6_count : MethodName := ⟨RX6, "count", "(I)I"⟩
def RJ6 : String := "java/lang/Integer"
def TJ6 : u_T := fun k => match k with
  | _ => ("", "", "", false)
def tyJ6 : Nat → FieldType := fun k => match k with
  | _ => .int
theorem nmJ6 : ∀ a, a < 0 → ∀ b, b < 0 → a ≠ b → (TJ6 a).2.1 ≠ (TJ6 b).2.1 := by decide +kernel
theorem tyJ6_ok : ∀ k, k < 0 → parseFieldDescriptor (TJ6 k).2.2.1 = some (tyJ6 k) := by decide +kernel
abbrev cJ6_bitCount_0f7a4 : ByteArray := prog_9_method_49_code
def yJ6_bitCount_0f7a4 : MethodName := ⟨RJ6, "bitCount", "(I)I"⟩
def RJ9 : String := "java/lang/Math"
def TJ9 : u_T := fun k => match k with
  | _ => ("", "", "", false)
def tyJ9 : Nat → FieldType := fun k => match k with
  | _ => .int
theorem nmJ9 : ∀ a, a < 0 → ∀ b, b < 0 → a ≠ b → (TJ9 a).2.1 ≠ (TJ9 b).2.1 := by decide +kernel
theorem tyJ9_ok : ∀ k, k < 0 → parseFieldDescriptor (TJ9 k).2.2.1 = some (tyJ9 k) := by decide +kernel
abbrev cJ9_abs_0f7a4 : ByteArray := prog_10_method_59_code
def yJ9_abs_0f7a4 : MethodName := ⟨RJ9, "abs", "(I)I"⟩
abbrev cJ9_min_7cf53 : ByteArray := prog_10_method_69_code
def yJ9_min_7cf53 : MethodName := ⟨RJ9, "min", "(II)I"⟩
def RJ10 : String := "java/lang/System"
def TJ10 : u_T := fun k => match k with
  | _ => ("", "", "", false)
def tyJ10 : Nat → FieldType := fun k => match k with
  | _ => .int
theorem nmJ10 : ∀ a, a < 0 → ∀ b, b < 0 → a ≠ b → (TJ10 a).2.1 ≠ (TJ10 b).2.1 := by decide +kernel
theorem tyJ10_ok : ∀ k, k < 0 → parseFieldDescriptor (TJ10 k).2.2.1 = some (tyJ10 k) := by decide +kernel
def RL : String := "LampPlansLaw"
abbrev cL_law : ByteArray := code
def yL_law : MethodName := ⟨RL, "law", "([I)Z"⟩
abbrev vwCl : List vw_C := [(RX0, TX0, 1), (RX1, TX1, 3), (RX2, TX2, 6), (RX3, TX3, 7), (RX4, TX4, 6), (RX5, TX5, 10), (RX6, TX6, 30)]
end
section
def UW : List Cond := lw_tbl.filter goodWord
theorem uw_i (i : Nat) {w : Cond} (h : lw_tbl[i]? = some w) (hg : goodWord w = true) : w ∈ UW := List.mem_filter.mpr ⟨List.mem_of_getElem? h, hg⟩
theorem wd_0 : (Cond.selects RX4 yX4_readToken yX4_readToken) ∈ UW := uw_i 0 (by decide +kernel) (by decide +kernel)
theorem wd_1 : (Cond.selects RX4 yX4_readItem yX4_readItem) ∈ UW := uw_i 1 (by decide +kernel) (by decide +kernel)
theorem wd_2 : (Cond.selects RX4 yX4_readSize yX4_readSize) ∈ UW := uw_i 2 (by decide +kernel) (by decide +kernel)
theorem wd_3 : (Cond.selects RX4 yX4_readNumber yX4_readNumber) ∈ UW := uw_i 3 (by decide +kernel) (by decide +kernel)
theorem wd_4 : (Cond.selects RX4 yX4_readItemEnd yX4_readItemEnd) ∈ UW := uw_i 4 (by decide +kernel) (by decide +kernel)
theorem wd_5 : (Cond.selects RX4 yX4_readWall yX4_readWall) ∈ UW := uw_i 5 (by decide +kernel) (by decide +kernel)
theorem wd_6 : (Cond.selects RX4 yX4_readLamp yX4_readLamp) ∈ UW := uw_i 6 (by decide +kernel) (by decide +kernel)
theorem wd_7 : (Cond.selects RX3 yX3_addEvent yX3_addEvent) ∈ UW := uw_i 7 (by decide +kernel) (by decide +kernel)
theorem wd_8 : (Cond.selects RX3 yX3_eventBehind yX3_eventBehind) ∈ UW := uw_i 8 (by decide +kernel) (by decide +kernel)
theorem wd_9 : (Cond.selects RX3 yX3_gapTo yX3_gapTo) ∈ UW := uw_i 9 (by decide +kernel) (by decide +kernel)
theorem wd_10 : (Cond.selects RX3 yX3_isOnWall yX3_isOnWall) ∈ UW := uw_i 10 (by decide +kernel) (by decide +kernel)
theorem wd_11 : (Cond.selects RX5 yX5_litWithout yX5_litWithout) ∈ UW := uw_i 11 (by decide +kernel) (by decide +kernel)
theorem wd_12 : (Cond.selects RX5 yX5_lampsThatMayBeOut yX5_lampsThatMayBeOut) ∈ UW := uw_i 12 (by decide +kernel) (by decide +kernel)
theorem wd_13 : (Cond.selects RX6 yX6_begins yX6_begins) ∈ UW := uw_i 13 (by decide +kernel) (by decide +kernel)
theorem wd_14 : (Cond.selects RX6 yX6_becomes yX6_becomes) ∈ UW := uw_i 14 (by decide +kernel) (by decide +kernel)
theorem wd_15 : (Cond.selects RX6 yX6_setsWall yX6_setsWall) ∈ UW := uw_i 15 (by decide +kernel) (by decide +kernel)
theorem wd_16 : (Cond.selects RX6 yX6_steps yX6_steps) ∈ UW := uw_i 16 (by decide +kernel) (by decide +kernel)
theorem wd_17 : (Cond.selects RX6 yX6_isFigure yX6_isFigure) ∈ UW := uw_i 17 (by decide +kernel) (by decide +kernel)
theorem wd_18 : (Cond.selects RX6 yX6_item yX6_item) ∈ UW := uw_i 18 (by decide +kernel) (by decide +kernel)
theorem wd_19 : (Cond.selects RX6 yX6_readsPlan yX6_readsPlan) ∈ UW := uw_i 19 (by decide +kernel) (by decide +kernel)
theorem wd_20 : (Cond.selects RX6 yX6_reads yX6_reads) ∈ UW := uw_i 20 (by decide +kernel) (by decide +kernel)
theorem wd_21 : (Cond.selects RX6 yX6_readsWall yX6_readsWall) ∈ UW := uw_i 21 (by decide +kernel) (by decide +kernel)
theorem wd_22 : (Cond.selects RX6 yX6_readsLamp yX6_readsLamp) ∈ UW := uw_i 22 (by decide +kernel) (by decide +kernel)
theorem wd_23 : (Cond.selects RX6 yX6_isWall yX6_isWall) ∈ UW := uw_i 23 (by decide +kernel) (by decide +kernel)
theorem wd_24 : (Cond.selects RX6 yX6_ofWall yX6_ofWall) ∈ UW := uw_i 24 (by decide +kernel) (by decide +kernel)
theorem wd_25 : (Cond.selects RX6 yX6_isLamp yX6_isLamp) ∈ UW := uw_i 25 (by decide +kernel) (by decide +kernel)
theorem wd_26 : (Cond.selects RX6 yX6_ofLamp yX6_ofLamp) ∈ UW := uw_i 26 (by decide +kernel) (by decide +kernel)
theorem wd_27 : (Cond.selects RX6 yX6_isSpot yX6_isSpot) ∈ UW := uw_i 27 (by decide +kernel) (by decide +kernel)
theorem wd_28 : (Cond.selects RX6 yX6_isLitBy yX6_isLitBy) ∈ UW := uw_i 28 (by decide +kernel) (by decide +kernel)
theorem wd_29 : (Cond.selects RX6 yX6_isLit yX6_isLit) ∈ UW := uw_i 29 (by decide +kernel) (by decide +kernel)
theorem wd_30 : (Cond.selects RX6 yX6_isBetween yX6_isBetween) ∈ UW := uw_i 30 (by decide +kernel) (by decide +kernel)
theorem wd_31 : (Cond.selects RX6 yX6_lampsOf yX6_lampsOf) ∈ UW := uw_i 31 (by decide +kernel) (by decide +kernel)
theorem wd_32 : (Cond.selects RX6 yX6_on yX6_on) ∈ UW := uw_i 32 (by decide +kernel) (by decide +kernel)
theorem wd_33 : (Cond.selects RX6 yX6_allBy yX6_allBy) ∈ UW := uw_i 33 (by decide +kernel) (by decide +kernel)
theorem wd_34 : (Cond.selects RX6 yX6_laysEvents yX6_laysEvents) ∈ UW := uw_i 34 (by decide +kernel) (by decide +kernel)
theorem wd_35 : (Cond.selects RX6 yX6_comes yX6_comes) ∈ UW := uw_i 35 (by decide +kernel) (by decide +kernel)
theorem wd_36 : (Cond.selects RX6 yX6_wallOfSector yX6_wallOfSector) ∈ UW := uw_i 36 (by decide +kernel) (by decide +kernel)
theorem wd_37 : (Cond.selects RX6 yX6_firstWall yX6_firstWall) ∈ UW := uw_i 37 (by decide +kernel) (by decide +kernel)
theorem wd_38 : (Cond.selects RX6 yX6_meets yX6_meets) ∈ UW := uw_i 38 (by decide +kernel) (by decide +kernel)
theorem wd_39 : (Cond.selects RX6 yX6_areaOf yX6_areaOf) ∈ UW := uw_i 39 (by decide +kernel) (by decide +kernel)
theorem wd_40 : (Cond.selects RX6 yX6_laysSpots yX6_laysSpots) ∈ UW := uw_i 40 (by decide +kernel) (by decide +kernel)
theorem wd_41 : (Cond.selects RX6 yX6_isEnough yX6_isEnough) ∈ UW := uw_i 41 (by decide +kernel) (by decide +kernel)
theorem wd_42 : (Cond.selects RX6 yX6_lampAt yX6_lampAt) ∈ UW := uw_i 42 (by decide +kernel) (by decide +kernel)
theorem wd_43 : (Cond.selects RX6 yX6_notes yX6_notes) ∈ UW := uw_i 43 (by decide +kernel) (by decide +kernel)
theorem wd_44 : (Cond.initialized RL) ∈ UW := uw_i 44 (by decide +kernel) (by decide +kernel)
theorem wd_45 : (Cond.initialized RX5) ∈ UW := uw_i 45 (by decide +kernel) (by decide +kernel)
theorem wd_46 : (Cond.initialized RX2) ∈ UW := uw_i 46 (by decide +kernel) (by decide +kernel)
theorem wd_47 : (Cond.initialized RX4) ∈ UW := uw_i 47 (by decide +kernel) (by decide +kernel)
theorem wd_48 : (Cond.initialized RX1) ∈ UW := uw_i 48 (by decide +kernel) (by decide +kernel)
theorem wd_49 : (Cond.initialized RX0) ∈ UW := uw_i 49 (by decide +kernel) (by decide +kernel)
theorem wd_50 : (Cond.initialized RX3) ∈ UW := uw_i 50 (by decide +kernel) (by decide +kernel)
theorem wd_51 : (Cond.initialized RX6) ∈ UW := uw_i 51 (by decide +kernel) (by decide +kernel)
theorem wd_52 : (Cond.initialized RJ10) ∈ UW := uw_i 52 (by decide +kernel) (by decide +kernel)
theorem wd_53 : (Cond.initialized RJ9) ∈ UW := uw_i 53 (by decide +kernel) (by decide +kernel)
theorem wd_54 : (Cond.initialized RJ6) ∈ UW := uw_i 54 (by decide +kernel) (by decide +kernel)
theorem wd_55 : (Cond.classLink RL 7 RX5) ∈ UW := uw_i 55 (by decide +kernel) (by decide +kernel)
theorem wd_56 : (Cond.instantiable RX5 10) ∈ UW := uw_i 56 (by decide +kernel) (by decide +kernel)
theorem wd_57 : (Cond.methodLink RL 9 yX5_init) ∈ UW := uw_i 57 (by decide +kernel) (by decide +kernel)
theorem wd_58 : (Cond.instanceMethod yX5_init) ∈ UW := uw_i 58 (by decide +kernel) (by decide +kernel)
theorem wd_59 : (Cond.code yX5_init prog_1_method_1_code 2 none) ∈ UW := uw_i 59 (by decide +kernel) (by decide +kernel)
theorem wd_60 : (Cond.methodLink RX5 3 ⟨"java/lang/Object", "<init>", "()V"⟩) ∈ UW := uw_i 60 (by decide +kernel) (by decide +kernel)
theorem wd_61 : (Cond.instanceMethod ⟨"java/lang/Object", "<init>", "()V"⟩) ∈ UW := uw_i 61 (by decide +kernel) (by decide +kernel)
theorem wd_62 : (Cond.code ⟨"java/lang/Object", "<init>", "()V"⟩ object_method_1_code 1 none) ∈ UW := uw_i 62 (by decide +kernel) (by decide +kernel)
theorem wd_63 : (Cond.classLink RX5 9 RX2) ∈ UW := uw_i 63 (by decide +kernel) (by decide +kernel)
theorem wd_64 : (Cond.instantiable RX2 6) ∈ UW := uw_i 64 (by decide +kernel) (by decide +kernel)
theorem wd_66 : (Cond.instanceMethod yX2_init) ∈ UW := uw_i 66 (by decide +kernel) (by decide +kernel)
theorem wd_67 : (Cond.code yX2_init prog_4_method_1_code 1 none) ∈ UW := uw_i 67 (by decide +kernel) (by decide +kernel)
theorem wd_68 : (Cond.methodLink RX2 3 ⟨"java/lang/Object", "<init>", "()V"⟩) ∈ UW := uw_i 68 (by decide +kernel) (by decide +kernel)
theorem wd_69 : (Cond.fieldLink RX2 18 "LampPlans$Plan" "width" "I") ∈ UW := uw_i 69 (by decide +kernel) (by decide +kernel)
theorem wd_70 : (Cond.fieldLink RX3 37 "LampPlans$Plan" "width" "I") ∈ UW := uw_i 70 (by decide +kernel) (by decide +kernel)
theorem wd_71 : (Cond.fieldLink RX4 68 "LampPlans$Plan" "width" "I") ∈ UW := uw_i 71 (by decide +kernel) (by decide +kernel)
theorem wd_72 : (Cond.fieldLink RX0 53 "LampPlans$Plan" "width" "I") ∈ UW := uw_i 72 (by decide +kernel) (by decide +kernel)
theorem wd_73 : (Cond.fieldLink RX5 198 "LampPlans$Plan" "width" "I") ∈ UW := uw_i 73 (by decide +kernel) (by decide +kernel)
theorem wd_74 : (Cond.fieldLink RX2 22 "LampPlans$Plan" "height" "I") ∈ UW := uw_i 74 (by decide +kernel) (by decide +kernel)
theorem wd_75 : (Cond.fieldLink RX3 34 "LampPlans$Plan" "height" "I") ∈ UW := uw_i 75 (by decide +kernel) (by decide +kernel)
theorem wd_76 : (Cond.fieldLink RX4 71 "LampPlans$Plan" "height" "I") ∈ UW := uw_i 76 (by decide +kernel) (by decide +kernel)
theorem wd_77 : (Cond.fieldLink RX0 50 "LampPlans$Plan" "height" "I") ∈ UW := uw_i 77 (by decide +kernel) (by decide +kernel)
theorem wd_78 : (Cond.fieldLink RX5 195 "LampPlans$Plan" "height" "I") ∈ UW := uw_i 78 (by decide +kernel) (by decide +kernel)
theorem wd_79 : (Cond.fieldLink RX0 15 "LampPlans$Plan" "wallCount" "I") ∈ UW := uw_i 79 (by decide +kernel) (by decide +kernel)
theorem wd_80 : (Cond.fieldLink RX2 25 "LampPlans$Plan" "wallCount" "I") ∈ UW := uw_i 80 (by decide +kernel) (by decide +kernel)
theorem wd_81 : (Cond.fieldLink RX3 48 "LampPlans$Plan" "wallCount" "I") ∈ UW := uw_i 81 (by decide +kernel) (by decide +kernel)
theorem wd_82 : (Cond.fieldLink RX4 45 "LampPlans$Plan" "wallCount" "I") ∈ UW := uw_i 82 (by decide +kernel) (by decide +kernel)
theorem wd_83 : (Cond.fieldLink RX5 127 "LampPlans$Plan" "wallCount" "I") ∈ UW := uw_i 83 (by decide +kernel) (by decide +kernel)
theorem wd_84 : (Cond.fieldLink RX2 28 "LampPlans$Plan" "lampCount" "I") ∈ UW := uw_i 84 (by decide +kernel) (by decide +kernel)
theorem wd_85 : (Cond.fieldLink RX4 51 "LampPlans$Plan" "lampCount" "I") ∈ UW := uw_i 85 (by decide +kernel) (by decide +kernel)
theorem wd_86 : (Cond.fieldLink RX0 43 "LampPlans$Plan" "lampCount" "I") ∈ UW := uw_i 86 (by decide +kernel) (by decide +kernel)
theorem wd_87 : (Cond.fieldLink RX5 106 "LampPlans$Plan" "lampCount" "I") ∈ UW := uw_i 87 (by decide +kernel) (by decide +kernel)
theorem wd_88 : (Cond.fieldLink RX2 9 "LampPlans$Plan" "wallRows" "[I") ∈ UW := uw_i 88 (by decide +kernel) (by decide +kernel)
theorem wd_89 : (Cond.fieldLink RX2 15 "LampPlans$Plan" "lampRows" "[I") ∈ UW := uw_i 89 (by decide +kernel) (by decide +kernel)
theorem wd_103 : (Cond.arrayClass .int) ∈ UW := uw_i 103 (by decide +kernel) (by decide +kernel)
theorem wd_104 : (Cond.classLink RX5 19 RX4) ∈ UW := uw_i 104 (by decide +kernel) (by decide +kernel)
theorem wd_105 : (Cond.instantiable RX4 6) ∈ UW := uw_i 105 (by decide +kernel) (by decide +kernel)
theorem wd_107 : (Cond.instanceMethod yX4_init) ∈ UW := uw_i 107 (by decide +kernel) (by decide +kernel)
theorem wd_108 : (Cond.code yX4_init prog_6_method_1_code 1 none) ∈ UW := uw_i 108 (by decide +kernel) (by decide +kernel)
theorem wd_109 : (Cond.methodLink RX4 3 ⟨"java/lang/Object", "<init>", "()V"⟩) ∈ UW := uw_i 109 (by decide +kernel) (by decide +kernel)
theorem wd_110 : (Cond.fieldLink RX4 9 "LampPlans$Text" "letters" "[C") ∈ UW := uw_i 110 (by decide +kernel) (by decide +kernel)
theorem wd_111 : (Cond.fieldLink RX4 15 "LampPlans$Text" "length" "I") ∈ UW := uw_i 111 (by decide +kernel) (by decide +kernel)
theorem wd_112 : (Cond.fieldLink RX5 63 "LampPlans$Text" "length" "I") ∈ UW := uw_i 112 (by decide +kernel) (by decide +kernel)
theorem wd_113 : (Cond.fieldLink RX4 38 "LampPlans$Text" "start" "I") ∈ UW := uw_i 113 (by decide +kernel) (by decide +kernel)
theorem wd_114 : (Cond.fieldLink RX4 31 "LampPlans$Text" "sign" "I") ∈ UW := uw_i 114 (by decide +kernel) (by decide +kernel)
theorem wd_115 : (Cond.fieldLink RX4 61 "LampPlans$Text" "number" "I") ∈ UW := uw_i 115 (by decide +kernel) (by decide +kernel)
theorem wd_116 : (Cond.fieldLink RX4 25 "LampPlans$Text" "place" "I") ∈ UW := uw_i 116 (by decide +kernel) (by decide +kernel)
theorem wd_130 : (Cond.arrayClass .char) ∈ UW := uw_i 130 (by decide +kernel) (by decide +kernel)
theorem wd_131 : (Cond.classLink RX5 26 RX1) ∈ UW := uw_i 131 (by decide +kernel) (by decide +kernel)
theorem wd_132 : (Cond.instantiable RX1 3) ∈ UW := uw_i 132 (by decide +kernel) (by decide +kernel)
theorem wd_133 : (Cond.methodLink RX5 28 yX1_init) ∈ UW := uw_i 133 (by decide +kernel) (by decide +kernel)
theorem wd_134 : (Cond.instanceMethod yX1_init) ∈ UW := uw_i 134 (by decide +kernel) (by decide +kernel)
theorem wd_135 : (Cond.code yX1_init prog_3_method_1_code 2 none) ∈ UW := uw_i 135 (by decide +kernel) (by decide +kernel)
theorem wd_136 : (Cond.methodLink RX1 3 ⟨"java/lang/Object", "<init>", "()V"⟩) ∈ UW := uw_i 136 (by decide +kernel) (by decide +kernel)
theorem wd_137 : (Cond.classLink RX1 9 RX2) ∈ UW := uw_i 137 (by decide +kernel) (by decide +kernel)
theorem wd_140 : (Cond.fieldLink RX1 11 "LampPlans$Past" "ring" "[LLampPlans$Plan;") ∈ UW := uw_i 140 (by decide +kernel) (by decide +kernel)
theorem wd_141 : (Cond.fieldLink RX1 18 "LampPlans$Past" "next" "I") ∈ UW := uw_i 141 (by decide +kernel) (by decide +kernel)
theorem wd_142 : (Cond.fieldLink RX1 26 "LampPlans$Past" "size" "I") ∈ UW := uw_i 142 (by decide +kernel) (by decide +kernel)
theorem wd_143 : (Cond.fieldLink RX5 79 "LampPlans$Past" "size" "I") ∈ UW := uw_i 143 (by decide +kernel) (by decide +kernel)
theorem wd_151 : (Cond.classLink RX5 33 RX0) ∈ UW := uw_i 151 (by decide +kernel) (by decide +kernel)
theorem wd_152 : (Cond.instantiable RX0 1) ∈ UW := uw_i 152 (by decide +kernel) (by decide +kernel)
theorem wd_154 : (Cond.instanceMethod yX0_init) ∈ UW := uw_i 154 (by decide +kernel) (by decide +kernel)
theorem wd_155 : (Cond.code yX0_init prog_2_method_1_code 1 none) ∈ UW := uw_i 155 (by decide +kernel) (by decide +kernel)
theorem wd_156 : (Cond.methodLink RX0 3 ⟨"java/lang/Object", "<init>", "()V"⟩) ∈ UW := uw_i 156 (by decide +kernel) (by decide +kernel)
theorem wd_157 : (Cond.fieldLink RX0 9 "LampPlans$Light" "litBy" "[I") ∈ UW := uw_i 157 (by decide +kernel) (by decide +kernel)
theorem wd_161 : (Cond.classLink RX5 40 RX3) ∈ UW := uw_i 161 (by decide +kernel) (by decide +kernel)
theorem wd_162 : (Cond.instantiable RX3 7) ∈ UW := uw_i 162 (by decide +kernel) (by decide +kernel)
theorem wd_164 : (Cond.instanceMethod yX3_init) ∈ UW := uw_i 164 (by decide +kernel) (by decide +kernel)
theorem wd_165 : (Cond.code yX3_init prog_5_method_1_code 1 none) ∈ UW := uw_i 165 (by decide +kernel) (by decide +kernel)
theorem wd_166 : (Cond.methodLink RX3 3 ⟨"java/lang/Object", "<init>", "()V"⟩) ∈ UW := uw_i 166 (by decide +kernel) (by decide +kernel)
theorem wd_167 : (Cond.fieldLink RX3 9 "LampPlans$Ray" "eventX" "[I") ∈ UW := uw_i 167 (by decide +kernel) (by decide +kernel)
theorem wd_168 : (Cond.fieldLink RX5 163 "LampPlans$Ray" "eventX" "[I") ∈ UW := uw_i 168 (by decide +kernel) (by decide +kernel)
theorem wd_169 : (Cond.fieldLink RX3 15 "LampPlans$Ray" "eventY" "[I") ∈ UW := uw_i 169 (by decide +kernel) (by decide +kernel)
theorem wd_170 : (Cond.fieldLink RX5 166 "LampPlans$Ray" "eventY" "[I") ∈ UW := uw_i 170 (by decide +kernel) (by decide +kernel)
theorem wd_171 : (Cond.fieldLink RX3 31 "LampPlans$Ray" "size" "I") ∈ UW := uw_i 171 (by decide +kernel) (by decide +kernel)
theorem wd_172 : (Cond.fieldLink RX5 162 "LampPlans$Ray" "size" "I") ∈ UW := uw_i 172 (by decide +kernel) (by decide +kernel)
theorem wd_173 : (Cond.fieldLink RX3 24 "LampPlans$Ray" "lampX" "I") ∈ UW := uw_i 173 (by decide +kernel) (by decide +kernel)
theorem wd_174 : (Cond.fieldLink RX3 28 "LampPlans$Ray" "lampY" "I") ∈ UW := uw_i 174 (by decide +kernel) (by decide +kernel)
theorem wd_175 : (Cond.fieldLink RX3 78 "LampPlans$Ray" "areaUpper" "I") ∈ UW := uw_i 175 (by decide +kernel) (by decide +kernel)
theorem wd_176 : (Cond.fieldLink RX5 177 "LampPlans$Ray" "areaUpper" "I") ∈ UW := uw_i 176 (by decide +kernel) (by decide +kernel)
theorem wd_177 : (Cond.fieldLink RX3 81 "LampPlans$Ray" "areaLower" "I") ∈ UW := uw_i 177 (by decide +kernel) (by decide +kernel)
theorem wd_178 : (Cond.fieldLink RX5 180 "LampPlans$Ray" "areaLower" "I") ∈ UW := uw_i 178 (by decide +kernel) (by decide +kernel)
theorem wd_194 : (Cond.methodLink RX5 59 yX2_begin) ∈ UW := uw_i 194 (by decide +kernel) (by decide +kernel)
theorem wd_195 : (Cond.instanceMethod yX2_begin) ∈ UW := uw_i 195 (by decide +kernel) (by decide +kernel)
theorem wd_196 : (Cond.selects RX2 yX2_begin yX2_begin) ∈ UW := uw_i 196 (by decide +kernel) (by decide +kernel)
theorem wd_197 : (Cond.code yX2_begin prog_4_method_2_code 3 none) ∈ UW := uw_i 197 (by decide +kernel) (by decide +kernel)
theorem wd_198 : (Cond.methodLink RX2 31 yX2_addWall) ∈ UW := uw_i 198 (by decide +kernel) (by decide +kernel)
theorem wd_199 : (Cond.instanceMethod yX2_addWall) ∈ UW := uw_i 199 (by decide +kernel) (by decide +kernel)
theorem wd_200 : (Cond.selects RX2 yX2_addWall yX2_addWall) ∈ UW := uw_i 200 (by decide +kernel) (by decide +kernel)
theorem wd_201 : (Cond.code yX2_addWall prog_4_method_13_code 6 none) ∈ UW := uw_i 201 (by decide +kernel) (by decide +kernel)
theorem wd_202 : (Cond.fieldLink RX5 12 "LampPlans" "now" "LLampPlans$Plan;") ∈ UW := uw_i 202 (by decide +kernel) (by decide +kernel)
theorem wd_203 : (Cond.fieldLink RX5 16 "LampPlans" "told" "LLampPlans$Plan;") ∈ UW := uw_i 203 (by decide +kernel) (by decide +kernel)
theorem wd_204 : (Cond.fieldLink RX5 22 "LampPlans" "text" "LLampPlans$Text;") ∈ UW := uw_i 204 (by decide +kernel) (by decide +kernel)
theorem wd_205 : (Cond.fieldLink RX5 29 "LampPlans" "past" "LLampPlans$Past;") ∈ UW := uw_i 205 (by decide +kernel) (by decide +kernel)
theorem wd_206 : (Cond.fieldLink RX5 36 "LampPlans" "light" "LLampPlans$Light;") ∈ UW := uw_i 206 (by decide +kernel) (by decide +kernel)
theorem wd_207 : (Cond.fieldLink RX5 43 "LampPlans" "ray" "LLampPlans$Ray;") ∈ UW := uw_i 207 (by decide +kernel) (by decide +kernel)
theorem wd_208 : (Cond.fieldLink RX5 47 "LampPlans" "images" "[LLampPlans$Plan;") ∈ UW := uw_i 208 (by decide +kernel) (by decide +kernel)
theorem wd_209 : (Cond.fieldLink RX5 51 "LampPlans" "kept" "[Z") ∈ UW := uw_i 209 (by decide +kernel) (by decide +kernel)
theorem wd_210 : (Cond.fieldLink RX5 55 "LampPlans" "seenRows" "[I") ∈ UW := uw_i 210 (by decide +kernel) (by decide +kernel)
theorem wd_211 : (Cond.fieldLink RX5 82 "LampPlans" "seenCount" "I") ∈ UW := uw_i 211 (by decide +kernel) (by decide +kernel)
theorem wd_233 : (Cond.arrayClass .boolean) ∈ UW := uw_i 233 (by decide +kernel) (by decide +kernel)
theorem wd_234 : (Cond.methodLink RL 13 yX5_type) ∈ UW := uw_i 234 (by decide +kernel) (by decide +kernel)
theorem wd_235 : (Cond.instanceMethod yX5_type) ∈ UW := uw_i 235 (by decide +kernel) (by decide +kernel)
theorem wd_236 : (Cond.selects RX5 yX5_type yX5_type) ∈ UW := uw_i 236 (by decide +kernel) (by decide +kernel)
theorem wd_237 : (Cond.code yX5_type prog_1_method_2_code 2 (some .int)) ∈ UW := uw_i 237 (by decide +kernel) (by decide +kernel)
theorem wd_238 : (Cond.methodLink RX5 67 yX4_add) ∈ UW := uw_i 238 (by decide +kernel) (by decide +kernel)
theorem wd_239 : (Cond.instanceMethod yX4_add) ∈ UW := uw_i 239 (by decide +kernel) (by decide +kernel)
theorem wd_240 : (Cond.selects RX4 yX4_add yX4_add) ∈ UW := uw_i 240 (by decide +kernel) (by decide +kernel)
theorem wd_241 : (Cond.code yX4_add prog_6_method_2_code 2 none) ∈ UW := uw_i 241 (by decide +kernel) (by decide +kernel)
theorem wd_242 : (Cond.methodLink RL 18 yX5_clear) ∈ UW := uw_i 242 (by decide +kernel) (by decide +kernel)
theorem wd_243 : (Cond.instanceMethod yX5_clear) ∈ UW := uw_i 243 (by decide +kernel) (by decide +kernel)
theorem wd_244 : (Cond.selects RX5 yX5_clear yX5_clear) ∈ UW := uw_i 244 (by decide +kernel) (by decide +kernel)
theorem wd_245 : (Cond.code yX5_clear prog_1_method_3_code 2 (some .int)) ∈ UW := uw_i 245 (by decide +kernel) (by decide +kernel)
theorem wd_246 : (Cond.methodLink RL 23 yX5_plan) ∈ UW := uw_i 246 (by decide +kernel) (by decide +kernel)
theorem wd_247 : (Cond.instanceMethod yX5_plan) ∈ UW := uw_i 247 (by decide +kernel) (by decide +kernel)
theorem wd_248 : (Cond.selects RX5 yX5_plan yX5_plan) ∈ UW := uw_i 248 (by decide +kernel) (by decide +kernel)
theorem wd_249 : (Cond.code yX5_plan prog_1_method_4_code 3 (some .int)) ∈ UW := uw_i 249 (by decide +kernel) (by decide +kernel)
theorem wd_250 : (Cond.methodLink RX5 71 yX4_tell) ∈ UW := uw_i 250 (by decide +kernel) (by decide +kernel)
theorem wd_251 : (Cond.instanceMethod yX4_tell) ∈ UW := uw_i 251 (by decide +kernel) (by decide +kernel)
theorem wd_252 : (Cond.selects RX4 yX4_tell yX4_tell) ∈ UW := uw_i 252 (by decide +kernel) (by decide +kernel)
theorem wd_253 : (Cond.code yX4_tell prog_6_method_3_code 3 (some .int)) ∈ UW := uw_i 253 (by decide +kernel) (by decide +kernel)
theorem wd_254 : (Cond.methodLink RX4 19 yX2_begin) ∈ UW := uw_i 254 (by decide +kernel) (by decide +kernel)
theorem wd_255 : (Cond.methodLink RX4 28 yX4_readToken) ∈ UW := uw_i 255 (by decide +kernel) (by decide +kernel)
theorem wd_257 : (Cond.instanceMethod yX4_readToken) ∈ UW := uw_i 257 (by decide +kernel) (by decide +kernel)
theorem wd_258 : (Cond.code yX4_readToken prog_6_method_10_code 1 none) ∈ UW := uw_i 258 (by decide +kernel) (by decide +kernel)
theorem wd_259 : (Cond.methodLink RX4 84 yX4_isFigure) ∈ UW := uw_i 259 (by decide +kernel) (by decide +kernel)
theorem wd_260 : (Cond.static yX4_isFigure) ∈ UW := uw_i 260 (by decide +kernel) (by decide +kernel)
theorem wd_261 : (Cond.code yX4_isFigure prog_6_method_11_code 1 (some .boolean)) ∈ UW := uw_i 261 (by decide +kernel) (by decide +kernel)
theorem wd_262 : (Cond.methodLink RX4 34 yX4_readItem) ∈ UW := uw_i 262 (by decide +kernel) (by decide +kernel)
theorem wd_264 : (Cond.instanceMethod yX4_readItem) ∈ UW := uw_i 264 (by decide +kernel) (by decide +kernel)
theorem wd_265 : (Cond.code yX4_readItem prog_6_method_4_code 3 (some .boolean)) ∈ UW := uw_i 265 (by decide +kernel) (by decide +kernel)
theorem wd_266 : (Cond.methodLink RX4 41 yX4_readSize) ∈ UW := uw_i 266 (by decide +kernel) (by decide +kernel)
theorem wd_268 : (Cond.instanceMethod yX4_readSize) ∈ UW := uw_i 268 (by decide +kernel) (by decide +kernel)
theorem wd_269 : (Cond.code yX4_readSize prog_6_method_5_code 3 (some .boolean)) ∈ UW := uw_i 269 (by decide +kernel) (by decide +kernel)
theorem wd_270 : (Cond.methodLink RX4 57 yX4_readNumber) ∈ UW := uw_i 270 (by decide +kernel) (by decide +kernel)
theorem wd_272 : (Cond.instanceMethod yX4_readNumber) ∈ UW := uw_i 272 (by decide +kernel) (by decide +kernel)
theorem wd_273 : (Cond.code yX4_readNumber prog_6_method_8_code 3 (some .boolean)) ∈ UW := uw_i 273 (by decide +kernel) (by decide +kernel)
theorem wd_274 : (Cond.methodLink RX4 64 yX4_readItemEnd) ∈ UW := uw_i 274 (by decide +kernel) (by decide +kernel)
theorem wd_276 : (Cond.instanceMethod yX4_readItemEnd) ∈ UW := uw_i 276 (by decide +kernel) (by decide +kernel)
theorem wd_277 : (Cond.code yX4_readItemEnd prog_6_method_9_code 1 (some .boolean)) ∈ UW := uw_i 277 (by decide +kernel) (by decide +kernel)
theorem wd_278 : (Cond.methodLink RX4 48 yX4_readWall) ∈ UW := uw_i 278 (by decide +kernel) (by decide +kernel)
theorem wd_280 : (Cond.instanceMethod yX4_readWall) ∈ UW := uw_i 280 (by decide +kernel) (by decide +kernel)
theorem wd_281 : (Cond.code yX4_readWall prog_6_method_6_code 5 (some .boolean)) ∈ UW := uw_i 281 (by decide +kernel) (by decide +kernel)
theorem wd_282 : (Cond.methodLink RX4 74 yX2_addWall) ∈ UW := uw_i 282 (by decide +kernel) (by decide +kernel)
theorem wd_283 : (Cond.methodLink RX4 54 yX4_readLamp) ∈ UW := uw_i 283 (by decide +kernel) (by decide +kernel)
theorem wd_285 : (Cond.instanceMethod yX4_readLamp) ∈ UW := uw_i 285 (by decide +kernel) (by decide +kernel)
theorem wd_286 : (Cond.code yX4_readLamp prog_6_method_7_code 3 (some .boolean)) ∈ UW := uw_i 286 (by decide +kernel) (by decide +kernel)
theorem wd_287 : (Cond.methodLink RX4 78 yX2_hasLampAt) ∈ UW := uw_i 287 (by decide +kernel) (by decide +kernel)
theorem wd_288 : (Cond.instanceMethod yX2_hasLampAt) ∈ UW := uw_i 288 (by decide +kernel) (by decide +kernel)
theorem wd_289 : (Cond.selects RX2 yX2_hasLampAt yX2_hasLampAt) ∈ UW := uw_i 289 (by decide +kernel) (by decide +kernel)
theorem wd_290 : (Cond.code yX2_hasLampAt prog_4_method_8_code 4 (some .boolean)) ∈ UW := uw_i 290 (by decide +kernel) (by decide +kernel)
theorem wd_291 : (Cond.methodLink RX2 41 yX2_lampPart) ∈ UW := uw_i 291 (by decide +kernel) (by decide +kernel)
theorem wd_292 : (Cond.instanceMethod yX2_lampPart) ∈ UW := uw_i 292 (by decide +kernel) (by decide +kernel)
theorem wd_293 : (Cond.selects RX2 yX2_lampPart yX2_lampPart) ∈ UW := uw_i 293 (by decide +kernel) (by decide +kernel)
theorem wd_294 : (Cond.code yX2_lampPart prog_4_method_11_code 3 (some .int)) ∈ UW := uw_i 294 (by decide +kernel) (by decide +kernel)
theorem wd_295 : (Cond.methodLink RX4 81 yX2_addLamp) ∈ UW := uw_i 295 (by decide +kernel) (by decide +kernel)
theorem wd_296 : (Cond.instanceMethod yX2_addLamp) ∈ UW := uw_i 296 (by decide +kernel) (by decide +kernel)
theorem wd_297 : (Cond.selects RX2 yX2_addLamp yX2_addLamp) ∈ UW := uw_i 297 (by decide +kernel) (by decide +kernel)
theorem wd_298 : (Cond.code yX2_addLamp prog_4_method_14_code 4 none) ∈ UW := uw_i 298 (by decide +kernel) (by decide +kernel)
theorem wd_299 : (Cond.methodLink RX5 75 yX2_copyFrom) ∈ UW := uw_i 299 (by decide +kernel) (by decide +kernel)
theorem wd_300 : (Cond.instanceMethod yX2_copyFrom) ∈ UW := uw_i 300 (by decide +kernel) (by decide +kernel)
theorem wd_301 : (Cond.selects RX2 yX2_copyFrom yX2_copyFrom) ∈ UW := uw_i 301 (by decide +kernel) (by decide +kernel)
theorem wd_302 : (Cond.code yX2_copyFrom prog_4_method_3_code 2 none) ∈ UW := uw_i 302 (by decide +kernel) (by decide +kernel)
theorem wd_303 : (Cond.methodLink RX2 35 ⟨"java/lang/System", "arraycopy", "(Ljava/lang/Object;ILjava/lang/Object;II)V"⟩) ∈ UW := uw_i 303 (by decide +kernel) (by decide +kernel)
theorem wd_304 : (Cond.static ⟨"java/lang/System", "arraycopy", "(Ljava/lang/Object;ILjava/lang/Object;II)V"⟩) ∈ UW := uw_i 304 (by decide +kernel) (by decide +kernel)
theorem wd_305 : (Cond.native ⟨"java/lang/System", "arraycopy", "(Ljava/lang/Object;ILjava/lang/Object;II)V"⟩) ∈ UW := uw_i 305 (by decide +kernel) (by decide +kernel)
theorem wd_306 : (Cond.methodLink RL 27 yX5_wall) ∈ UW := uw_i 306 (by decide +kernel) (by decide +kernel)
theorem wd_307 : (Cond.instanceMethod yX5_wall) ∈ UW := uw_i 307 (by decide +kernel) (by decide +kernel)
theorem wd_308 : (Cond.selects RX5 yX5_wall yX5_wall) ∈ UW := uw_i 308 (by decide +kernel) (by decide +kernel)
theorem wd_309 : (Cond.code yX5_wall prog_1_method_5_code 3 (some .int)) ∈ UW := uw_i 309 (by decide +kernel) (by decide +kernel)
theorem wd_310 : (Cond.methodLink RX5 85 yX2_hasWall) ∈ UW := uw_i 310 (by decide +kernel) (by decide +kernel)
theorem wd_311 : (Cond.instanceMethod yX2_hasWall) ∈ UW := uw_i 311 (by decide +kernel) (by decide +kernel)
theorem wd_312 : (Cond.selects RX2 yX2_hasWall yX2_hasWall) ∈ UW := uw_i 312 (by decide +kernel) (by decide +kernel)
theorem wd_313 : (Cond.code yX2_hasWall prog_4_method_4_code 2 (some .boolean)) ∈ UW := uw_i 313 (by decide +kernel) (by decide +kernel)
theorem wd_314 : (Cond.methodLink RX5 89 yX2_wallPart) ∈ UW := uw_i 314 (by decide +kernel) (by decide +kernel)
theorem wd_315 : (Cond.instanceMethod yX2_wallPart) ∈ UW := uw_i 315 (by decide +kernel) (by decide +kernel)
theorem wd_316 : (Cond.selects RX2 yX2_wallPart yX2_wallPart) ∈ UW := uw_i 316 (by decide +kernel) (by decide +kernel)
theorem wd_317 : (Cond.code yX2_wallPart prog_4_method_10_code 3 (some .int)) ∈ UW := uw_i 317 (by decide +kernel) (by decide +kernel)
theorem wd_318 : (Cond.methodLink RL 32 yX5_lamp) ∈ UW := uw_i 318 (by decide +kernel) (by decide +kernel)
theorem wd_319 : (Cond.instanceMethod yX5_lamp) ∈ UW := uw_i 319 (by decide +kernel) (by decide +kernel)
theorem wd_320 : (Cond.selects RX5 yX5_lamp yX5_lamp) ∈ UW := uw_i 320 (by decide +kernel) (by decide +kernel)
theorem wd_321 : (Cond.code yX5_lamp prog_1_method_6_code 3 (some .int)) ∈ UW := uw_i 321 (by decide +kernel) (by decide +kernel)
theorem wd_322 : (Cond.methodLink RX5 93 yX2_hasLamp) ∈ UW := uw_i 322 (by decide +kernel) (by decide +kernel)
theorem wd_323 : (Cond.instanceMethod yX2_hasLamp) ∈ UW := uw_i 323 (by decide +kernel) (by decide +kernel)
theorem wd_324 : (Cond.selects RX2 yX2_hasLamp yX2_hasLamp) ∈ UW := uw_i 324 (by decide +kernel) (by decide +kernel)
theorem wd_325 : (Cond.code yX2_hasLamp prog_4_method_6_code 2 (some .boolean)) ∈ UW := uw_i 325 (by decide +kernel) (by decide +kernel)
theorem wd_326 : (Cond.methodLink RX5 96 yX2_lampPart) ∈ UW := uw_i 326 (by decide +kernel) (by decide +kernel)
theorem wd_327 : (Cond.methodLink RL 36 yX5_puts) ∈ UW := uw_i 327 (by decide +kernel) (by decide +kernel)
theorem wd_328 : (Cond.instanceMethod yX5_puts) ∈ UW := uw_i 328 (by decide +kernel) (by decide +kernel)
theorem wd_329 : (Cond.selects RX5 yX5_puts yX5_puts) ∈ UW := uw_i 329 (by decide +kernel) (by decide +kernel)
theorem wd_330 : (Cond.code yX5_puts prog_1_method_7_code 3 (some .int)) ∈ UW := uw_i 330 (by decide +kernel) (by decide +kernel)
theorem wd_331 : (Cond.methodLink RX5 99 yX2_hasSpot) ∈ UW := uw_i 331 (by decide +kernel) (by decide +kernel)
theorem wd_332 : (Cond.instanceMethod yX2_hasSpot) ∈ UW := uw_i 332 (by decide +kernel) (by decide +kernel)
theorem wd_333 : (Cond.selects RX2 yX2_hasSpot yX2_hasSpot) ∈ UW := uw_i 333 (by decide +kernel) (by decide +kernel)
theorem wd_334 : (Cond.code yX2_hasSpot prog_4_method_7_code 3 (some .boolean)) ∈ UW := uw_i 334 (by decide +kernel) (by decide +kernel)
theorem wd_335 : (Cond.methodLink RX5 103 yX2_hasLampAt) ∈ UW := uw_i 335 (by decide +kernel) (by decide +kernel)
theorem wd_336 : (Cond.methodLink RX5 109 yX1_remember) ∈ UW := uw_i 336 (by decide +kernel) (by decide +kernel)
theorem wd_337 : (Cond.instanceMethod yX1_remember) ∈ UW := uw_i 337 (by decide +kernel) (by decide +kernel)
theorem wd_338 : (Cond.selects RX1 yX1_remember yX1_remember) ∈ UW := uw_i 338 (by decide +kernel) (by decide +kernel)
theorem wd_339 : (Cond.code yX1_remember prog_3_method_2_code 2 none) ∈ UW := uw_i 339 (by decide +kernel) (by decide +kernel)
theorem wd_340 : (Cond.methodLink RX1 22 yX2_copyFrom) ∈ UW := uw_i 340 (by decide +kernel) (by decide +kernel)
theorem wd_341 : (Cond.methodLink RX1 29 yJ9_min_7cf53) ∈ UW := uw_i 341 (by decide +kernel) (by decide +kernel)
theorem wd_342 : (Cond.static yJ9_min_7cf53) ∈ UW := uw_i 342 (by decide +kernel) (by decide +kernel)
theorem wd_343 : (Cond.code yJ9_min_7cf53 prog_10_method_69_code 2 (some .int)) ∈ UW := uw_i 343 (by decide +kernel) (by decide +kernel)
theorem wd_344 : (Cond.methodLink RX5 112 yX2_addLamp) ∈ UW := uw_i 344 (by decide +kernel) (by decide +kernel)
theorem wd_345 : (Cond.methodLink RL 40 yX5_takes) ∈ UW := uw_i 345 (by decide +kernel) (by decide +kernel)
theorem wd_346 : (Cond.instanceMethod yX5_takes) ∈ UW := uw_i 346 (by decide +kernel) (by decide +kernel)
theorem wd_347 : (Cond.selects RX5 yX5_takes yX5_takes) ∈ UW := uw_i 347 (by decide +kernel) (by decide +kernel)
theorem wd_348 : (Cond.code yX5_takes prog_1_method_8_code 2 (some .int)) ∈ UW := uw_i 348 (by decide +kernel) (by decide +kernel)
theorem wd_349 : (Cond.methodLink RX5 115 yX2_removeLamp) ∈ UW := uw_i 349 (by decide +kernel) (by decide +kernel)
theorem wd_350 : (Cond.instanceMethod yX2_removeLamp) ∈ UW := uw_i 350 (by decide +kernel) (by decide +kernel)
theorem wd_351 : (Cond.selects RX2 yX2_removeLamp yX2_removeLamp) ∈ UW := uw_i 351 (by decide +kernel) (by decide +kernel)
theorem wd_352 : (Cond.code yX2_removeLamp prog_4_method_16_code 2 none) ∈ UW := uw_i 352 (by decide +kernel) (by decide +kernel)
theorem wd_353 : (Cond.methodLink RX2 45 yX2_closeGap) ∈ UW := uw_i 353 (by decide +kernel) (by decide +kernel)
theorem wd_354 : (Cond.static yX2_closeGap) ∈ UW := uw_i 354 (by decide +kernel) (by decide +kernel)
theorem wd_355 : (Cond.code yX2_closeGap prog_4_method_18_code 5 none) ∈ UW := uw_i 355 (by decide +kernel) (by decide +kernel)
theorem wd_356 : (Cond.methodLink RL 44 yX5_switches) ∈ UW := uw_i 356 (by decide +kernel) (by decide +kernel)
theorem wd_357 : (Cond.instanceMethod yX5_switches) ∈ UW := uw_i 357 (by decide +kernel) (by decide +kernel)
theorem wd_358 : (Cond.selects RX5 yX5_switches yX5_switches) ∈ UW := uw_i 358 (by decide +kernel) (by decide +kernel)
theorem wd_359 : (Cond.code yX5_switches prog_1_method_9_code 2 (some .int)) ∈ UW := uw_i 359 (by decide +kernel) (by decide +kernel)
theorem wd_360 : (Cond.methodLink RX5 119 yX2_switchLamp) ∈ UW := uw_i 360 (by decide +kernel) (by decide +kernel)
theorem wd_361 : (Cond.instanceMethod yX2_switchLamp) ∈ UW := uw_i 361 (by decide +kernel) (by decide +kernel)
theorem wd_362 : (Cond.selects RX2 yX2_switchLamp yX2_switchLamp) ∈ UW := uw_i 362 (by decide +kernel) (by decide +kernel)
theorem wd_363 : (Cond.code yX2_switchLamp prog_4_method_17_code 3 (some .int)) ∈ UW := uw_i 363 (by decide +kernel) (by decide +kernel)
theorem wd_364 : (Cond.methodLink RL 48 yX5_builds) ∈ UW := uw_i 364 (by decide +kernel) (by decide +kernel)
theorem wd_365 : (Cond.instanceMethod yX5_builds) ∈ UW := uw_i 365 (by decide +kernel) (by decide +kernel)
theorem wd_366 : (Cond.selects RX5 yX5_builds yX5_builds) ∈ UW := uw_i 366 (by decide +kernel) (by decide +kernel)
theorem wd_367 : (Cond.code yX5_builds prog_1_method_10_code 5 (some .int)) ∈ UW := uw_i 367 (by decide +kernel) (by decide +kernel)
theorem wd_368 : (Cond.methodLink RX5 123 yX2_canHoldWall) ∈ UW := uw_i 368 (by decide +kernel) (by decide +kernel)
theorem wd_369 : (Cond.instanceMethod yX2_canHoldWall) ∈ UW := uw_i 369 (by decide +kernel) (by decide +kernel)
theorem wd_370 : (Cond.selects RX2 yX2_canHoldWall yX2_canHoldWall) ∈ UW := uw_i 370 (by decide +kernel) (by decide +kernel)
theorem wd_371 : (Cond.code yX2_canHoldWall prog_4_method_9_code 5 (some .boolean)) ∈ UW := uw_i 371 (by decide +kernel) (by decide +kernel)
theorem wd_372 : (Cond.methodLink RX5 130 yX2_addWall) ∈ UW := uw_i 372 (by decide +kernel) (by decide +kernel)
theorem wd_373 : (Cond.methodLink RL 53 yX5_breaks) ∈ UW := uw_i 373 (by decide +kernel) (by decide +kernel)
theorem wd_374 : (Cond.instanceMethod yX5_breaks) ∈ UW := uw_i 374 (by decide +kernel) (by decide +kernel)
theorem wd_375 : (Cond.selects RX5 yX5_breaks yX5_breaks) ∈ UW := uw_i 375 (by decide +kernel) (by decide +kernel)
theorem wd_376 : (Cond.code yX5_breaks prog_1_method_11_code 2 (some .int)) ∈ UW := uw_i 376 (by decide +kernel) (by decide +kernel)
theorem wd_377 : (Cond.methodLink RX5 134 yX2_hasInnerWall) ∈ UW := uw_i 377 (by decide +kernel) (by decide +kernel)
theorem wd_378 : (Cond.instanceMethod yX2_hasInnerWall) ∈ UW := uw_i 378 (by decide +kernel) (by decide +kernel)
theorem wd_379 : (Cond.selects RX2 yX2_hasInnerWall yX2_hasInnerWall) ∈ UW := uw_i 379 (by decide +kernel) (by decide +kernel)
theorem wd_380 : (Cond.code yX2_hasInnerWall prog_4_method_5_code 2 (some .boolean)) ∈ UW := uw_i 380 (by decide +kernel) (by decide +kernel)
theorem wd_381 : (Cond.methodLink RX5 137 yX2_removeWall) ∈ UW := uw_i 381 (by decide +kernel) (by decide +kernel)
theorem wd_382 : (Cond.instanceMethod yX2_removeWall) ∈ UW := uw_i 382 (by decide +kernel) (by decide +kernel)
theorem wd_383 : (Cond.selects RX2 yX2_removeWall yX2_removeWall) ∈ UW := uw_i 383 (by decide +kernel) (by decide +kernel)
theorem wd_384 : (Cond.code yX2_removeWall prog_4_method_15_code 2 none) ∈ UW := uw_i 384 (by decide +kernel) (by decide +kernel)
theorem wd_385 : (Cond.methodLink RL 57 yX5_undo) ∈ UW := uw_i 385 (by decide +kernel) (by decide +kernel)
theorem wd_386 : (Cond.instanceMethod yX5_undo) ∈ UW := uw_i 386 (by decide +kernel) (by decide +kernel)
theorem wd_387 : (Cond.selects RX5 yX5_undo yX5_undo) ∈ UW := uw_i 387 (by decide +kernel) (by decide +kernel)
theorem wd_388 : (Cond.code yX5_undo prog_1_method_12_code 1 (some .int)) ∈ UW := uw_i 388 (by decide +kernel) (by decide +kernel)
theorem wd_389 : (Cond.methodLink RX5 140 yX1_restore) ∈ UW := uw_i 389 (by decide +kernel) (by decide +kernel)
theorem wd_390 : (Cond.instanceMethod yX1_restore) ∈ UW := uw_i 390 (by decide +kernel) (by decide +kernel)
theorem wd_391 : (Cond.selects RX1 yX1_restore yX1_restore) ∈ UW := uw_i 391 (by decide +kernel) (by decide +kernel)
theorem wd_392 : (Cond.code yX1_restore prog_3_method_3_code 2 none) ∈ UW := uw_i 392 (by decide +kernel) (by decide +kernel)
theorem wd_393 : (Cond.methodLink RL 61 yX5_lit) ∈ UW := uw_i 393 (by decide +kernel) (by decide +kernel)
theorem wd_394 : (Cond.instanceMethod yX5_lit) ∈ UW := uw_i 394 (by decide +kernel) (by decide +kernel)
theorem wd_395 : (Cond.selects RX5 yX5_lit yX5_lit) ∈ UW := uw_i 395 (by decide +kernel) (by decide +kernel)
theorem wd_396 : (Cond.code yX5_lit prog_1_method_13_code 4 (some .int)) ∈ UW := uw_i 396 (by decide +kernel) (by decide +kernel)
theorem wd_397 : (Cond.methodLink RX5 143 yX0_isLitBy) ∈ UW := uw_i 397 (by decide +kernel) (by decide +kernel)
theorem wd_398 : (Cond.static yX0_isLitBy) ∈ UW := uw_i 398 (by decide +kernel) (by decide +kernel)
theorem wd_399 : (Cond.code yX0_isLitBy prog_2_method_4_code 5 (some .boolean)) ∈ UW := uw_i 399 (by decide +kernel) (by decide +kernel)
theorem wd_400 : (Cond.methodLink RX0 29 yX2_lampPart) ∈ UW := uw_i 400 (by decide +kernel) (by decide +kernel)
theorem wd_401 : (Cond.methodLink RX0 32 yX0_isFree) ∈ UW := uw_i 401 (by decide +kernel) (by decide +kernel)
theorem wd_402 : (Cond.static yX0_isFree) ∈ UW := uw_i 402 (by decide +kernel) (by decide +kernel)
theorem wd_403 : (Cond.code yX0_isFree prog_2_method_2_code 7 (some .boolean)) ∈ UW := uw_i 403 (by decide +kernel) (by decide +kernel)
theorem wd_404 : (Cond.methodLink RX0 21 yX0_isStopped) ∈ UW := uw_i 404 (by decide +kernel) (by decide +kernel)
theorem wd_405 : (Cond.static yX0_isStopped) ∈ UW := uw_i 405 (by decide +kernel) (by decide +kernel)
theorem wd_406 : (Cond.code yX0_isStopped prog_2_method_3_code 16 (some .boolean)) ∈ UW := uw_i 406 (by decide +kernel) (by decide +kernel)
theorem wd_407 : (Cond.methodLink RX0 25 yX2_wallPart) ∈ UW := uw_i 407 (by decide +kernel) (by decide +kernel)
theorem wd_408 : (Cond.methodLink RL 66 yX5_by) ∈ UW := uw_i 408 (by decide +kernel) (by decide +kernel)
theorem wd_409 : (Cond.instanceMethod yX5_by) ∈ UW := uw_i 409 (by decide +kernel) (by decide +kernel)
theorem wd_410 : (Cond.selects RX5 yX5_by yX5_by) ∈ UW := uw_i 410 (by decide +kernel) (by decide +kernel)
theorem wd_411 : (Cond.code yX5_by prog_1_method_14_code 3 (some .int)) ∈ UW := uw_i 411 (by decide +kernel) (by decide +kernel)
theorem wd_412 : (Cond.methodLink RX5 147 yX0_lampsOnAt) ∈ UW := uw_i 412 (by decide +kernel) (by decide +kernel)
theorem wd_413 : (Cond.static yX0_lampsOnAt) ∈ UW := uw_i 413 (by decide +kernel) (by decide +kernel)
theorem wd_414 : (Cond.code yX0_lampsOnAt prog_2_method_5_code 3 (some .int)) ∈ UW := uw_i 414 (by decide +kernel) (by decide +kernel)
theorem wd_415 : (Cond.methodLink RX0 35 yX2_lampsOn) ∈ UW := uw_i 415 (by decide +kernel) (by decide +kernel)
theorem wd_416 : (Cond.instanceMethod yX2_lampsOn) ∈ UW := uw_i 416 (by decide +kernel) (by decide +kernel)
theorem wd_417 : (Cond.selects RX2 yX2_lampsOn yX2_lampsOn) ∈ UW := uw_i 417 (by decide +kernel) (by decide +kernel)
theorem wd_418 : (Cond.code yX2_lampsOn prog_4_method_12_code 3 (some .int)) ∈ UW := uw_i 418 (by decide +kernel) (by decide +kernel)
theorem wd_419 : (Cond.methodLink RX0 39 yX0_lampsAt) ∈ UW := uw_i 419 (by decide +kernel) (by decide +kernel)
theorem wd_420 : (Cond.static yX0_lampsAt) ∈ UW := uw_i 420 (by decide +kernel) (by decide +kernel)
theorem wd_421 : (Cond.code yX0_lampsAt prog_2_method_6_code 7 (some .int)) ∈ UW := uw_i 421 (by decide +kernel) (by decide +kernel)
theorem wd_422 : (Cond.methodLink RX0 46 yX0_isLitBy) ∈ UW := uw_i 422 (by decide +kernel) (by decide +kernel)
theorem wd_423 : (Cond.methodLink RL 70 yX5_lights) ∈ UW := uw_i 423 (by decide +kernel) (by decide +kernel)
theorem wd_424 : (Cond.instanceMethod yX5_lights) ∈ UW := uw_i 424 (by decide +kernel) (by decide +kernel)
theorem wd_425 : (Cond.selects RX5 yX5_lights yX5_lights) ∈ UW := uw_i 425 (by decide +kernel) (by decide +kernel)
theorem wd_426 : (Cond.code yX5_lights prog_1_method_15_code 2 (some .int)) ∈ UW := uw_i 426 (by decide +kernel) (by decide +kernel)
theorem wd_427 : (Cond.methodLink RX5 151 yX0_spotsLitBy) ∈ UW := uw_i 427 (by decide +kernel) (by decide +kernel)
theorem wd_428 : (Cond.instanceMethod yX0_spotsLitBy) ∈ UW := uw_i 428 (by decide +kernel) (by decide +kernel)
theorem wd_429 : (Cond.selects RX0 yX0_spotsLitBy yX0_spotsLitBy) ∈ UW := uw_i 429 (by decide +kernel) (by decide +kernel)
theorem wd_430 : (Cond.code yX0_spotsLitBy prog_2_method_8_code 6 (some .int)) ∈ UW := uw_i 430 (by decide +kernel) (by decide +kernel)
theorem wd_431 : (Cond.methodLink RX0 56 yX0_shine) ∈ UW := uw_i 431 (by decide +kernel) (by decide +kernel)
theorem wd_432 : (Cond.instanceMethod yX0_shine) ∈ UW := uw_i 432 (by decide +kernel) (by decide +kernel)
theorem wd_433 : (Cond.selects RX0 yX0_shine yX0_shine) ∈ UW := uw_i 433 (by decide +kernel) (by decide +kernel)
theorem wd_434 : (Cond.code yX0_shine prog_2_method_7_code 7 none) ∈ UW := uw_i 434 (by decide +kernel) (by decide +kernel)
theorem wd_435 : (Cond.methodLink RL 74 yX5_all) ∈ UW := uw_i 435 (by decide +kernel) (by decide +kernel)
theorem wd_436 : (Cond.instanceMethod yX5_all) ∈ UW := uw_i 436 (by decide +kernel) (by decide +kernel)
theorem wd_437 : (Cond.selects RX5 yX5_all yX5_all) ∈ UW := uw_i 437 (by decide +kernel) (by decide +kernel)
theorem wd_438 : (Cond.code yX5_all prog_1_method_16_code 1 (some .int)) ∈ UW := uw_i 438 (by decide +kernel) (by decide +kernel)
theorem wd_439 : (Cond.methodLink RX5 154 yX2_lampsOn) ∈ UW := uw_i 439 (by decide +kernel) (by decide +kernel)
theorem wd_440 : (Cond.methodLink RL 78 yX5_events) ∈ UW := uw_i 440 (by decide +kernel) (by decide +kernel)
theorem wd_441 : (Cond.instanceMethod yX5_events) ∈ UW := uw_i 441 (by decide +kernel) (by decide +kernel)
theorem wd_442 : (Cond.selects RX5 yX5_events yX5_events) ∈ UW := uw_i 442 (by decide +kernel) (by decide +kernel)
theorem wd_443 : (Cond.code yX5_events prog_1_method_17_code 2 (some .int)) ∈ UW := uw_i 443 (by decide +kernel) (by decide +kernel)
theorem wd_444 : (Cond.methodLink RX5 158 yX3_turnRound) ∈ UW := uw_i 444 (by decide +kernel) (by decide +kernel)
theorem wd_445 : (Cond.instanceMethod yX3_turnRound) ∈ UW := uw_i 445 (by decide +kernel) (by decide +kernel)
theorem wd_446 : (Cond.selects RX3 yX3_turnRound yX3_turnRound) ∈ UW := uw_i 446 (by decide +kernel) (by decide +kernel)
theorem wd_447 : (Cond.code yX3_turnRound prog_5_method_2_code 5 none) ∈ UW := uw_i 447 (by decide +kernel) (by decide +kernel)
theorem wd_448 : (Cond.methodLink RX3 18 yX2_lampPart) ∈ UW := uw_i 448 (by decide +kernel) (by decide +kernel)
theorem wd_449 : (Cond.methodLink RX3 40 yX3_isEventPoint) ∈ UW := uw_i 449 (by decide +kernel) (by decide +kernel)
theorem wd_450 : (Cond.static yX3_isEventPoint) ∈ UW := uw_i 450 (by decide +kernel) (by decide +kernel)
theorem wd_451 : (Cond.code yX3_isEventPoint prog_5_method_3_code 11 (some .boolean)) ∈ UW := uw_i 451 (by decide +kernel) (by decide +kernel)
theorem wd_452 : (Cond.methodLink RX3 51 yX2_wallPart) ∈ UW := uw_i 452 (by decide +kernel) (by decide +kernel)
theorem wd_453 : (Cond.methodLink RX3 44 yX3_addEvent) ∈ UW := uw_i 453 (by decide +kernel) (by decide +kernel)
theorem wd_455 : (Cond.instanceMethod yX3_addEvent) ∈ UW := uw_i 455 (by decide +kernel) (by decide +kernel)
theorem wd_456 : (Cond.code yX3_addEvent prog_5_method_4_code 8 none) ∈ UW := uw_i 456 (by decide +kernel) (by decide +kernel)
theorem wd_457 : (Cond.methodLink RX3 54 yX3_commonDivisor) ∈ UW := uw_i 457 (by decide +kernel) (by decide +kernel)
theorem wd_458 : (Cond.static yX3_commonDivisor) ∈ UW := uw_i 458 (by decide +kernel) (by decide +kernel)
theorem wd_459 : (Cond.code yX3_commonDivisor prog_5_method_11_code 6 (some .int)) ∈ UW := uw_i 459 (by decide +kernel) (by decide +kernel)
theorem wd_460 : (Cond.methodLink RX3 65 yJ9_abs_0f7a4) ∈ UW := uw_i 460 (by decide +kernel) (by decide +kernel)
theorem wd_461 : (Cond.static yJ9_abs_0f7a4) ∈ UW := uw_i 461 (by decide +kernel) (by decide +kernel)
theorem wd_462 : (Cond.code yJ9_abs_0f7a4 prog_10_method_59_code 1 (some .int)) ∈ UW := uw_i 462 (by decide +kernel) (by decide +kernel)
theorem wd_463 : (Cond.methodLink RX3 57 yX3_isAhead) ∈ UW := uw_i 463 (by decide +kernel) (by decide +kernel)
theorem wd_464 : (Cond.static yX3_isAhead) ∈ UW := uw_i 464 (by decide +kernel) (by decide +kernel)
theorem wd_465 : (Cond.code yX3_isAhead prog_5_method_5_code 4 (some .boolean)) ∈ UW := uw_i 465 (by decide +kernel) (by decide +kernel)
theorem wd_466 : (Cond.methodLink RL 82 yX5_event) ∈ UW := uw_i 466 (by decide +kernel) (by decide +kernel)
theorem wd_467 : (Cond.instanceMethod yX5_event) ∈ UW := uw_i 467 (by decide +kernel) (by decide +kernel)
theorem wd_468 : (Cond.selects RX5 yX5_event yX5_event) ∈ UW := uw_i 468 (by decide +kernel) (by decide +kernel)
theorem wd_469 : (Cond.code yX5_event prog_1_method_18_code 4 (some .int)) ∈ UW := uw_i 469 (by decide +kernel) (by decide +kernel)
theorem wd_470 : (Cond.methodLink RL 86 yX5_sector) ∈ UW := uw_i 470 (by decide +kernel) (by decide +kernel)
theorem wd_471 : (Cond.instanceMethod yX5_sector) ∈ UW := uw_i 471 (by decide +kernel) (by decide +kernel)
theorem wd_472 : (Cond.selects RX5 yX5_sector yX5_sector) ∈ UW := uw_i 472 (by decide +kernel) (by decide +kernel)
theorem wd_473 : (Cond.code yX5_sector prog_1_method_19_code 5 (some .int)) ∈ UW := uw_i 473 (by decide +kernel) (by decide +kernel)
theorem wd_474 : (Cond.methodLink RX5 169 yX3_wallOfSector) ∈ UW := uw_i 474 (by decide +kernel) (by decide +kernel)
theorem wd_475 : (Cond.instanceMethod yX3_wallOfSector) ∈ UW := uw_i 475 (by decide +kernel) (by decide +kernel)
theorem wd_476 : (Cond.selects RX3 yX3_wallOfSector yX3_wallOfSector) ∈ UW := uw_i 476 (by decide +kernel) (by decide +kernel)
theorem wd_477 : (Cond.code yX3_wallOfSector prog_5_method_7_code 13 (some .int)) ∈ UW := uw_i 477 (by decide +kernel) (by decide +kernel)
theorem wd_478 : (Cond.methodLink RX3 61 yX3_eventBehind) ∈ UW := uw_i 478 (by decide +kernel) (by decide +kernel)
theorem wd_480 : (Cond.instanceMethod yX3_eventBehind) ∈ UW := uw_i 480 (by decide +kernel) (by decide +kernel)
theorem wd_481 : (Cond.code yX3_eventBehind prog_5_method_6_code 2 (some .int)) ∈ UW := uw_i 481 (by decide +kernel) (by decide +kernel)
theorem wd_482 : (Cond.methodLink RX3 70 yX3_gapTo) ∈ UW := uw_i 482 (by decide +kernel) (by decide +kernel)
theorem wd_484 : (Cond.instanceMethod yX3_gapTo) ∈ UW := uw_i 484 (by decide +kernel) (by decide +kernel)
theorem wd_485 : (Cond.code yX3_gapTo prog_5_method_8_code 3 (some .int)) ∈ UW := uw_i 485 (by decide +kernel) (by decide +kernel)
theorem wd_486 : (Cond.methodLink RX3 74 yX3_isOnWall) ∈ UW := uw_i 486 (by decide +kernel) (by decide +kernel)
theorem wd_488 : (Cond.instanceMethod yX3_isOnWall) ∈ UW := uw_i 488 (by decide +kernel) (by decide +kernel)
theorem wd_489 : (Cond.code yX3_isOnWall prog_5_method_9_code 8 (some .boolean)) ∈ UW := uw_i 489 (by decide +kernel) (by decide +kernel)
theorem wd_490 : (Cond.methodLink RX5 173 yX3_measure) ∈ UW := uw_i 490 (by decide +kernel) (by decide +kernel)
theorem wd_491 : (Cond.instanceMethod yX3_measure) ∈ UW := uw_i 491 (by decide +kernel) (by decide +kernel)
theorem wd_492 : (Cond.selects RX3 yX3_measure yX3_measure) ∈ UW := uw_i 492 (by decide +kernel) (by decide +kernel)
theorem wd_493 : (Cond.code yX3_measure prog_5_method_10_code 12 none) ∈ UW := uw_i 493 (by decide +kernel) (by decide +kernel)
theorem wd_494 : (Cond.methodLink RL 90 yX5_walls) ∈ UW := uw_i 494 (by decide +kernel) (by decide +kernel)
theorem wd_495 : (Cond.instanceMethod yX5_walls) ∈ UW := uw_i 495 (by decide +kernel) (by decide +kernel)
theorem wd_496 : (Cond.selects RX5 yX5_walls yX5_walls) ∈ UW := uw_i 496 (by decide +kernel) (by decide +kernel)
theorem wd_497 : (Cond.code yX5_walls prog_1_method_20_code 5 (some .int)) ∈ UW := uw_i 497 (by decide +kernel) (by decide +kernel)
theorem wd_498 : (Cond.methodLink RL 94 yX5_fewest) ∈ UW := uw_i 498 (by decide +kernel) (by decide +kernel)
theorem wd_499 : (Cond.instanceMethod yX5_fewest) ∈ UW := uw_i 499 (by decide +kernel) (by decide +kernel)
theorem wd_500 : (Cond.selects RX5 yX5_fewest yX5_fewest) ∈ UW := uw_i 500 (by decide +kernel) (by decide +kernel)
theorem wd_501 : (Cond.code yX5_fewest prog_1_method_21_code 4 (some .int)) ∈ UW := uw_i 501 (by decide +kernel) (by decide +kernel)
theorem wd_502 : (Cond.methodLink RX5 183 yX0_shine) ∈ UW := uw_i 502 (by decide +kernel) (by decide +kernel)
theorem wd_503 : (Cond.methodLink RX5 186 yJ6_bitCount_0f7a4) ∈ UW := uw_i 503 (by decide +kernel) (by decide +kernel)
theorem wd_504 : (Cond.static yJ6_bitCount_0f7a4) ∈ UW := uw_i 504 (by decide +kernel) (by decide +kernel)
theorem wd_505 : (Cond.code yJ6_bitCount_0f7a4 prog_9_method_49_code 1 (some .int)) ∈ UW := uw_i 505 (by decide +kernel) (by decide +kernel)
theorem wd_509 : (Cond.methodLink RX5 191 yX0_isEnough) ∈ UW := uw_i 509 (by decide +kernel) (by decide +kernel)
theorem wd_510 : (Cond.instanceMethod yX0_isEnough) ∈ UW := uw_i 510 (by decide +kernel) (by decide +kernel)
theorem wd_511 : (Cond.selects RX0 yX0_isEnough yX0_isEnough) ∈ UW := uw_i 511 (by decide +kernel) (by decide +kernel)
theorem wd_512 : (Cond.code yX0_isEnough prog_2_method_9_code 4 (some .boolean)) ∈ UW := uw_i 512 (by decide +kernel) (by decide +kernel)
theorem wd_513 : (Cond.methodLink RL 98 yX5_best) ∈ UW := uw_i 513 (by decide +kernel) (by decide +kernel)
theorem wd_514 : (Cond.instanceMethod yX5_best) ∈ UW := uw_i 514 (by decide +kernel) (by decide +kernel)
theorem wd_515 : (Cond.selects RX5 yX5_best yX5_best) ∈ UW := uw_i 515 (by decide +kernel) (by decide +kernel)
theorem wd_516 : (Cond.code yX5_best prog_1_method_22_code 8 (some .int)) ∈ UW := uw_i 516 (by decide +kernel) (by decide +kernel)
theorem wd_517 : (Cond.methodLink RX5 201 yX0_darkSpotsSeenFrom) ∈ UW := uw_i 517 (by decide +kernel) (by decide +kernel)
theorem wd_518 : (Cond.instanceMethod yX0_darkSpotsSeenFrom) ∈ UW := uw_i 518 (by decide +kernel) (by decide +kernel)
theorem wd_519 : (Cond.selects RX0 yX0_darkSpotsSeenFrom yX0_darkSpotsSeenFrom) ∈ UW := uw_i 519 (by decide +kernel) (by decide +kernel)
theorem wd_520 : (Cond.code yX0_darkSpotsSeenFrom prog_2_method_10_code 8 (some .int)) ∈ UW := uw_i 520 (by decide +kernel) (by decide +kernel)
theorem wd_521 : (Cond.methodLink RL 102 yX5_gain) ∈ UW := uw_i 521 (by decide +kernel) (by decide +kernel)
theorem wd_522 : (Cond.instanceMethod yX5_gain) ∈ UW := uw_i 522 (by decide +kernel) (by decide +kernel)
theorem wd_523 : (Cond.selects RX5 yX5_gain yX5_gain) ∈ UW := uw_i 523 (by decide +kernel) (by decide +kernel)
theorem wd_524 : (Cond.code yX5_gain prog_1_method_23_code 2 (some .int)) ∈ UW := uw_i 524 (by decide +kernel) (by decide +kernel)
theorem wd_525 : (Cond.methodLink RX5 204 yX5_litWithout) ∈ UW := uw_i 525 (by decide +kernel) (by decide +kernel)
theorem wd_527 : (Cond.instanceMethod yX5_litWithout) ∈ UW := uw_i 527 (by decide +kernel) (by decide +kernel)
theorem wd_528 : (Cond.code yX5_litWithout prog_1_method_25_code 2 (some .int)) ∈ UW := uw_i 528 (by decide +kernel) (by decide +kernel)
theorem wd_529 : (Cond.methodLink RL 106 yX5_worst) ∈ UW := uw_i 529 (by decide +kernel) (by decide +kernel)
theorem wd_530 : (Cond.instanceMethod yX5_worst) ∈ UW := uw_i 530 (by decide +kernel) (by decide +kernel)
theorem wd_531 : (Cond.selects RX5 yX5_worst yX5_worst) ∈ UW := uw_i 531 (by decide +kernel) (by decide +kernel)
theorem wd_532 : (Cond.code yX5_worst prog_1_method_24_code 5 (some .int)) ∈ UW := uw_i 532 (by decide +kernel) (by decide +kernel)
theorem wd_533 : (Cond.methodLink RL 110 yX5_sees) ∈ UW := uw_i 533 (by decide +kernel) (by decide +kernel)
theorem wd_534 : (Cond.instanceMethod yX5_sees) ∈ UW := uw_i 534 (by decide +kernel) (by decide +kernel)
theorem wd_535 : (Cond.selects RX5 yX5_sees yX5_sees) ∈ UW := uw_i 535 (by decide +kernel) (by decide +kernel)
theorem wd_536 : (Cond.code yX5_sees prog_1_method_26_code 5 (some .int)) ∈ UW := uw_i 536 (by decide +kernel) (by decide +kernel)
theorem wd_537 : (Cond.methodLink RL 114 yX5_forget) ∈ UW := uw_i 537 (by decide +kernel) (by decide +kernel)
theorem wd_538 : (Cond.instanceMethod yX5_forget) ∈ UW := uw_i 538 (by decide +kernel) (by decide +kernel)
theorem wd_539 : (Cond.selects RX5 yX5_forget yX5_forget) ∈ UW := uw_i 539 (by decide +kernel) (by decide +kernel)
theorem wd_540 : (Cond.code yX5_forget prog_1_method_27_code 2 (some .int)) ∈ UW := uw_i 540 (by decide +kernel) (by decide +kernel)
theorem wd_541 : (Cond.methodLink RL 118 yX5_unseen) ∈ UW := uw_i 541 (by decide +kernel) (by decide +kernel)
theorem wd_542 : (Cond.instanceMethod yX5_unseen) ∈ UW := uw_i 542 (by decide +kernel) (by decide +kernel)
theorem wd_543 : (Cond.selects RX5 yX5_unseen yX5_unseen) ∈ UW := uw_i 543 (by decide +kernel) (by decide +kernel)
theorem wd_544 : (Cond.code yX5_unseen prog_1_method_28_code 3 (some .int)) ∈ UW := uw_i 544 (by decide +kernel) (by decide +kernel)
theorem wd_545 : (Cond.methodLink RX5 207 yX5_lampsThatMayBeOut) ∈ UW := uw_i 545 (by decide +kernel) (by decide +kernel)
theorem wd_547 : (Cond.instanceMethod yX5_lampsThatMayBeOut) ∈ UW := uw_i 547 (by decide +kernel) (by decide +kernel)
theorem wd_548 : (Cond.code yX5_lampsThatMayBeOut prog_1_method_29_code 6 (some .int)) ∈ UW := uw_i 548 (by decide +kernel) (by decide +kernel)
theorem wd_549 : (Cond.methodLink RL 122 yX5_keep) ∈ UW := uw_i 549 (by decide +kernel) (by decide +kernel)
theorem wd_550 : (Cond.instanceMethod yX5_keep) ∈ UW := uw_i 550 (by decide +kernel) (by decide +kernel)
theorem wd_551 : (Cond.selects RX5 yX5_keep yX5_keep) ∈ UW := uw_i 551 (by decide +kernel) (by decide +kernel)
theorem wd_552 : (Cond.code yX5_keep prog_1_method_30_code 2 (some .int)) ∈ UW := uw_i 552 (by decide +kernel) (by decide +kernel)
theorem wd_553 : (Cond.methodLink RL 126 yX5_back) ∈ UW := uw_i 553 (by decide +kernel) (by decide +kernel)
theorem wd_554 : (Cond.instanceMethod yX5_back) ∈ UW := uw_i 554 (by decide +kernel) (by decide +kernel)
theorem wd_555 : (Cond.selects RX5 yX5_back yX5_back) ∈ UW := uw_i 555 (by decide +kernel) (by decide +kernel)
theorem wd_556 : (Cond.code yX5_back prog_1_method_31_code 2 (some .int)) ∈ UW := uw_i 556 (by decide +kernel) (by decide +kernel)
theorem wd_557 : (Cond.methodLink RL 130 yX5_count) ∈ UW := uw_i 557 (by decide +kernel) (by decide +kernel)
theorem wd_558 : (Cond.instanceMethod yX5_count) ∈ UW := uw_i 558 (by decide +kernel) (by decide +kernel)
theorem wd_559 : (Cond.selects RX5 yX5_count yX5_count) ∈ UW := uw_i 559 (by decide +kernel) (by decide +kernel)
theorem wd_560 : (Cond.code yX5_count prog_1_method_32_code 2 (some .int)) ∈ UW := uw_i 560 (by decide +kernel) (by decide +kernel)
theorem wd_561 : (Cond.classLink RL 10 RX6) ∈ UW := uw_i 561 (by decide +kernel) (by decide +kernel)
theorem wd_562 : (Cond.instantiable RX6 30) ∈ UW := uw_i 562 (by decide +kernel) (by decide +kernel)
theorem wd_563 : (Cond.methodLink RL 12 yX6_init) ∈ UW := uw_i 563 (by decide +kernel) (by decide +kernel)
theorem wd_564 : (Cond.instanceMethod yX6_init) ∈ UW := uw_i 564 (by decide +kernel) (by decide +kernel)
theorem wd_565 : (Cond.code yX6_init prog_8_method_1_code 1 none) ∈ UW := uw_i 565 (by decide +kernel) (by decide +kernel)
theorem wd_566 : (Cond.methodLink RX6 1 ⟨"java/lang/Object", "<init>", "()V"⟩) ∈ UW := uw_i 566 (by decide +kernel) (by decide +kernel)
theorem wd_567 : (Cond.methodLink RX6 50 yX6_begins) ∈ UW := uw_i 567 (by decide +kernel) (by decide +kernel)
theorem wd_569 : (Cond.instanceMethod yX6_begins) ∈ UW := uw_i 569 (by decide +kernel) (by decide +kernel)
theorem wd_570 : (Cond.code yX6_begins prog_8_method_20_code 1 none) ∈ UW := uw_i 570 (by decide +kernel) (by decide +kernel)
theorem wd_571 : (Cond.methodLink RX6 53 yX6_becomes) ∈ UW := uw_i 571 (by decide +kernel) (by decide +kernel)
theorem wd_573 : (Cond.instanceMethod yX6_becomes) ∈ UW := uw_i 573 (by decide +kernel) (by decide +kernel)
theorem wd_574 : (Cond.code yX6_becomes prog_8_method_22_code 2 none) ∈ UW := uw_i 574 (by decide +kernel) (by decide +kernel)
theorem wd_575 : (Cond.methodLink RX6 122 yX6_setsWall) ∈ UW := uw_i 575 (by decide +kernel) (by decide +kernel)
theorem wd_577 : (Cond.instanceMethod yX6_setsWall) ∈ UW := uw_i 577 (by decide +kernel) (by decide +kernel)
theorem wd_578 : (Cond.code yX6_setsWall prog_8_method_21_code 6 none) ∈ UW := uw_i 578 (by decide +kernel) (by decide +kernel)
theorem wd_579 : (Cond.fieldLink RX6 56 "LampPlansModel" "thrown" "I") ∈ UW := uw_i 579 (by decide +kernel) (by decide +kernel)
theorem wd_580 : (Cond.fieldLink RX6 60 "LampPlansModel" "width" "I") ∈ UW := uw_i 580 (by decide +kernel) (by decide +kernel)
theorem wd_581 : (Cond.fieldLink RX6 67 "LampPlansModel" "height" "I") ∈ UW := uw_i 581 (by decide +kernel) (by decide +kernel)
theorem wd_582 : (Cond.fieldLink RX6 7 "LampPlansModel" "s" "[I") ∈ UW := uw_i 582 (by decide +kernel) (by decide +kernel)
theorem wd_583 : (Cond.fieldLink RX6 13 "LampPlansModel" "past" "[I") ∈ UW := uw_i 583 (by decide +kernel) (by decide +kernel)
theorem wd_584 : (Cond.fieldLink RX6 126 "LampPlansModel" "undos" "I") ∈ UW := uw_i 584 (by decide +kernel) (by decide +kernel)
theorem wd_585 : (Cond.fieldLink RX6 16 "LampPlansModel" "kept" "[I") ∈ UW := uw_i 585 (by decide +kernel) (by decide +kernel)
theorem wd_586 : (Cond.fieldLink RX6 19 "LampPlansModel" "isKept" "[Z") ∈ UW := uw_i 586 (by decide +kernel) (by decide +kernel)
theorem wd_587 : (Cond.fieldLink RX6 129 "LampPlansModel" "seen" "I") ∈ UW := uw_i 587 (by decide +kernel) (by decide +kernel)
theorem wd_588 : (Cond.fieldLink RX6 23 "LampPlansModel" "seenX" "[I") ∈ UW := uw_i 588 (by decide +kernel) (by decide +kernel)
theorem wd_589 : (Cond.fieldLink RX6 26 "LampPlansModel" "seenY" "[I") ∈ UW := uw_i 589 (by decide +kernel) (by decide +kernel)
theorem wd_590 : (Cond.fieldLink RX6 29 "LampPlansModel" "seenIs" "[I") ∈ UW := uw_i 590 (by decide +kernel) (by decide +kernel)
theorem wd_591 : (Cond.fieldLink RX6 74 "LampPlansModel" "letters" "I") ∈ UW := uw_i 591 (by decide +kernel) (by decide +kernel)
theorem wd_592 : (Cond.fieldLink RX6 32 "LampPlansModel" "text" "[I") ∈ UW := uw_i 592 (by decide +kernel) (by decide +kernel)
theorem wd_593 : (Cond.fieldLink RX6 77 "LampPlansModel" "next" "I") ∈ UW := uw_i 593 (by decide +kernel) (by decide +kernel)
theorem wd_594 : (Cond.fieldLink RX6 80 "LampPlansModel" "begin" "I") ∈ UW := uw_i 594 (by decide +kernel) (by decide +kernel)
theorem wd_595 : (Cond.fieldLink RX6 83 "LampPlansModel" "token" "I") ∈ UW := uw_i 595 (by decide +kernel) (by decide +kernel)
theorem wd_596 : (Cond.fieldLink RX6 93 "LampPlansModel" "number" "I") ∈ UW := uw_i 596 (by decide +kernel) (by decide +kernel)
theorem wd_597 : (Cond.fieldLink RX6 100 "LampPlansModel" "readWidth" "I") ∈ UW := uw_i 597 (by decide +kernel) (by decide +kernel)
theorem wd_598 : (Cond.fieldLink RX6 103 "LampPlansModel" "readHeight" "I") ∈ UW := uw_i 598 (by decide +kernel) (by decide +kernel)
theorem wd_599 : (Cond.fieldLink RX6 106 "LampPlansModel" "readWalls" "I") ∈ UW := uw_i 599 (by decide +kernel) (by decide +kernel)
theorem wd_600 : (Cond.fieldLink RX6 35 "LampPlansModel" "wallOf" "[I") ∈ UW := uw_i 600 (by decide +kernel) (by decide +kernel)
theorem wd_601 : (Cond.fieldLink RX6 109 "LampPlansModel" "readLamps" "I") ∈ UW := uw_i 601 (by decide +kernel) (by decide +kernel)
theorem wd_602 : (Cond.fieldLink RX6 38 "LampPlansModel" "lampOf" "[I") ∈ UW := uw_i 602 (by decide +kernel) (by decide +kernel)
theorem wd_603 : (Cond.fieldLink RX6 176 "LampPlansModel" "events" "I") ∈ UW := uw_i 603 (by decide +kernel) (by decide +kernel)
theorem wd_604 : (Cond.fieldLink RX6 41 "LampPlansModel" "eventX" "[I") ∈ UW := uw_i 604 (by decide +kernel) (by decide +kernel)
theorem wd_605 : (Cond.fieldLink RX6 44 "LampPlansModel" "eventY" "[I") ∈ UW := uw_i 605 (by decide +kernel) (by decide +kernel)
theorem wd_606 : (Cond.fieldLink RX6 186 "LampPlansModel" "farUpper" "I") ∈ UW := uw_i 606 (by decide +kernel) (by decide +kernel)
theorem wd_607 : (Cond.fieldLink RX6 189 "LampPlansModel" "farLower" "I") ∈ UW := uw_i 607 (by decide +kernel) (by decide +kernel)
theorem wd_608 : (Cond.fieldLink RX6 47 "LampPlansModel" "spotBy" "[I") ∈ UW := uw_i 608 (by decide +kernel) (by decide +kernel)
theorem wd_670 : (Cond.methodLink RL 17 yX6_type) ∈ UW := uw_i 670 (by decide +kernel) (by decide +kernel)
theorem wd_671 : (Cond.instanceMethod yX6_type) ∈ UW := uw_i 671 (by decide +kernel) (by decide +kernel)
theorem wd_672 : (Cond.selects RX6 yX6_type yX6_type) ∈ UW := uw_i 672 (by decide +kernel) (by decide +kernel)
theorem wd_673 : (Cond.code yX6_type prog_8_method_11_code 2 (some .int)) ∈ UW := uw_i 673 (by decide +kernel) (by decide +kernel)
theorem wd_674 : (Cond.methodLink RX6 63 yX6_in) ∈ UW := uw_i 674 (by decide +kernel) (by decide +kernel)
theorem wd_675 : (Cond.static yX6_in) ∈ UW := uw_i 675 (by decide +kernel) (by decide +kernel)
theorem wd_676 : (Cond.code yX6_in prog_8_method_3_code 3 (some .boolean)) ∈ UW := uw_i 676 (by decide +kernel) (by decide +kernel)
theorem wd_677 : (Cond.methodLink RL 22 yX6_clear) ∈ UW := uw_i 677 (by decide +kernel) (by decide +kernel)
theorem wd_678 : (Cond.instanceMethod yX6_clear) ∈ UW := uw_i 678 (by decide +kernel) (by decide +kernel)
theorem wd_679 : (Cond.selects RX6 yX6_clear yX6_clear) ∈ UW := uw_i 679 (by decide +kernel) (by decide +kernel)
theorem wd_680 : (Cond.code yX6_clear prog_8_method_12_code 2 (some .int)) ∈ UW := uw_i 680 (by decide +kernel) (by decide +kernel)
theorem wd_681 : (Cond.methodLink RL 26 yX6_plan) ∈ UW := uw_i 681 (by decide +kernel) (by decide +kernel)
theorem wd_682 : (Cond.instanceMethod yX6_plan) ∈ UW := uw_i 682 (by decide +kernel) (by decide +kernel)
theorem wd_683 : (Cond.selects RX6 yX6_plan yX6_plan) ∈ UW := uw_i 683 (by decide +kernel) (by decide +kernel)
theorem wd_684 : (Cond.code yX6_plan prog_8_method_23_code 3 (some .int)) ∈ UW := uw_i 684 (by decide +kernel) (by decide +kernel)
theorem wd_685 : (Cond.methodLink RX6 90 yX6_steps) ∈ UW := uw_i 685 (by decide +kernel) (by decide +kernel)
theorem wd_687 : (Cond.instanceMethod yX6_steps) ∈ UW := uw_i 687 (by decide +kernel) (by decide +kernel)
theorem wd_688 : (Cond.code yX6_steps prog_8_method_14_code 1 none) ∈ UW := uw_i 688 (by decide +kernel) (by decide +kernel)
theorem wd_689 : (Cond.methodLink RX6 86 yX6_isFigure) ∈ UW := uw_i 689 (by decide +kernel) (by decide +kernel)
theorem wd_691 : (Cond.instanceMethod yX6_isFigure) ∈ UW := uw_i 691 (by decide +kernel) (by decide +kernel)
theorem wd_692 : (Cond.code yX6_isFigure prog_8_method_13_code 2 (some .boolean)) ∈ UW := uw_i 692 (by decide +kernel) (by decide +kernel)
theorem wd_693 : (Cond.methodLink RX6 132 yX6_item) ∈ UW := uw_i 693 (by decide +kernel) (by decide +kernel)
theorem wd_695 : (Cond.instanceMethod yX6_item) ∈ UW := uw_i 695 (by decide +kernel) (by decide +kernel)
theorem wd_696 : (Cond.code yX6_item prog_8_method_19_code 2 (some .boolean)) ∈ UW := uw_i 696 (by decide +kernel) (by decide +kernel)
theorem wd_697 : (Cond.methodLink RX6 112 yX6_readsPlan) ∈ UW := uw_i 697 (by decide +kernel) (by decide +kernel)
theorem wd_699 : (Cond.instanceMethod yX6_readsPlan) ∈ UW := uw_i 699 (by decide +kernel) (by decide +kernel)
theorem wd_700 : (Cond.code yX6_readsPlan prog_8_method_16_code 3 (some .boolean)) ∈ UW := uw_i 700 (by decide +kernel) (by decide +kernel)
theorem wd_701 : (Cond.methodLink RX6 96 yX6_reads) ∈ UW := uw_i 701 (by decide +kernel) (by decide +kernel)
theorem wd_703 : (Cond.instanceMethod yX6_reads) ∈ UW := uw_i 703 (by decide +kernel) (by decide +kernel)
theorem wd_704 : (Cond.code yX6_reads prog_8_method_15_code 3 (some .boolean)) ∈ UW := uw_i 704 (by decide +kernel) (by decide +kernel)
theorem wd_705 : (Cond.methodLink RX6 115 yX6_readsWall) ∈ UW := uw_i 705 (by decide +kernel) (by decide +kernel)
theorem wd_707 : (Cond.instanceMethod yX6_readsWall) ∈ UW := uw_i 707 (by decide +kernel) (by decide +kernel)
theorem wd_708 : (Cond.code yX6_readsWall prog_8_method_17_code 3 (some .boolean)) ∈ UW := uw_i 708 (by decide +kernel) (by decide +kernel)
theorem wd_709 : (Cond.methodLink RX6 118 yX6_readsLamp) ∈ UW := uw_i 709 (by decide +kernel) (by decide +kernel)
theorem wd_711 : (Cond.instanceMethod yX6_readsLamp) ∈ UW := uw_i 711 (by decide +kernel) (by decide +kernel)
theorem wd_712 : (Cond.code yX6_readsLamp prog_8_method_18_code 3 (some .boolean)) ∈ UW := uw_i 712 (by decide +kernel) (by decide +kernel)
theorem wd_713 : (Cond.methodLink RL 31 yX6_wall) ∈ UW := uw_i 713 (by decide +kernel) (by decide +kernel)
theorem wd_714 : (Cond.instanceMethod yX6_wall) ∈ UW := uw_i 714 (by decide +kernel) (by decide +kernel)
theorem wd_715 : (Cond.selects RX6 yX6_wall yX6_wall) ∈ UW := uw_i 715 (by decide +kernel) (by decide +kernel)
theorem wd_716 : (Cond.code yX6_wall prog_8_method_24_code 3 (some .int)) ∈ UW := uw_i 716 (by decide +kernel) (by decide +kernel)
theorem wd_717 : (Cond.methodLink RX6 135 yX6_isWall) ∈ UW := uw_i 717 (by decide +kernel) (by decide +kernel)
theorem wd_719 : (Cond.instanceMethod yX6_isWall) ∈ UW := uw_i 719 (by decide +kernel) (by decide +kernel)
theorem wd_720 : (Cond.code yX6_isWall prog_8_method_7_code 2 (some .boolean)) ∈ UW := uw_i 720 (by decide +kernel) (by decide +kernel)
theorem wd_721 : (Cond.methodLink RX6 138 yX6_ofWall) ∈ UW := uw_i 721 (by decide +kernel) (by decide +kernel)
theorem wd_723 : (Cond.instanceMethod yX6_ofWall) ∈ UW := uw_i 723 (by decide +kernel) (by decide +kernel)
theorem wd_724 : (Cond.code yX6_ofWall prog_8_method_9_code 3 (some .int)) ∈ UW := uw_i 724 (by decide +kernel) (by decide +kernel)
theorem wd_725 : (Cond.methodLink RL 35 yX6_lamp) ∈ UW := uw_i 725 (by decide +kernel) (by decide +kernel)
theorem wd_726 : (Cond.instanceMethod yX6_lamp) ∈ UW := uw_i 726 (by decide +kernel) (by decide +kernel)
theorem wd_727 : (Cond.selects RX6 yX6_lamp yX6_lamp) ∈ UW := uw_i 727 (by decide +kernel) (by decide +kernel)
theorem wd_728 : (Cond.code yX6_lamp prog_8_method_25_code 3 (some .int)) ∈ UW := uw_i 728 (by decide +kernel) (by decide +kernel)
theorem wd_729 : (Cond.methodLink RX6 141 yX6_isLamp) ∈ UW := uw_i 729 (by decide +kernel) (by decide +kernel)
theorem wd_731 : (Cond.instanceMethod yX6_isLamp) ∈ UW := uw_i 731 (by decide +kernel) (by decide +kernel)
theorem wd_732 : (Cond.code yX6_isLamp prog_8_method_6_code 2 (some .boolean)) ∈ UW := uw_i 732 (by decide +kernel) (by decide +kernel)
theorem wd_733 : (Cond.methodLink RX6 70 yX6_ofLamp) ∈ UW := uw_i 733 (by decide +kernel) (by decide +kernel)
theorem wd_735 : (Cond.instanceMethod yX6_ofLamp) ∈ UW := uw_i 735 (by decide +kernel) (by decide +kernel)
theorem wd_736 : (Cond.code yX6_ofLamp prog_8_method_8_code 3 (some .int)) ∈ UW := uw_i 736 (by decide +kernel) (by decide +kernel)
theorem wd_737 : (Cond.methodLink RL 65 yX6_lit) ∈ UW := uw_i 737 (by decide +kernel) (by decide +kernel)
theorem wd_738 : (Cond.instanceMethod yX6_lit) ∈ UW := uw_i 738 (by decide +kernel) (by decide +kernel)
theorem wd_739 : (Cond.selects RX6 yX6_lit yX6_lit) ∈ UW := uw_i 739 (by decide +kernel) (by decide +kernel)
theorem wd_740 : (Cond.code yX6_lit prog_8_method_32_code 4 (some .int)) ∈ UW := uw_i 740 (by decide +kernel) (by decide +kernel)
theorem wd_741 : (Cond.methodLink RX6 163 yX6_isSpot) ∈ UW := uw_i 741 (by decide +kernel) (by decide +kernel)
theorem wd_743 : (Cond.instanceMethod yX6_isSpot) ∈ UW := uw_i 743 (by decide +kernel) (by decide +kernel)
theorem wd_744 : (Cond.code yX6_isSpot prog_8_method_5_code 3 (some .boolean)) ∈ UW := uw_i 744 (by decide +kernel) (by decide +kernel)
theorem wd_745 : (Cond.methodLink RX6 151 yX6_isLitBy) ∈ UW := uw_i 745 (by decide +kernel) (by decide +kernel)
theorem wd_747 : (Cond.instanceMethod yX6_isLitBy) ∈ UW := uw_i 747 (by decide +kernel) (by decide +kernel)
theorem wd_748 : (Cond.code yX6_isLitBy prog_8_method_28_code 5 (some .boolean)) ∈ UW := uw_i 748 (by decide +kernel) (by decide +kernel)
theorem wd_749 : (Cond.methodLink RX6 148 yX6_isLit) ∈ UW := uw_i 749 (by decide +kernel) (by decide +kernel)
theorem wd_751 : (Cond.instanceMethod yX6_isLit) ∈ UW := uw_i 751 (by decide +kernel) (by decide +kernel)
theorem wd_752 : (Cond.code yX6_isLit prog_8_method_27_code 8 (some .boolean)) ∈ UW := uw_i 752 (by decide +kernel) (by decide +kernel)
theorem wd_753 : (Cond.methodLink RX6 144 yX6_isBetween) ∈ UW := uw_i 753 (by decide +kernel) (by decide +kernel)
theorem wd_755 : (Cond.instanceMethod yX6_isBetween) ∈ UW := uw_i 755 (by decide +kernel) (by decide +kernel)
theorem wd_756 : (Cond.code yX6_isBetween prog_8_method_26_code 17 (some .boolean)) ∈ UW := uw_i 756 (by decide +kernel) (by decide +kernel)
theorem wd_757 : (Cond.methodLink RL 69 yX6_by) ∈ UW := uw_i 757 (by decide +kernel) (by decide +kernel)
theorem wd_758 : (Cond.instanceMethod yX6_by) ∈ UW := uw_i 758 (by decide +kernel) (by decide +kernel)
theorem wd_759 : (Cond.selects RX6 yX6_by yX6_by) ∈ UW := uw_i 759 (by decide +kernel) (by decide +kernel)
theorem wd_760 : (Cond.code yX6_by prog_8_method_33_code 3 (some .int)) ∈ UW := uw_i 760 (by decide +kernel) (by decide +kernel)
theorem wd_761 : (Cond.methodLink RX6 155 yX6_lampsOf) ∈ UW := uw_i 761 (by decide +kernel) (by decide +kernel)
theorem wd_763 : (Cond.instanceMethod yX6_lampsOf) ∈ UW := uw_i 763 (by decide +kernel) (by decide +kernel)
theorem wd_764 : (Cond.code yX6_lampsOf prog_8_method_29_code 6 (some .int)) ∈ UW := uw_i 764 (by decide +kernel) (by decide +kernel)
theorem wd_765 : (Cond.methodLink RX6 159 yX6_on) ∈ UW := uw_i 765 (by decide +kernel) (by decide +kernel)
theorem wd_767 : (Cond.instanceMethod yX6_on) ∈ UW := uw_i 767 (by decide +kernel) (by decide +kernel)
theorem wd_768 : (Cond.code yX6_on prog_8_method_30_code 3 (some .int)) ∈ UW := uw_i 768 (by decide +kernel) (by decide +kernel)
theorem wd_769 : (Cond.methodLink RL 73 yX6_lights) ∈ UW := uw_i 769 (by decide +kernel) (by decide +kernel)
theorem wd_770 : (Cond.instanceMethod yX6_lights) ∈ UW := uw_i 770 (by decide +kernel) (by decide +kernel)
theorem wd_771 : (Cond.selects RX6 yX6_lights yX6_lights) ∈ UW := uw_i 771 (by decide +kernel) (by decide +kernel)
theorem wd_772 : (Cond.code yX6_lights prog_8_method_34_code 4 (some .int)) ∈ UW := uw_i 772 (by decide +kernel) (by decide +kernel)
theorem wd_773 : (Cond.methodLink RL 77 yX6_all) ∈ UW := uw_i 773 (by decide +kernel) (by decide +kernel)
theorem wd_774 : (Cond.instanceMethod yX6_all) ∈ UW := uw_i 774 (by decide +kernel) (by decide +kernel)
theorem wd_775 : (Cond.selects RX6 yX6_all yX6_all) ∈ UW := uw_i 775 (by decide +kernel) (by decide +kernel)
theorem wd_776 : (Cond.code yX6_all prog_8_method_35_code 1 (some .int)) ∈ UW := uw_i 776 (by decide +kernel) (by decide +kernel)
theorem wd_777 : (Cond.methodLink RX6 166 yX6_allBy) ∈ UW := uw_i 777 (by decide +kernel) (by decide +kernel)
theorem wd_779 : (Cond.instanceMethod yX6_allBy) ∈ UW := uw_i 779 (by decide +kernel) (by decide +kernel)
theorem wd_780 : (Cond.code yX6_allBy prog_8_method_31_code 4 (some .int)) ∈ UW := uw_i 780 (by decide +kernel) (by decide +kernel)
theorem wd_781 : (Cond.methodLink RL 81 yX6_events) ∈ UW := uw_i 781 (by decide +kernel) (by decide +kernel)
theorem wd_782 : (Cond.instanceMethod yX6_events) ∈ UW := uw_i 782 (by decide +kernel) (by decide +kernel)
theorem wd_783 : (Cond.selects RX6 yX6_events yX6_events) ∈ UW := uw_i 783 (by decide +kernel) (by decide +kernel)
theorem wd_784 : (Cond.code yX6_events prog_8_method_43_code 2 (some .int)) ∈ UW := uw_i 784 (by decide +kernel) (by decide +kernel)
theorem wd_785 : (Cond.methodLink RX6 198 yX6_laysEvents) ∈ UW := uw_i 785 (by decide +kernel) (by decide +kernel)
theorem wd_787 : (Cond.instanceMethod yX6_laysEvents) ∈ UW := uw_i 787 (by decide +kernel) (by decide +kernel)
theorem wd_788 : (Cond.code yX6_laysEvents prog_8_method_39_code 9 none) ∈ UW := uw_i 788 (by decide +kernel) (by decide +kernel)
theorem wd_789 : (Cond.methodLink RX6 182 yX6_comes) ∈ UW := uw_i 789 (by decide +kernel) (by decide +kernel)
theorem wd_791 : (Cond.instanceMethod yX6_comes) ∈ UW := uw_i 791 (by decide +kernel) (by decide +kernel)
theorem wd_792 : (Cond.code yX6_comes prog_8_method_38_code 9 none) ∈ UW := uw_i 792 (by decide +kernel) (by decide +kernel)
theorem wd_793 : (Cond.methodLink RX6 173 yX6_divisor) ∈ UW := uw_i 793 (by decide +kernel) (by decide +kernel)
theorem wd_794 : (Cond.static yX6_divisor) ∈ UW := uw_i 794 (by decide +kernel) (by decide +kernel)
theorem wd_795 : (Cond.code yX6_divisor prog_8_method_36_code 5 (some .int)) ∈ UW := uw_i 795 (by decide +kernel) (by decide +kernel)
theorem wd_796 : (Cond.methodLink RX6 170 yX6_size) ∈ UW := uw_i 796 (by decide +kernel) (by decide +kernel)
theorem wd_797 : (Cond.static yX6_size) ∈ UW := uw_i 797 (by decide +kernel) (by decide +kernel)
theorem wd_798 : (Cond.code yX6_size prog_8_method_4_code 1 (some .int)) ∈ UW := uw_i 798 (by decide +kernel) (by decide +kernel)
theorem wd_799 : (Cond.methodLink RX6 179 yX6_isAhead) ∈ UW := uw_i 799 (by decide +kernel) (by decide +kernel)
theorem wd_800 : (Cond.static yX6_isAhead) ∈ UW := uw_i 800 (by decide +kernel) (by decide +kernel)
theorem wd_801 : (Cond.code yX6_isAhead prog_8_method_37_code 4 (some .boolean)) ∈ UW := uw_i 801 (by decide +kernel) (by decide +kernel)
theorem wd_802 : (Cond.methodLink RL 85 yX6_event) ∈ UW := uw_i 802 (by decide +kernel) (by decide +kernel)
theorem wd_803 : (Cond.instanceMethod yX6_event) ∈ UW := uw_i 803 (by decide +kernel) (by decide +kernel)
theorem wd_804 : (Cond.selects RX6 yX6_event yX6_event) ∈ UW := uw_i 804 (by decide +kernel) (by decide +kernel)
theorem wd_805 : (Cond.code yX6_event prog_8_method_45_code 4 (some .int)) ∈ UW := uw_i 805 (by decide +kernel) (by decide +kernel)
theorem wd_806 : (Cond.methodLink RL 89 yX6_sector) ∈ UW := uw_i 806 (by decide +kernel) (by decide +kernel)
theorem wd_807 : (Cond.instanceMethod yX6_sector) ∈ UW := uw_i 807 (by decide +kernel) (by decide +kernel)
theorem wd_808 : (Cond.selects RX6 yX6_sector yX6_sector) ∈ UW := uw_i 808 (by decide +kernel) (by decide +kernel)
theorem wd_809 : (Cond.code yX6_sector prog_8_method_46_code 5 (some .int)) ∈ UW := uw_i 809 (by decide +kernel) (by decide +kernel)
theorem wd_810 : (Cond.methodLink RX6 202 yX6_wallOfSector) ∈ UW := uw_i 810 (by decide +kernel) (by decide +kernel)
theorem wd_812 : (Cond.instanceMethod yX6_wallOfSector) ∈ UW := uw_i 812 (by decide +kernel) (by decide +kernel)
theorem wd_813 : (Cond.code yX6_wallOfSector prog_8_method_42_code 4 (some .int)) ∈ UW := uw_i 813 (by decide +kernel) (by decide +kernel)
theorem wd_814 : (Cond.methodLink RX6 195 yX6_firstWall) ∈ UW := uw_i 814 (by decide +kernel) (by decide +kernel)
theorem wd_816 : (Cond.instanceMethod yX6_firstWall) ∈ UW := uw_i 816 (by decide +kernel) (by decide +kernel)
theorem wd_817 : (Cond.code yX6_firstWall prog_8_method_41_code 8 (some .int)) ∈ UW := uw_i 817 (by decide +kernel) (by decide +kernel)
theorem wd_818 : (Cond.methodLink RX6 192 yX6_meets) ∈ UW := uw_i 818 (by decide +kernel) (by decide +kernel)
theorem wd_820 : (Cond.instanceMethod yX6_meets) ∈ UW := uw_i 820 (by decide +kernel) (by decide +kernel)
theorem wd_821 : (Cond.code yX6_meets prog_8_method_40_code 11 (some .boolean)) ∈ UW := uw_i 821 (by decide +kernel) (by decide +kernel)
theorem wd_822 : (Cond.methodLink RX6 205 yX6_areaOf) ∈ UW := uw_i 822 (by decide +kernel) (by decide +kernel)
theorem wd_824 : (Cond.instanceMethod yX6_areaOf) ∈ UW := uw_i 824 (by decide +kernel) (by decide +kernel)
theorem wd_825 : (Cond.code yX6_areaOf prog_8_method_44_code 12 (some .int)) ∈ UW := uw_i 825 (by decide +kernel) (by decide +kernel)
theorem wd_826 : (Cond.methodLink RL 93 yX6_walls) ∈ UW := uw_i 826 (by decide +kernel) (by decide +kernel)
theorem wd_827 : (Cond.instanceMethod yX6_walls) ∈ UW := uw_i 827 (by decide +kernel) (by decide +kernel)
theorem wd_828 : (Cond.selects RX6 yX6_walls yX6_walls) ∈ UW := uw_i 828 (by decide +kernel) (by decide +kernel)
theorem wd_829 : (Cond.code yX6_walls prog_8_method_47_code 4 (some .int)) ∈ UW := uw_i 829 (by decide +kernel) (by decide +kernel)
theorem wd_830 : (Cond.methodLink RL 97 yX6_fewest) ∈ UW := uw_i 830 (by decide +kernel) (by decide +kernel)
theorem wd_831 : (Cond.instanceMethod yX6_fewest) ∈ UW := uw_i 831 (by decide +kernel) (by decide +kernel)
theorem wd_832 : (Cond.selects RX6 yX6_fewest yX6_fewest) ∈ UW := uw_i 832 (by decide +kernel) (by decide +kernel)
theorem wd_833 : (Cond.code yX6_fewest prog_8_method_51_code 3 (some .int)) ∈ UW := uw_i 833 (by decide +kernel) (by decide +kernel)
theorem wd_834 : (Cond.methodLink RX6 209 yX6_laysSpots) ∈ UW := uw_i 834 (by decide +kernel) (by decide +kernel)
theorem wd_836 : (Cond.instanceMethod yX6_laysSpots) ∈ UW := uw_i 836 (by decide +kernel) (by decide +kernel)
theorem wd_837 : (Cond.code yX6_laysSpots prog_8_method_48_code 2 none) ∈ UW := uw_i 837 (by decide +kernel) (by decide +kernel)
theorem wd_838 : (Cond.methodLink RX6 212 yX6_ones) ∈ UW := uw_i 838 (by decide +kernel) (by decide +kernel)
theorem wd_839 : (Cond.static yX6_ones) ∈ UW := uw_i 839 (by decide +kernel) (by decide +kernel)
theorem wd_840 : (Cond.code yX6_ones prog_8_method_50_code 3 (some .int)) ∈ UW := uw_i 840 (by decide +kernel) (by decide +kernel)
theorem wd_841 : (Cond.methodLink RX6 215 yX6_isEnough) ∈ UW := uw_i 841 (by decide +kernel) (by decide +kernel)
theorem wd_843 : (Cond.instanceMethod yX6_isEnough) ∈ UW := uw_i 843 (by decide +kernel) (by decide +kernel)
theorem wd_844 : (Cond.code yX6_isEnough prog_8_method_49_code 3 (some .boolean)) ∈ UW := uw_i 844 (by decide +kernel) (by decide +kernel)
theorem wd_845 : (Cond.methodLink RL 101 yX6_best) ∈ UW := uw_i 845 (by decide +kernel) (by decide +kernel)
theorem wd_846 : (Cond.instanceMethod yX6_best) ∈ UW := uw_i 846 (by decide +kernel) (by decide +kernel)
theorem wd_847 : (Cond.selects RX6 yX6_best yX6_best) ∈ UW := uw_i 847 (by decide +kernel) (by decide +kernel)
theorem wd_848 : (Cond.code yX6_best prog_8_method_52_code 7 (some .int)) ∈ UW := uw_i 848 (by decide +kernel) (by decide +kernel)
theorem wd_849 : (Cond.methodLink RX6 218 yX6_lampAt) ∈ UW := uw_i 849 (by decide +kernel) (by decide +kernel)
theorem wd_851 : (Cond.instanceMethod yX6_lampAt) ∈ UW := uw_i 851 (by decide +kernel) (by decide +kernel)
theorem wd_852 : (Cond.code yX6_lampAt prog_8_method_10_code 4 (some .int)) ∈ UW := uw_i 852 (by decide +kernel) (by decide +kernel)
theorem wd_853 : (Cond.methodLink RL 105 yX6_gain) ∈ UW := uw_i 853 (by decide +kernel) (by decide +kernel)
theorem wd_854 : (Cond.instanceMethod yX6_gain) ∈ UW := uw_i 854 (by decide +kernel) (by decide +kernel)
theorem wd_855 : (Cond.selects RX6 yX6_gain yX6_gain) ∈ UW := uw_i 855 (by decide +kernel) (by decide +kernel)
theorem wd_856 : (Cond.code yX6_gain prog_8_method_53_code 2 (some .int)) ∈ UW := uw_i 856 (by decide +kernel) (by decide +kernel)
theorem wd_857 : (Cond.methodLink RL 109 yX6_worst) ∈ UW := uw_i 857 (by decide +kernel) (by decide +kernel)
theorem wd_858 : (Cond.instanceMethod yX6_worst) ∈ UW := uw_i 858 (by decide +kernel) (by decide +kernel)
theorem wd_859 : (Cond.selects RX6 yX6_worst yX6_worst) ∈ UW := uw_i 859 (by decide +kernel) (by decide +kernel)
theorem wd_860 : (Cond.code yX6_worst prog_8_method_54_code 5 (some .int)) ∈ UW := uw_i 860 (by decide +kernel) (by decide +kernel)
theorem wd_861 : (Cond.methodLink RL 39 yX6_puts) ∈ UW := uw_i 861 (by decide +kernel) (by decide +kernel)
theorem wd_862 : (Cond.instanceMethod yX6_puts) ∈ UW := uw_i 862 (by decide +kernel) (by decide +kernel)
theorem wd_863 : (Cond.selects RX6 yX6_puts yX6_puts) ∈ UW := uw_i 863 (by decide +kernel) (by decide +kernel)
theorem wd_864 : (Cond.code yX6_puts prog_8_method_56_code 4 (some .int)) ∈ UW := uw_i 864 (by decide +kernel) (by decide +kernel)
theorem wd_865 : (Cond.methodLink RX6 221 yX6_notes) ∈ UW := uw_i 865 (by decide +kernel) (by decide +kernel)
theorem wd_867 : (Cond.instanceMethod yX6_notes) ∈ UW := uw_i 867 (by decide +kernel) (by decide +kernel)
theorem wd_868 : (Cond.code yX6_notes prog_8_method_55_code 2 none) ∈ UW := uw_i 868 (by decide +kernel) (by decide +kernel)
theorem wd_869 : (Cond.methodLink RL 43 yX6_takes) ∈ UW := uw_i 869 (by decide +kernel) (by decide +kernel)
theorem wd_870 : (Cond.instanceMethod yX6_takes) ∈ UW := uw_i 870 (by decide +kernel) (by decide +kernel)
theorem wd_871 : (Cond.selects RX6 yX6_takes yX6_takes) ∈ UW := uw_i 871 (by decide +kernel) (by decide +kernel)
theorem wd_872 : (Cond.code yX6_takes prog_8_method_57_code 3 (some .int)) ∈ UW := uw_i 872 (by decide +kernel) (by decide +kernel)
theorem wd_873 : (Cond.methodLink RL 47 yX6_switches) ∈ UW := uw_i 873 (by decide +kernel) (by decide +kernel)
theorem wd_874 : (Cond.instanceMethod yX6_switches) ∈ UW := uw_i 874 (by decide +kernel) (by decide +kernel)
theorem wd_875 : (Cond.selects RX6 yX6_switches yX6_switches) ∈ UW := uw_i 875 (by decide +kernel) (by decide +kernel)
theorem wd_876 : (Cond.code yX6_switches prog_8_method_58_code 2 (some .int)) ∈ UW := uw_i 876 (by decide +kernel) (by decide +kernel)
theorem wd_877 : (Cond.methodLink RL 52 yX6_builds) ∈ UW := uw_i 877 (by decide +kernel) (by decide +kernel)
theorem wd_878 : (Cond.instanceMethod yX6_builds) ∈ UW := uw_i 878 (by decide +kernel) (by decide +kernel)
theorem wd_879 : (Cond.selects RX6 yX6_builds yX6_builds) ∈ UW := uw_i 879 (by decide +kernel) (by decide +kernel)
theorem wd_880 : (Cond.code yX6_builds prog_8_method_59_code 5 (some .int)) ∈ UW := uw_i 880 (by decide +kernel) (by decide +kernel)
theorem wd_881 : (Cond.methodLink RL 56 yX6_breaks) ∈ UW := uw_i 881 (by decide +kernel) (by decide +kernel)
theorem wd_882 : (Cond.instanceMethod yX6_breaks) ∈ UW := uw_i 882 (by decide +kernel) (by decide +kernel)
theorem wd_883 : (Cond.selects RX6 yX6_breaks yX6_breaks) ∈ UW := uw_i 883 (by decide +kernel) (by decide +kernel)
theorem wd_884 : (Cond.code yX6_breaks prog_8_method_60_code 3 (some .int)) ∈ UW := uw_i 884 (by decide +kernel) (by decide +kernel)
theorem wd_885 : (Cond.methodLink RL 60 yX6_undo) ∈ UW := uw_i 885 (by decide +kernel) (by decide +kernel)
theorem wd_886 : (Cond.instanceMethod yX6_undo) ∈ UW := uw_i 886 (by decide +kernel) (by decide +kernel)
theorem wd_887 : (Cond.selects RX6 yX6_undo yX6_undo) ∈ UW := uw_i 887 (by decide +kernel) (by decide +kernel)
theorem wd_888 : (Cond.code yX6_undo prog_8_method_61_code 2 (some .int)) ∈ UW := uw_i 888 (by decide +kernel) (by decide +kernel)
theorem wd_889 : (Cond.methodLink RL 113 yX6_sees) ∈ UW := uw_i 889 (by decide +kernel) (by decide +kernel)
theorem wd_890 : (Cond.instanceMethod yX6_sees) ∈ UW := uw_i 890 (by decide +kernel) (by decide +kernel)
theorem wd_891 : (Cond.selects RX6 yX6_sees yX6_sees) ∈ UW := uw_i 891 (by decide +kernel) (by decide +kernel)
theorem wd_892 : (Cond.code yX6_sees prog_8_method_62_code 4 (some .int)) ∈ UW := uw_i 892 (by decide +kernel) (by decide +kernel)
theorem wd_893 : (Cond.methodLink RL 117 yX6_forget) ∈ UW := uw_i 893 (by decide +kernel) (by decide +kernel)
theorem wd_894 : (Cond.instanceMethod yX6_forget) ∈ UW := uw_i 894 (by decide +kernel) (by decide +kernel)
theorem wd_895 : (Cond.selects RX6 yX6_forget yX6_forget) ∈ UW := uw_i 895 (by decide +kernel) (by decide +kernel)
theorem wd_896 : (Cond.code yX6_forget prog_8_method_63_code 2 (some .int)) ∈ UW := uw_i 896 (by decide +kernel) (by decide +kernel)
theorem wd_897 : (Cond.methodLink RL 121 yX6_unseen) ∈ UW := uw_i 897 (by decide +kernel) (by decide +kernel)
theorem wd_898 : (Cond.instanceMethod yX6_unseen) ∈ UW := uw_i 898 (by decide +kernel) (by decide +kernel)
theorem wd_899 : (Cond.selects RX6 yX6_unseen yX6_unseen) ∈ UW := uw_i 899 (by decide +kernel) (by decide +kernel)
theorem wd_900 : (Cond.code yX6_unseen prog_8_method_64_code 6 (some .int)) ∈ UW := uw_i 900 (by decide +kernel) (by decide +kernel)
theorem wd_901 : (Cond.methodLink RL 125 yX6_keep) ∈ UW := uw_i 901 (by decide +kernel) (by decide +kernel)
theorem wd_902 : (Cond.instanceMethod yX6_keep) ∈ UW := uw_i 902 (by decide +kernel) (by decide +kernel)
theorem wd_903 : (Cond.selects RX6 yX6_keep yX6_keep) ∈ UW := uw_i 903 (by decide +kernel) (by decide +kernel)
theorem wd_904 : (Cond.code yX6_keep prog_8_method_65_code 3 (some .int)) ∈ UW := uw_i 904 (by decide +kernel) (by decide +kernel)
theorem wd_905 : (Cond.methodLink RL 129 yX6_back) ∈ UW := uw_i 905 (by decide +kernel) (by decide +kernel)
theorem wd_906 : (Cond.instanceMethod yX6_back) ∈ UW := uw_i 906 (by decide +kernel) (by decide +kernel)
theorem wd_907 : (Cond.selects RX6 yX6_back yX6_back) ∈ UW := uw_i 907 (by decide +kernel) (by decide +kernel)
theorem wd_908 : (Cond.code yX6_back prog_8_method_66_code 3 (some .int)) ∈ UW := uw_i 908 (by decide +kernel) (by decide +kernel)
theorem wd_909 : (Cond.methodLink RL 133 yX6_count) ∈ UW := uw_i 909 (by decide +kernel) (by decide +kernel)
theorem wd_910 : (Cond.instanceMethod yX6_count) ∈ UW := uw_i 910 (by decide +kernel) (by decide +kernel)
theorem wd_911 : (Cond.selects RX6 yX6_count yX6_count) ∈ UW := uw_i 911 (by decide +kernel) (by decide +kernel)
theorem wd_912 : (Cond.code yX6_count prog_8_method_67_code 2 (some .int)) ∈ UW := uw_i 912 (by decide +kernel) (by decide +kernel)
end
section
theorem dX0_init_0 : decode cX0_init 0 = .ok (.aload_n 0, 1) := by decide +kernel
theorem dX0_init_1 : decode cX0_init 1 = .ok (.invokespecial 3, 3) := by decide +kernel
theorem dX0_init_4 : decode cX0_init 4 = .ok (.aload_n 0, 1) := by decide +kernel
theorem dX0_init_5 : decode cX0_init 5 = .ok (.bipush 81, 2) := by decide +kernel
theorem dX0_init_7 : decode cX0_init 7 = .ok (.newarray .int, 2) := by decide +kernel
theorem dX0_init_9 : decode cX0_init 9 = .ok (.putfield 9, 3) := by decide +kernel
theorem dX0_init_12 : decode cX0_init 12 = .ok (.return_, 1) := by decide +kernel
theorem dX0_isFree_0 : decode cX0_isFree 0 = .ok (.iconst 4, 1) := by decide +kernel
theorem dX0_isFree_1 : decode cX0_isFree 1 = .ok (.istore 6, 2) := by decide +kernel
theorem dX0_isFree_3 : decode cX0_isFree 3 = .ok (.iload 6, 2) := by decide +kernel
theorem dX0_isFree_5 : decode cX0_isFree 5 = .ok (.aload_n 0, 1) := by decide +kernel
theorem dX0_isFree_6 : decode cX0_isFree 6 = .ok (.getfield 15, 3) := by decide +kernel
theorem dX0_isFree_9 : decode cX0_isFree 9 = .ok (.if_icmp .ge 32, 3) := by decide +kernel
theorem dX0_isFree_12 : decode cX0_isFree 12 = .ok (.iload 6, 2) := by decide +kernel
theorem dX0_isFree_14 : decode cX0_isFree 14 = .ok (.iload 5, 2) := by decide +kernel
theorem dX0_isFree_16 : decode cX0_isFree 16 = .ok (.if_icmp .eq 19, 3) := by decide +kernel
theorem dX0_isFree_19 : decode cX0_isFree 19 = .ok (.aload_n 0, 1) := by decide +kernel
theorem dX0_isFree_20 : decode cX0_isFree 20 = .ok (.iload 6, 2) := by decide +kernel
theorem dX0_isFree_22 : decode cX0_isFree 22 = .ok (.iload_n 1, 1) := by decide +kernel
theorem dX0_isFree_23 : decode cX0_isFree 23 = .ok (.iload_n 2, 1) := by decide +kernel
theorem dX0_isFree_24 : decode cX0_isFree 24 = .ok (.iload_n 3, 1) := by decide +kernel
theorem dX0_isFree_25 : decode cX0_isFree 25 = .ok (.iload 4, 2) := by decide +kernel
theorem dX0_isFree_27 : decode cX0_isFree 27 = .ok (.invokestatic 21, 3) := by decide +kernel
theorem dX0_isFree_30 : decode cX0_isFree 30 = .ok (.ifCond .eq 5, 3) := by decide +kernel
theorem dX0_isFree_33 : decode cX0_isFree 33 = .ok (.iconst 0, 1) := by decide +kernel
theorem dX0_isFree_34 : decode cX0_isFree 34 = .ok (.ireturn, 1) := by decide +kernel
theorem dX0_isFree_35 : decode cX0_isFree 35 = .ok (.iinc 6 1, 3) := by decide +kernel
theorem dX0_isFree_38 : decode cX0_isFree 38 = .ok (.goto (-35), 3) := by decide +kernel
theorem dX0_isFree_41 : decode cX0_isFree 41 = .ok (.iconst 1, 1) := by decide +kernel
theorem dX0_isFree_42 : decode cX0_isFree 42 = .ok (.ireturn, 1) := by decide +kernel
theorem dX0_isStopped_0 : decode cX0_isStopped 0 = .ok (.aload_n 0, 1) := by decide +kernel
theorem dX0_isStopped_1 : decode cX0_isStopped 1 = .ok (.iload_n 1, 1) := by decide +kernel
theorem dX0_isStopped_2 : decode cX0_isStopped 2 = .ok (.iconst 3, 1) := by decide +kernel
theorem dX0_isStopped_3 : decode cX0_isStopped 3 = .ok (.invokevirtual 25, 3) := by decide +kernel
theorem dX0_isStopped_6 : decode cX0_isStopped 6 = .ok (.iconst 1, 1) := by decide +kernel
theorem dX0_isStopped_7 : decode cX0_isStopped 7 = .ok (.if_icmp .ne 7, 3) := by decide +kernel
theorem dX0_isStopped_10 : decode cX0_isStopped 10 = .ok (.iconst 1, 1) := by decide +kernel
theorem dX0_isStopped_11 : decode cX0_isStopped 11 = .ok (.goto 4, 3) := by decide +kernel
theorem dX0_isStopped_14 : decode cX0_isStopped 14 = .ok (.iconst 0, 1) := by decide +kernel
theorem dX0_isStopped_15 : decode cX0_isStopped 15 = .ok (.istore 6, 2) := by decide +kernel
theorem dX0_isStopped_17 : decode cX0_isStopped 17 = .ok (.iconst 2, 1) := by decide +kernel
theorem dX0_isStopped_18 : decode cX0_isStopped 18 = .ok (.aload_n 0, 1) := by decide +kernel
theorem dX0_isStopped_19 : decode cX0_isStopped 19 = .ok (.iload_n 1, 1) := by decide +kernel
theorem dX0_isStopped_20 : decode cX0_isStopped 20 = .ok (.iload 6, 2) := by decide +kernel
theorem dX0_isStopped_22 : decode cX0_isStopped 22 = .ok (.ifCond .eq 7, 3) := by decide +kernel
theorem dX0_isStopped_25 : decode cX0_isStopped 25 = .ok (.iconst 0, 1) := by decide +kernel
theorem dX0_isStopped_26 : decode cX0_isStopped 26 = .ok (.goto 4, 3) := by decide +kernel
theorem dX0_isStopped_29 : decode cX0_isStopped 29 = .ok (.iconst 1, 1) := by decide +kernel
theorem dX0_isStopped_30 : decode cX0_isStopped 30 = .ok (.invokevirtual 25, 3) := by decide +kernel
theorem dX0_isStopped_33 : decode cX0_isStopped 33 = .ok (.imul, 1) := by decide +kernel
theorem dX0_isStopped_34 : decode cX0_isStopped 34 = .ok (.istore 7, 2) := by decide +kernel
theorem dX0_isStopped_36 : decode cX0_isStopped 36 = .ok (.iconst 2, 1) := by decide +kernel
theorem dX0_isStopped_37 : decode cX0_isStopped 37 = .ok (.iload 6, 2) := by decide +kernel
theorem dX0_isStopped_39 : decode cX0_isStopped 39 = .ok (.ifCond .eq 7, 3) := by decide +kernel
theorem dX0_isStopped_42 : decode cX0_isStopped 42 = .ok (.iload_n 2, 1) := by decide +kernel
theorem dX0_isStopped_43 : decode cX0_isStopped 43 = .ok (.goto 4, 3) := by decide +kernel
theorem dX0_isStopped_46 : decode cX0_isStopped 46 = .ok (.iload_n 3, 1) := by decide +kernel
theorem dX0_isStopped_47 : decode cX0_isStopped 47 = .ok (.imul, 1) := by decide +kernel
theorem dX0_isStopped_48 : decode cX0_isStopped 48 = .ok (.iconst 1, 1) := by decide +kernel
theorem dX0_isStopped_49 : decode cX0_isStopped 49 = .ok (.iadd, 1) := by decide +kernel
theorem dX0_isStopped_50 : decode cX0_isStopped 50 = .ok (.istore 8, 2) := by decide +kernel
theorem dX0_isStopped_52 : decode cX0_isStopped 52 = .ok (.iconst 2, 1) := by decide +kernel
theorem dX0_isStopped_53 : decode cX0_isStopped 53 = .ok (.iload 6, 2) := by decide +kernel
theorem dX0_isStopped_55 : decode cX0_isStopped 55 = .ok (.ifCond .eq 8, 3) := by decide +kernel
theorem dX0_isStopped_58 : decode cX0_isStopped 58 = .ok (.iload 4, 2) := by decide +kernel
theorem dX0_isStopped_60 : decode cX0_isStopped 60 = .ok (.goto 5, 3) := by decide +kernel
theorem dX0_isStopped_63 : decode cX0_isStopped 63 = .ok (.iload 5, 2) := by decide +kernel
theorem dX0_isStopped_65 : decode cX0_isStopped 65 = .ok (.imul, 1) := by decide +kernel
theorem dX0_isStopped_66 : decode cX0_isStopped 66 = .ok (.iconst 1, 1) := by decide +kernel
theorem dX0_isStopped_67 : decode cX0_isStopped 67 = .ok (.iadd, 1) := by decide +kernel
theorem dX0_isStopped_68 : decode cX0_isStopped 68 = .ok (.istore 9, 2) := by decide +kernel
theorem dX0_isStopped_70 : decode cX0_isStopped 70 = .ok (.iload 8, 2) := by decide +kernel
theorem dX0_isStopped_72 : decode cX0_isStopped 72 = .ok (.iload 7, 2) := by decide +kernel
theorem dX0_isStopped_74 : decode cX0_isStopped 74 = .ok (.if_icmp .ge 7, 3) := by decide +kernel
theorem dX0_isStopped_77 : decode cX0_isStopped 77 = .ok (.iconst 1, 1) := by decide +kernel
theorem dX0_isStopped_78 : decode cX0_isStopped 78 = .ok (.goto 4, 3) := by decide +kernel
theorem dX0_isStopped_81 : decode cX0_isStopped 81 = .ok (.iconst 0, 1) := by decide +kernel
theorem dX0_isStopped_82 : decode cX0_isStopped 82 = .ok (.iload 9, 2) := by decide +kernel
theorem dX0_isStopped_84 : decode cX0_isStopped 84 = .ok (.iload 7, 2) := by decide +kernel
theorem dX0_isStopped_86 : decode cX0_isStopped 86 = .ok (.if_icmp .ge 7, 3) := by decide +kernel
theorem dX0_isStopped_89 : decode cX0_isStopped 89 = .ok (.iconst 1, 1) := by decide +kernel
theorem dX0_isStopped_90 : decode cX0_isStopped 90 = .ok (.goto 4, 3) := by decide +kernel
theorem dX0_isStopped_93 : decode cX0_isStopped 93 = .ok (.iconst 0, 1) := by decide +kernel
theorem dX0_isStopped_94 : decode cX0_isStopped 94 = .ok (.if_icmp .ne 5, 3) := by decide +kernel
theorem dX0_isStopped_97 : decode cX0_isStopped 97 = .ok (.iconst 0, 1) := by decide +kernel
theorem dX0_isStopped_98 : decode cX0_isStopped 98 = .ok (.ireturn, 1) := by decide +kernel
theorem dX0_isStopped_99 : decode cX0_isStopped 99 = .ok (.iconst 2, 1) := by decide +kernel
theorem dX0_isStopped_100 : decode cX0_isStopped 100 = .ok (.iload 6, 2) := by decide +kernel
theorem dX0_isStopped_102 : decode cX0_isStopped 102 = .ok (.ifCond .eq 7, 3) := by decide +kernel
theorem dX0_isStopped_105 : decode cX0_isStopped 105 = .ok (.iload_n 3, 1) := by decide +kernel
theorem dX0_isStopped_106 : decode cX0_isStopped 106 = .ok (.goto 4, 3) := by decide +kernel
theorem dX0_isStopped_109 : decode cX0_isStopped 109 = .ok (.iload_n 2, 1) := by decide +kernel
theorem dX0_isStopped_110 : decode cX0_isStopped 110 = .ok (.imul, 1) := by decide +kernel
theorem dX0_isStopped_111 : decode cX0_isStopped 111 = .ok (.iconst 1, 1) := by decide +kernel
theorem dX0_isStopped_112 : decode cX0_isStopped 112 = .ok (.iadd, 1) := by decide +kernel
theorem dX0_isStopped_113 : decode cX0_isStopped 113 = .ok (.istore 10, 2) := by decide +kernel
theorem dX0_isStopped_115 : decode cX0_isStopped 115 = .ok (.iconst 2, 1) := by decide +kernel
theorem dX0_isStopped_116 : decode cX0_isStopped 116 = .ok (.iload 6, 2) := by decide +kernel
theorem dX0_isStopped_118 : decode cX0_isStopped 118 = .ok (.ifCond .eq 8, 3) := by decide +kernel
theorem dX0_isStopped_121 : decode cX0_isStopped 121 = .ok (.iload 5, 2) := by decide +kernel
theorem dX0_isStopped_123 : decode cX0_isStopped 123 = .ok (.goto 5, 3) := by decide +kernel
theorem dX0_isStopped_126 : decode cX0_isStopped 126 = .ok (.iload 4, 2) := by decide +kernel
theorem dX0_isStopped_128 : decode cX0_isStopped 128 = .ok (.imul, 1) := by decide +kernel
theorem dX0_isStopped_129 : decode cX0_isStopped 129 = .ok (.iconst 1, 1) := by decide +kernel
theorem dX0_isStopped_130 : decode cX0_isStopped 130 = .ok (.iadd, 1) := by decide +kernel
theorem dX0_isStopped_131 : decode cX0_isStopped 131 = .ok (.istore 11, 2) := by decide +kernel
theorem dX0_isStopped_133 : decode cX0_isStopped 133 = .ok (.iconst 2, 1) := by decide +kernel
theorem dX0_isStopped_134 : decode cX0_isStopped 134 = .ok (.aload_n 0, 1) := by decide +kernel
theorem dX0_isStopped_135 : decode cX0_isStopped 135 = .ok (.iload_n 1, 1) := by decide +kernel
theorem dX0_isStopped_136 : decode cX0_isStopped 136 = .ok (.iload 6, 2) := by decide +kernel
theorem dX0_isStopped_138 : decode cX0_isStopped 138 = .ok (.ifCond .eq 7, 3) := by decide +kernel
theorem dX0_isStopped_141 : decode cX0_isStopped 141 = .ok (.iconst 1, 1) := by decide +kernel
theorem dX0_isStopped_142 : decode cX0_isStopped 142 = .ok (.goto 4, 3) := by decide +kernel
theorem dX0_isStopped_145 : decode cX0_isStopped 145 = .ok (.iconst 0, 1) := by decide +kernel
theorem dX0_isStopped_146 : decode cX0_isStopped 146 = .ok (.invokevirtual 25, 3) := by decide +kernel
theorem dX0_isStopped_149 : decode cX0_isStopped 149 = .ok (.imul, 1) := by decide +kernel
theorem dX0_isStopped_150 : decode cX0_isStopped 150 = .ok (.istore 12, 2) := by decide +kernel
theorem dX0_isStopped_152 : decode cX0_isStopped 152 = .ok (.iload 12, 2) := by decide +kernel
theorem dX0_isStopped_154 : decode cX0_isStopped 154 = .ok (.iconst 2, 1) := by decide +kernel
theorem dX0_isStopped_155 : decode cX0_isStopped 155 = .ok (.aload_n 0, 1) := by decide +kernel
theorem dX0_isStopped_156 : decode cX0_isStopped 156 = .ok (.iload_n 1, 1) := by decide +kernel
theorem dX0_isStopped_157 : decode cX0_isStopped 157 = .ok (.iconst 2, 1) := by decide +kernel
theorem dX0_isStopped_158 : decode cX0_isStopped 158 = .ok (.invokevirtual 25, 3) := by decide +kernel
theorem dX0_isStopped_161 : decode cX0_isStopped 161 = .ok (.imul, 1) := by decide +kernel
theorem dX0_isStopped_162 : decode cX0_isStopped 162 = .ok (.iadd, 1) := by decide +kernel
theorem dX0_isStopped_163 : decode cX0_isStopped 163 = .ok (.istore 13, 2) := by decide +kernel
theorem dX0_isStopped_165 : decode cX0_isStopped 165 = .ok (.iload 9, 2) := by decide +kernel
theorem dX0_isStopped_167 : decode cX0_isStopped 167 = .ok (.iload 8, 2) := by decide +kernel
theorem dX0_isStopped_169 : decode cX0_isStopped 169 = .ok (.isub, 1) := by decide +kernel
theorem dX0_isStopped_170 : decode cX0_isStopped 170 = .ok (.istore 14, 2) := by decide +kernel
theorem dX0_isStopped_172 : decode cX0_isStopped 172 = .ok (.iload 10, 2) := by decide +kernel
theorem dX0_isStopped_174 : decode cX0_isStopped 174 = .ok (.iload 14, 2) := by decide +kernel
theorem dX0_isStopped_176 : decode cX0_isStopped 176 = .ok (.imul, 1) := by decide +kernel
theorem dX0_isStopped_177 : decode cX0_isStopped 177 = .ok (.iload 11, 2) := by decide +kernel
theorem dX0_isStopped_179 : decode cX0_isStopped 179 = .ok (.iload 10, 2) := by decide +kernel
theorem dX0_isStopped_181 : decode cX0_isStopped 181 = .ok (.isub, 1) := by decide +kernel
theorem dX0_isStopped_182 : decode cX0_isStopped 182 = .ok (.iload 7, 2) := by decide +kernel
theorem dX0_isStopped_184 : decode cX0_isStopped 184 = .ok (.iload 8, 2) := by decide +kernel
theorem dX0_isStopped_186 : decode cX0_isStopped 186 = .ok (.isub, 1) := by decide +kernel
theorem dX0_isStopped_187 : decode cX0_isStopped 187 = .ok (.imul, 1) := by decide +kernel
theorem dX0_isStopped_188 : decode cX0_isStopped 188 = .ok (.iadd, 1) := by decide +kernel
theorem dX0_isStopped_189 : decode cX0_isStopped 189 = .ok (.istore 15, 2) := by decide +kernel
theorem dX0_isStopped_191 : decode cX0_isStopped 191 = .ok (.iload 14, 2) := by decide +kernel
theorem dX0_isStopped_193 : decode cX0_isStopped 193 = .ok (.ifCond .le 31, 3) := by decide +kernel
theorem dX0_isStopped_196 : decode cX0_isStopped 196 = .ok (.iload 12, 2) := by decide +kernel
theorem dX0_isStopped_198 : decode cX0_isStopped 198 = .ok (.iload 14, 2) := by decide +kernel
theorem dX0_isStopped_200 : decode cX0_isStopped 200 = .ok (.imul, 1) := by decide +kernel
theorem dX0_isStopped_201 : decode cX0_isStopped 201 = .ok (.iload 15, 2) := by decide +kernel
theorem dX0_isStopped_203 : decode cX0_isStopped 203 = .ok (.if_icmp .gt 17, 3) := by decide +kernel
theorem dX0_isStopped_206 : decode cX0_isStopped 206 = .ok (.iload 15, 2) := by decide +kernel
theorem dX0_isStopped_208 : decode cX0_isStopped 208 = .ok (.iload 13, 2) := by decide +kernel
theorem dX0_isStopped_210 : decode cX0_isStopped 210 = .ok (.iload 14, 2) := by decide +kernel
theorem dX0_isStopped_212 : decode cX0_isStopped 212 = .ok (.imul, 1) := by decide +kernel
theorem dX0_isStopped_213 : decode cX0_isStopped 213 = .ok (.if_icmp .gt 7, 3) := by decide +kernel
theorem dX0_isStopped_216 : decode cX0_isStopped 216 = .ok (.iconst 1, 1) := by decide +kernel
theorem dX0_isStopped_217 : decode cX0_isStopped 217 = .ok (.goto 32, 3) := by decide +kernel
theorem dX0_isStopped_220 : decode cX0_isStopped 220 = .ok (.iconst 0, 1) := by decide +kernel
theorem dX0_isStopped_221 : decode cX0_isStopped 221 = .ok (.goto 28, 3) := by decide +kernel
theorem dX0_isStopped_224 : decode cX0_isStopped 224 = .ok (.iload 13, 2) := by decide +kernel
theorem dX0_isStopped_226 : decode cX0_isStopped 226 = .ok (.iload 14, 2) := by decide +kernel
theorem dX0_isStopped_228 : decode cX0_isStopped 228 = .ok (.imul, 1) := by decide +kernel
theorem dX0_isStopped_229 : decode cX0_isStopped 229 = .ok (.iload 15, 2) := by decide +kernel
theorem dX0_isStopped_231 : decode cX0_isStopped 231 = .ok (.if_icmp .gt 17, 3) := by decide +kernel
theorem dX0_isStopped_234 : decode cX0_isStopped 234 = .ok (.iload 15, 2) := by decide +kernel
theorem dX0_isStopped_236 : decode cX0_isStopped 236 = .ok (.iload 12, 2) := by decide +kernel
theorem dX0_isStopped_238 : decode cX0_isStopped 238 = .ok (.iload 14, 2) := by decide +kernel
theorem dX0_isStopped_240 : decode cX0_isStopped 240 = .ok (.imul, 1) := by decide +kernel
theorem dX0_isStopped_241 : decode cX0_isStopped 241 = .ok (.if_icmp .gt 7, 3) := by decide +kernel
theorem dX0_isStopped_244 : decode cX0_isStopped 244 = .ok (.iconst 1, 1) := by decide +kernel
theorem dX0_isStopped_245 : decode cX0_isStopped 245 = .ok (.goto 4, 3) := by decide +kernel
theorem dX0_isStopped_248 : decode cX0_isStopped 248 = .ok (.iconst 0, 1) := by decide +kernel
theorem dX0_isStopped_249 : decode cX0_isStopped 249 = .ok (.ireturn, 1) := by decide +kernel
theorem dX0_isLitBy_0 : decode cX0_isLitBy 0 = .ok (.aload_n 0, 1) := by decide +kernel
theorem dX0_isLitBy_1 : decode cX0_isLitBy 1 = .ok (.aload_n 0, 1) := by decide +kernel
theorem dX0_isLitBy_2 : decode cX0_isLitBy 2 = .ok (.iload_n 1, 1) := by decide +kernel
theorem dX0_isLitBy_3 : decode cX0_isLitBy 3 = .ok (.iconst 0, 1) := by decide +kernel
theorem dX0_isLitBy_4 : decode cX0_isLitBy 4 = .ok (.invokevirtual 29, 3) := by decide +kernel
theorem dX0_isLitBy_7 : decode cX0_isLitBy 7 = .ok (.aload_n 0, 1) := by decide +kernel
theorem dX0_isLitBy_8 : decode cX0_isLitBy 8 = .ok (.iload_n 1, 1) := by decide +kernel
theorem dX0_isLitBy_9 : decode cX0_isLitBy 9 = .ok (.iconst 1, 1) := by decide +kernel
theorem dX0_isLitBy_10 : decode cX0_isLitBy 10 = .ok (.invokevirtual 29, 3) := by decide +kernel
theorem dX0_isLitBy_13 : decode cX0_isLitBy 13 = .ok (.iload_n 2, 1) := by decide +kernel
theorem dX0_isLitBy_14 : decode cX0_isLitBy 14 = .ok (.iload_n 3, 1) := by decide +kernel
theorem dX0_isLitBy_15 : decode cX0_isLitBy 15 = .ok (.iload 4, 2) := by decide +kernel
theorem dX0_isLitBy_17 : decode cX0_isLitBy 17 = .ok (.invokestatic 32, 3) := by decide +kernel
theorem dX0_isLitBy_20 : decode cX0_isLitBy 20 = .ok (.ireturn, 1) := by decide +kernel
theorem dX0_lampsOnAt_0 : decode cX0_lampsOnAt 0 = .ok (.aload_n 0, 1) := by decide +kernel
theorem dX0_lampsOnAt_1 : decode cX0_lampsOnAt 1 = .ok (.iload_n 1, 1) := by decide +kernel
theorem dX0_lampsOnAt_2 : decode cX0_lampsOnAt 2 = .ok (.iload_n 2, 1) := by decide +kernel
theorem dX0_lampsOnAt_3 : decode cX0_lampsOnAt 3 = .ok (.aload_n 0, 1) := by decide +kernel
theorem dX0_lampsOnAt_4 : decode cX0_lampsOnAt 4 = .ok (.invokevirtual 35, 3) := by decide +kernel
theorem dX0_lampsOnAt_7 : decode cX0_lampsOnAt 7 = .ok (.bipush (-9), 2) := by decide +kernel
theorem dX0_lampsOnAt_9 : decode cX0_lampsOnAt 9 = .ok (.invokestatic 39, 3) := by decide +kernel
theorem dX0_lampsOnAt_12 : decode cX0_lampsOnAt 12 = .ok (.ireturn, 1) := by decide +kernel
theorem dX0_lampsAt_0 : decode cX0_lampsAt 0 = .ok (.iconst 0, 1) := by decide +kernel
theorem dX0_lampsAt_1 : decode cX0_lampsAt 1 = .ok (.istore 5, 2) := by decide +kernel
theorem dX0_lampsAt_3 : decode cX0_lampsAt 3 = .ok (.iconst 0, 1) := by decide +kernel
theorem dX0_lampsAt_4 : decode cX0_lampsAt 4 = .ok (.istore 6, 2) := by decide +kernel
theorem dX0_lampsAt_6 : decode cX0_lampsAt 6 = .ok (.iload 6, 2) := by decide +kernel
theorem dX0_lampsAt_8 : decode cX0_lampsAt 8 = .ok (.aload_n 0, 1) := by decide +kernel
theorem dX0_lampsAt_9 : decode cX0_lampsAt 9 = .ok (.getfield 43, 3) := by decide +kernel
theorem dX0_lampsAt_12 : decode cX0_lampsAt 12 = .ok (.if_icmp .ge 41, 3) := by decide +kernel
theorem dX0_lampsAt_15 : decode cX0_lampsAt 15 = .ok (.iload_n 3, 1) := by decide +kernel
theorem dX0_lampsAt_16 : decode cX0_lampsAt 16 = .ok (.iload 6, 2) := by decide +kernel
theorem dX0_lampsAt_18 : decode cX0_lampsAt 18 = .ok (.ishr, 1) := by decide +kernel
theorem dX0_lampsAt_19 : decode cX0_lampsAt 19 = .ok (.iconst 1, 1) := by decide +kernel
theorem dX0_lampsAt_20 : decode cX0_lampsAt 20 = .ok (.iand, 1) := by decide +kernel
theorem dX0_lampsAt_21 : decode cX0_lampsAt 21 = .ok (.iconst 1, 1) := by decide +kernel
theorem dX0_lampsAt_22 : decode cX0_lampsAt 22 = .ok (.if_icmp .ne 25, 3) := by decide +kernel
theorem dX0_lampsAt_25 : decode cX0_lampsAt 25 = .ok (.aload_n 0, 1) := by decide +kernel
theorem dX0_lampsAt_26 : decode cX0_lampsAt 26 = .ok (.iload 6, 2) := by decide +kernel
theorem dX0_lampsAt_28 : decode cX0_lampsAt 28 = .ok (.iload_n 1, 1) := by decide +kernel
theorem dX0_lampsAt_29 : decode cX0_lampsAt 29 = .ok (.iload_n 2, 1) := by decide +kernel
theorem dX0_lampsAt_30 : decode cX0_lampsAt 30 = .ok (.iload 4, 2) := by decide +kernel
theorem dX0_lampsAt_32 : decode cX0_lampsAt 32 = .ok (.invokestatic 46, 3) := by decide +kernel
theorem dX0_lampsAt_35 : decode cX0_lampsAt 35 = .ok (.ifCond .eq 12, 3) := by decide +kernel
theorem dX0_lampsAt_38 : decode cX0_lampsAt 38 = .ok (.iload 5, 2) := by decide +kernel
theorem dX0_lampsAt_40 : decode cX0_lampsAt 40 = .ok (.iconst 1, 1) := by decide +kernel
theorem dX0_lampsAt_41 : decode cX0_lampsAt 41 = .ok (.iload 6, 2) := by decide +kernel
theorem dX0_lampsAt_43 : decode cX0_lampsAt 43 = .ok (.ishl, 1) := by decide +kernel
theorem dX0_lampsAt_44 : decode cX0_lampsAt 44 = .ok (.ior, 1) := by decide +kernel
theorem dX0_lampsAt_45 : decode cX0_lampsAt 45 = .ok (.istore 5, 2) := by decide +kernel
theorem dX0_lampsAt_47 : decode cX0_lampsAt 47 = .ok (.iinc 6 1, 3) := by decide +kernel
theorem dX0_lampsAt_50 : decode cX0_lampsAt 50 = .ok (.goto (-44), 3) := by decide +kernel
theorem dX0_lampsAt_53 : decode cX0_lampsAt 53 = .ok (.iload 5, 2) := by decide +kernel
theorem dX0_lampsAt_55 : decode cX0_lampsAt 55 = .ok (.ireturn, 1) := by decide +kernel
theorem dX0_shine_0 : decode cX0_shine 0 = .ok (.iconst 0, 1) := by decide +kernel
theorem dX0_shine_1 : decode cX0_shine 1 = .ok (.istore 4, 2) := by decide +kernel
theorem dX0_shine_3 : decode cX0_shine 3 = .ok (.iconst 0, 1) := by decide +kernel
theorem dX0_shine_4 : decode cX0_shine 4 = .ok (.istore 5, 2) := by decide +kernel
theorem dX0_shine_6 : decode cX0_shine 6 = .ok (.iload 5, 2) := by decide +kernel
theorem dX0_shine_8 : decode cX0_shine 8 = .ok (.aload_n 1, 1) := by decide +kernel
theorem dX0_shine_9 : decode cX0_shine 9 = .ok (.getfield 50, 3) := by decide +kernel
theorem dX0_shine_12 : decode cX0_shine 12 = .ok (.if_icmp .ge 47, 3) := by decide +kernel
theorem dX0_shine_15 : decode cX0_shine 15 = .ok (.iconst 0, 1) := by decide +kernel
theorem dX0_shine_16 : decode cX0_shine 16 = .ok (.istore 6, 2) := by decide +kernel
theorem dX0_shine_18 : decode cX0_shine 18 = .ok (.iload 6, 2) := by decide +kernel
theorem dX0_shine_20 : decode cX0_shine 20 = .ok (.aload_n 1, 1) := by decide +kernel
theorem dX0_shine_21 : decode cX0_shine 21 = .ok (.getfield 53, 3) := by decide +kernel
theorem dX0_shine_24 : decode cX0_shine 24 = .ok (.if_icmp .ge 29, 3) := by decide +kernel
theorem dX0_shine_27 : decode cX0_shine 27 = .ok (.aload_n 0, 1) := by decide +kernel
theorem dX0_shine_28 : decode cX0_shine 28 = .ok (.getfield 9, 3) := by decide +kernel
theorem dX0_shine_31 : decode cX0_shine 31 = .ok (.iload 4, 2) := by decide +kernel
theorem dX0_shine_33 : decode cX0_shine 33 = .ok (.aload_n 1, 1) := by decide +kernel
theorem dX0_shine_34 : decode cX0_shine 34 = .ok (.iload 6, 2) := by decide +kernel
theorem dX0_shine_36 : decode cX0_shine 36 = .ok (.iload 5, 2) := by decide +kernel
theorem dX0_shine_38 : decode cX0_shine 38 = .ok (.iload_n 2, 1) := by decide +kernel
theorem dX0_shine_39 : decode cX0_shine 39 = .ok (.iload_n 3, 1) := by decide +kernel
theorem dX0_shine_40 : decode cX0_shine 40 = .ok (.invokestatic 39, 3) := by decide +kernel
theorem dX0_shine_43 : decode cX0_shine 43 = .ok (.iastore, 1) := by decide +kernel
theorem dX0_shine_44 : decode cX0_shine 44 = .ok (.iinc 4 1, 3) := by decide +kernel
theorem dX0_shine_47 : decode cX0_shine 47 = .ok (.iinc 6 1, 3) := by decide +kernel
theorem dX0_shine_50 : decode cX0_shine 50 = .ok (.goto (-32), 3) := by decide +kernel
theorem dX0_shine_53 : decode cX0_shine 53 = .ok (.iinc 5 1, 3) := by decide +kernel
theorem dX0_shine_56 : decode cX0_shine 56 = .ok (.goto (-50), 3) := by decide +kernel
theorem dX0_shine_59 : decode cX0_shine 59 = .ok (.return_, 1) := by decide +kernel
theorem dX0_spotsLitBy_0 : decode cX0_spotsLitBy 0 = .ok (.aload_n 0, 1) := by decide +kernel
theorem dX0_spotsLitBy_1 : decode cX0_spotsLitBy 1 = .ok (.aload_n 1, 1) := by decide +kernel
theorem dX0_spotsLitBy_2 : decode cX0_spotsLitBy 2 = .ok (.iload_n 2, 1) := by decide +kernel
theorem dX0_spotsLitBy_3 : decode cX0_spotsLitBy 3 = .ok (.iload_n 3, 1) := by decide +kernel
theorem dX0_spotsLitBy_4 : decode cX0_spotsLitBy 4 = .ok (.invokevirtual 56, 3) := by decide +kernel
theorem dX0_spotsLitBy_7 : decode cX0_spotsLitBy 7 = .ok (.iconst 0, 1) := by decide +kernel
theorem dX0_spotsLitBy_8 : decode cX0_spotsLitBy 8 = .ok (.istore 4, 2) := by decide +kernel
theorem dX0_spotsLitBy_10 : decode cX0_spotsLitBy 10 = .ok (.iconst 0, 1) := by decide +kernel
theorem dX0_spotsLitBy_11 : decode cX0_spotsLitBy 11 = .ok (.istore 5, 2) := by decide +kernel
theorem dX0_spotsLitBy_13 : decode cX0_spotsLitBy 13 = .ok (.iload 5, 2) := by decide +kernel
theorem dX0_spotsLitBy_15 : decode cX0_spotsLitBy 15 = .ok (.aload_n 1, 1) := by decide +kernel
theorem dX0_spotsLitBy_16 : decode cX0_spotsLitBy 16 = .ok (.getfield 53, 3) := by decide +kernel
theorem dX0_spotsLitBy_19 : decode cX0_spotsLitBy 19 = .ok (.aload_n 1, 1) := by decide +kernel
theorem dX0_spotsLitBy_20 : decode cX0_spotsLitBy 20 = .ok (.getfield 50, 3) := by decide +kernel
theorem dX0_spotsLitBy_23 : decode cX0_spotsLitBy 23 = .ok (.imul, 1) := by decide +kernel
theorem dX0_spotsLitBy_24 : decode cX0_spotsLitBy 24 = .ok (.if_icmp .ge 22, 3) := by decide +kernel
theorem dX0_spotsLitBy_27 : decode cX0_spotsLitBy 27 = .ok (.aload_n 0, 1) := by decide +kernel
theorem dX0_spotsLitBy_28 : decode cX0_spotsLitBy 28 = .ok (.getfield 9, 3) := by decide +kernel
theorem dX0_spotsLitBy_31 : decode cX0_spotsLitBy 31 = .ok (.iload 5, 2) := by decide +kernel
theorem dX0_spotsLitBy_33 : decode cX0_spotsLitBy 33 = .ok (.iaload, 1) := by decide +kernel
theorem dX0_spotsLitBy_34 : decode cX0_spotsLitBy 34 = .ok (.ifCond .eq 6, 3) := by decide +kernel
theorem dX0_spotsLitBy_37 : decode cX0_spotsLitBy 37 = .ok (.iinc 4 1, 3) := by decide +kernel
theorem dX0_spotsLitBy_40 : decode cX0_spotsLitBy 40 = .ok (.iinc 5 1, 3) := by decide +kernel
theorem dX0_spotsLitBy_43 : decode cX0_spotsLitBy 43 = .ok (.goto (-30), 3) := by decide +kernel
theorem dX0_spotsLitBy_46 : decode cX0_spotsLitBy 46 = .ok (.iload 4, 2) := by decide +kernel
theorem dX0_spotsLitBy_48 : decode cX0_spotsLitBy 48 = .ok (.ireturn, 1) := by decide +kernel
theorem dX0_isEnough_0 : decode cX0_isEnough 0 = .ok (.iconst 0, 1) := by decide +kernel
theorem dX0_isEnough_1 : decode cX0_isEnough 1 = .ok (.istore_n 3, 1) := by decide +kernel
theorem dX0_isEnough_2 : decode cX0_isEnough 2 = .ok (.iload_n 3, 1) := by decide +kernel
theorem dX0_isEnough_3 : decode cX0_isEnough 3 = .ok (.aload_n 1, 1) := by decide +kernel
theorem dX0_isEnough_4 : decode cX0_isEnough 4 = .ok (.getfield 53, 3) := by decide +kernel
theorem dX0_isEnough_7 : decode cX0_isEnough 7 = .ok (.aload_n 1, 1) := by decide +kernel
theorem dX0_isEnough_8 : decode cX0_isEnough 8 = .ok (.getfield 50, 3) := by decide +kernel
theorem dX0_isEnough_11 : decode cX0_isEnough 11 = .ok (.imul, 1) := by decide +kernel
theorem dX0_isEnough_12 : decode cX0_isEnough 12 = .ok (.if_icmp .ge 31, 3) := by decide +kernel
theorem dX0_isEnough_15 : decode cX0_isEnough 15 = .ok (.aload_n 0, 1) := by decide +kernel
theorem dX0_isEnough_16 : decode cX0_isEnough 16 = .ok (.getfield 9, 3) := by decide +kernel
theorem dX0_isEnough_19 : decode cX0_isEnough 19 = .ok (.iload_n 3, 1) := by decide +kernel
theorem dX0_isEnough_20 : decode cX0_isEnough 20 = .ok (.iaload, 1) := by decide +kernel
theorem dX0_isEnough_21 : decode cX0_isEnough 21 = .ok (.ifCond .eq 16, 3) := by decide +kernel
theorem dX0_isEnough_24 : decode cX0_isEnough 24 = .ok (.aload_n 0, 1) := by decide +kernel
theorem dX0_isEnough_25 : decode cX0_isEnough 25 = .ok (.getfield 9, 3) := by decide +kernel
theorem dX0_isEnough_28 : decode cX0_isEnough 28 = .ok (.iload_n 3, 1) := by decide +kernel
theorem dX0_isEnough_29 : decode cX0_isEnough 29 = .ok (.iaload, 1) := by decide +kernel
theorem dX0_isEnough_30 : decode cX0_isEnough 30 = .ok (.iload_n 2, 1) := by decide +kernel
theorem dX0_isEnough_31 : decode cX0_isEnough 31 = .ok (.iand, 1) := by decide +kernel
theorem dX0_isEnough_32 : decode cX0_isEnough 32 = .ok (.ifCond .ne 5, 3) := by decide +kernel
theorem dX0_isEnough_35 : decode cX0_isEnough 35 = .ok (.iconst 0, 1) := by decide +kernel
theorem dX0_isEnough_36 : decode cX0_isEnough 36 = .ok (.ireturn, 1) := by decide +kernel
theorem dX0_isEnough_37 : decode cX0_isEnough 37 = .ok (.iinc 3 1, 3) := by decide +kernel
theorem dX0_isEnough_40 : decode cX0_isEnough 40 = .ok (.goto (-38), 3) := by decide +kernel
theorem dX0_isEnough_43 : decode cX0_isEnough 43 = .ok (.iconst 1, 1) := by decide +kernel
theorem dX0_isEnough_44 : decode cX0_isEnough 44 = .ok (.ireturn, 1) := by decide +kernel
theorem dX0_darkSpotsSeenFrom_0 : decode cX0_darkSpotsSeenFrom 0 = .ok (.iconst 0, 1) := by decide +kernel
theorem dX0_darkSpotsSeenFrom_1 : decode cX0_darkSpotsSeenFrom 1 = .ok (.istore 4, 2) := by decide +kernel
theorem dX0_darkSpotsSeenFrom_3 : decode cX0_darkSpotsSeenFrom 3 = .ok (.iconst 0, 1) := by decide +kernel
theorem dX0_darkSpotsSeenFrom_4 : decode cX0_darkSpotsSeenFrom 4 = .ok (.istore 5, 2) := by decide +kernel
theorem dX0_darkSpotsSeenFrom_6 : decode cX0_darkSpotsSeenFrom 6 = .ok (.iconst 0, 1) := by decide +kernel
theorem dX0_darkSpotsSeenFrom_7 : decode cX0_darkSpotsSeenFrom 7 = .ok (.istore 6, 2) := by decide +kernel
theorem dX0_darkSpotsSeenFrom_9 : decode cX0_darkSpotsSeenFrom 9 = .ok (.iload 6, 2) := by decide +kernel
theorem dX0_darkSpotsSeenFrom_11 : decode cX0_darkSpotsSeenFrom 11 = .ok (.aload_n 1, 1) := by decide +kernel
theorem dX0_darkSpotsSeenFrom_12 : decode cX0_darkSpotsSeenFrom 12 = .ok (.getfield 50, 3) := by decide +kernel
theorem dX0_darkSpotsSeenFrom_15 : decode cX0_darkSpotsSeenFrom 15 = .ok (.if_icmp .ge 58, 3) := by decide +kernel
theorem dX0_darkSpotsSeenFrom_18 : decode cX0_darkSpotsSeenFrom 18 = .ok (.iconst 0, 1) := by decide +kernel
theorem dX0_darkSpotsSeenFrom_19 : decode cX0_darkSpotsSeenFrom 19 = .ok (.istore 7, 2) := by decide +kernel
theorem dX0_darkSpotsSeenFrom_21 : decode cX0_darkSpotsSeenFrom 21 = .ok (.iload 7, 2) := by decide +kernel
theorem dX0_darkSpotsSeenFrom_23 : decode cX0_darkSpotsSeenFrom 23 = .ok (.aload_n 1, 1) := by decide +kernel
theorem dX0_darkSpotsSeenFrom_24 : decode cX0_darkSpotsSeenFrom 24 = .ok (.getfield 53, 3) := by decide +kernel
theorem dX0_darkSpotsSeenFrom_27 : decode cX0_darkSpotsSeenFrom 27 = .ok (.if_icmp .ge 40, 3) := by decide +kernel
theorem dX0_darkSpotsSeenFrom_30 : decode cX0_darkSpotsSeenFrom 30 = .ok (.aload_n 0, 1) := by decide +kernel
theorem dX0_darkSpotsSeenFrom_31 : decode cX0_darkSpotsSeenFrom 31 = .ok (.getfield 9, 3) := by decide +kernel
theorem dX0_darkSpotsSeenFrom_34 : decode cX0_darkSpotsSeenFrom 34 = .ok (.iload 5, 2) := by decide +kernel
theorem dX0_darkSpotsSeenFrom_36 : decode cX0_darkSpotsSeenFrom 36 = .ok (.iaload, 1) := by decide +kernel
theorem dX0_darkSpotsSeenFrom_37 : decode cX0_darkSpotsSeenFrom 37 = .ok (.ifCond .ne 21, 3) := by decide +kernel
theorem dX0_darkSpotsSeenFrom_40 : decode cX0_darkSpotsSeenFrom 40 = .ok (.aload_n 1, 1) := by decide +kernel
theorem dX0_darkSpotsSeenFrom_41 : decode cX0_darkSpotsSeenFrom 41 = .ok (.iload_n 2, 1) := by decide +kernel
theorem dX0_darkSpotsSeenFrom_42 : decode cX0_darkSpotsSeenFrom 42 = .ok (.iload_n 3, 1) := by decide +kernel
theorem dX0_darkSpotsSeenFrom_43 : decode cX0_darkSpotsSeenFrom 43 = .ok (.iload 7, 2) := by decide +kernel
theorem dX0_darkSpotsSeenFrom_45 : decode cX0_darkSpotsSeenFrom 45 = .ok (.iload 6, 2) := by decide +kernel
theorem dX0_darkSpotsSeenFrom_47 : decode cX0_darkSpotsSeenFrom 47 = .ok (.bipush (-9), 2) := by decide +kernel
theorem dX0_darkSpotsSeenFrom_49 : decode cX0_darkSpotsSeenFrom 49 = .ok (.invokestatic 32, 3) := by decide +kernel
theorem dX0_darkSpotsSeenFrom_52 : decode cX0_darkSpotsSeenFrom 52 = .ok (.ifCond .eq 6, 3) := by decide +kernel
theorem dX0_darkSpotsSeenFrom_55 : decode cX0_darkSpotsSeenFrom 55 = .ok (.iinc 4 1, 3) := by decide +kernel
theorem dX0_darkSpotsSeenFrom_58 : decode cX0_darkSpotsSeenFrom 58 = .ok (.iinc 5 1, 3) := by decide +kernel
theorem dX0_darkSpotsSeenFrom_61 : decode cX0_darkSpotsSeenFrom 61 = .ok (.iinc 7 1, 3) := by decide +kernel
theorem dX0_darkSpotsSeenFrom_64 : decode cX0_darkSpotsSeenFrom 64 = .ok (.goto (-43), 3) := by decide +kernel
theorem dX0_darkSpotsSeenFrom_67 : decode cX0_darkSpotsSeenFrom 67 = .ok (.iinc 6 1, 3) := by decide +kernel
theorem dX0_darkSpotsSeenFrom_70 : decode cX0_darkSpotsSeenFrom 70 = .ok (.goto (-61), 3) := by decide +kernel
theorem dX0_darkSpotsSeenFrom_73 : decode cX0_darkSpotsSeenFrom 73 = .ok (.iload 4, 2) := by decide +kernel
theorem dX0_darkSpotsSeenFrom_75 : decode cX0_darkSpotsSeenFrom 75 = .ok (.ireturn, 1) := by decide +kernel
theorem dX1_init_0 : decode cX1_init 0 = .ok (.aload_n 0, 1) := by decide +kernel
theorem dX1_init_1 : decode cX1_init 1 = .ok (.invokespecial 3, 3) := by decide +kernel
theorem dX1_init_4 : decode cX1_init 4 = .ok (.aload_n 0, 1) := by decide +kernel
theorem dX1_init_5 : decode cX1_init 5 = .ok (.bipush 10, 2) := by decide +kernel
theorem dX1_init_7 : decode cX1_init 7 = .ok (.anewarray 9, 3) := by decide +kernel
theorem dX1_init_10 : decode cX1_init 10 = .ok (.putfield 11, 3) := by decide +kernel
theorem dX1_init_13 : decode cX1_init 13 = .ok (.iconst 0, 1) := by decide +kernel
theorem dX1_init_14 : decode cX1_init 14 = .ok (.istore_n 1, 1) := by decide +kernel
theorem dX1_init_15 : decode cX1_init 15 = .ok (.iload_n 1, 1) := by decide +kernel
theorem dX1_init_16 : decode cX1_init 16 = .ok (.bipush 10, 2) := by decide +kernel
theorem dX1_init_18 : decode cX1_init 18 = .ok (.if_icmp .ge 22, 3) := by decide +kernel
theorem dX1_init_21 : decode cX1_init 21 = .ok (.aload_n 0, 1) := by decide +kernel
theorem dX1_init_22 : decode cX1_init 22 = .ok (.getfield 11, 3) := by decide +kernel
theorem dX1_init_25 : decode cX1_init 25 = .ok (.iload_n 1, 1) := by decide +kernel
theorem dX1_init_26 : decode cX1_init 26 = .ok (.new 9, 3) := by decide +kernel
theorem dX1_init_29 : decode cX1_init 29 = .ok (.dup, 1) := by decide +kernel
theorem dX1_init_30 : decode cX1_init 30 = .ok (.invokespecial 17, 3) := by decide +kernel
theorem dX1_init_33 : decode cX1_init 33 = .ok (.aastore, 1) := by decide +kernel
theorem dX1_init_34 : decode cX1_init 34 = .ok (.iinc 1 1, 3) := by decide +kernel
theorem dX1_init_37 : decode cX1_init 37 = .ok (.goto (-22), 3) := by decide +kernel
theorem dX1_init_40 : decode cX1_init 40 = .ok (.return_, 1) := by decide +kernel
theorem dX1_remember_0 : decode cX1_remember 0 = .ok (.aload_n 0, 1) := by decide +kernel
theorem dX1_remember_1 : decode cX1_remember 1 = .ok (.getfield 11, 3) := by decide +kernel
theorem dX1_remember_4 : decode cX1_remember 4 = .ok (.aload_n 0, 1) := by decide +kernel
theorem dX1_remember_5 : decode cX1_remember 5 = .ok (.getfield 18, 3) := by decide +kernel
theorem dX1_remember_8 : decode cX1_remember 8 = .ok (.aaload, 1) := by decide +kernel
theorem dX1_remember_9 : decode cX1_remember 9 = .ok (.aload_n 1, 1) := by decide +kernel
theorem dX1_remember_10 : decode cX1_remember 10 = .ok (.invokevirtual 22, 3) := by decide +kernel
theorem dX1_remember_13 : decode cX1_remember 13 = .ok (.aload_n 0, 1) := by decide +kernel
theorem dX1_remember_14 : decode cX1_remember 14 = .ok (.aload_n 0, 1) := by decide +kernel
theorem dX1_remember_15 : decode cX1_remember 15 = .ok (.getfield 18, 3) := by decide +kernel
theorem dX1_remember_18 : decode cX1_remember 18 = .ok (.iconst 1, 1) := by decide +kernel
theorem dX1_remember_19 : decode cX1_remember 19 = .ok (.iadd, 1) := by decide +kernel
theorem dX1_remember_20 : decode cX1_remember 20 = .ok (.bipush 10, 2) := by decide +kernel
theorem dX1_remember_22 : decode cX1_remember 22 = .ok (.if_icmp .ge 12, 3) := by decide +kernel
theorem dX1_remember_25 : decode cX1_remember 25 = .ok (.aload_n 0, 1) := by decide +kernel
theorem dX1_remember_26 : decode cX1_remember 26 = .ok (.getfield 18, 3) := by decide +kernel
theorem dX1_remember_29 : decode cX1_remember 29 = .ok (.iconst 1, 1) := by decide +kernel
theorem dX1_remember_30 : decode cX1_remember 30 = .ok (.iadd, 1) := by decide +kernel
theorem dX1_remember_31 : decode cX1_remember 31 = .ok (.goto 4, 3) := by decide +kernel
theorem dX1_remember_34 : decode cX1_remember 34 = .ok (.iconst 0, 1) := by decide +kernel
theorem dX1_remember_35 : decode cX1_remember 35 = .ok (.putfield 18, 3) := by decide +kernel
theorem dX1_remember_38 : decode cX1_remember 38 = .ok (.aload_n 0, 1) := by decide +kernel
theorem dX1_remember_39 : decode cX1_remember 39 = .ok (.aload_n 0, 1) := by decide +kernel
theorem dX1_remember_40 : decode cX1_remember 40 = .ok (.getfield 26, 3) := by decide +kernel
theorem dX1_remember_43 : decode cX1_remember 43 = .ok (.iconst 1, 1) := by decide +kernel
theorem dX1_remember_44 : decode cX1_remember 44 = .ok (.iadd, 1) := by decide +kernel
theorem dX1_remember_45 : decode cX1_remember 45 = .ok (.bipush 10, 2) := by decide +kernel
theorem dX1_remember_47 : decode cX1_remember 47 = .ok (.invokestatic 29, 3) := by decide +kernel
theorem dX1_remember_50 : decode cX1_remember 50 = .ok (.putfield 26, 3) := by decide +kernel
theorem dX1_remember_53 : decode cX1_remember 53 = .ok (.return_, 1) := by decide +kernel
theorem dX1_restore_0 : decode cX1_restore 0 = .ok (.aload_n 0, 1) := by decide +kernel
theorem dX1_restore_1 : decode cX1_restore 1 = .ok (.aload_n 0, 1) := by decide +kernel
theorem dX1_restore_2 : decode cX1_restore 2 = .ok (.getfield 18, 3) := by decide +kernel
theorem dX1_restore_5 : decode cX1_restore 5 = .ok (.ifCond .le 12, 3) := by decide +kernel
theorem dX1_restore_8 : decode cX1_restore 8 = .ok (.aload_n 0, 1) := by decide +kernel
theorem dX1_restore_9 : decode cX1_restore 9 = .ok (.getfield 18, 3) := by decide +kernel
theorem dX1_restore_12 : decode cX1_restore 12 = .ok (.iconst 1, 1) := by decide +kernel
theorem dX1_restore_13 : decode cX1_restore 13 = .ok (.isub, 1) := by decide +kernel
theorem dX1_restore_14 : decode cX1_restore 14 = .ok (.goto 5, 3) := by decide +kernel
theorem dX1_restore_17 : decode cX1_restore 17 = .ok (.bipush 9, 2) := by decide +kernel
theorem dX1_restore_19 : decode cX1_restore 19 = .ok (.putfield 18, 3) := by decide +kernel
theorem dX1_restore_22 : decode cX1_restore 22 = .ok (.aload_n 1, 1) := by decide +kernel
theorem dX1_restore_23 : decode cX1_restore 23 = .ok (.aload_n 0, 1) := by decide +kernel
theorem dX1_restore_24 : decode cX1_restore 24 = .ok (.getfield 11, 3) := by decide +kernel
theorem dX1_restore_27 : decode cX1_restore 27 = .ok (.aload_n 0, 1) := by decide +kernel
theorem dX1_restore_28 : decode cX1_restore 28 = .ok (.getfield 18, 3) := by decide +kernel
theorem dX1_restore_31 : decode cX1_restore 31 = .ok (.aaload, 1) := by decide +kernel
theorem dX1_restore_32 : decode cX1_restore 32 = .ok (.invokevirtual 22, 3) := by decide +kernel
theorem dX1_restore_35 : decode cX1_restore 35 = .ok (.aload_n 0, 1) := by decide +kernel
theorem dX1_restore_36 : decode cX1_restore 36 = .ok (.dup, 1) := by decide +kernel
theorem dX1_restore_37 : decode cX1_restore 37 = .ok (.getfield 26, 3) := by decide +kernel
theorem dX1_restore_40 : decode cX1_restore 40 = .ok (.iconst 1, 1) := by decide +kernel
theorem dX1_restore_41 : decode cX1_restore 41 = .ok (.isub, 1) := by decide +kernel
theorem dX1_restore_42 : decode cX1_restore 42 = .ok (.putfield 26, 3) := by decide +kernel
theorem dX1_restore_45 : decode cX1_restore 45 = .ok (.return_, 1) := by decide +kernel
theorem dX2_init_0 : decode cX2_init 0 = .ok (.aload_n 0, 1) := by decide +kernel
theorem dX2_init_1 : decode cX2_init 1 = .ok (.invokespecial 3, 3) := by decide +kernel
theorem dX2_init_4 : decode cX2_init 4 = .ok (.aload_n 0, 1) := by decide +kernel
theorem dX2_init_5 : decode cX2_init 5 = .ok (.bipush 56, 2) := by decide +kernel
theorem dX2_init_7 : decode cX2_init 7 = .ok (.newarray .int, 2) := by decide +kernel
theorem dX2_init_9 : decode cX2_init 9 = .ok (.putfield 9, 3) := by decide +kernel
theorem dX2_init_12 : decode cX2_init 12 = .ok (.aload_n 0, 1) := by decide +kernel
theorem dX2_init_13 : decode cX2_init 13 = .ok (.bipush 24, 2) := by decide +kernel
theorem dX2_init_15 : decode cX2_init 15 = .ok (.newarray .int, 2) := by decide +kernel
theorem dX2_init_17 : decode cX2_init 17 = .ok (.putfield 15, 3) := by decide +kernel
theorem dX2_init_20 : decode cX2_init 20 = .ok (.return_, 1) := by decide +kernel
theorem dX2_begin_0 : decode cX2_begin 0 = .ok (.aload_n 0, 1) := by decide +kernel
theorem dX2_begin_1 : decode cX2_begin 1 = .ok (.iload_n 1, 1) := by decide +kernel
theorem dX2_begin_2 : decode cX2_begin 2 = .ok (.putfield 18, 3) := by decide +kernel
theorem dX2_begin_5 : decode cX2_begin 5 = .ok (.aload_n 0, 1) := by decide +kernel
theorem dX2_begin_6 : decode cX2_begin 6 = .ok (.iload_n 2, 1) := by decide +kernel
theorem dX2_begin_7 : decode cX2_begin 7 = .ok (.putfield 22, 3) := by decide +kernel
theorem dX2_begin_10 : decode cX2_begin 10 = .ok (.aload_n 0, 1) := by decide +kernel
theorem dX2_begin_11 : decode cX2_begin 11 = .ok (.iconst 0, 1) := by decide +kernel
theorem dX2_begin_12 : decode cX2_begin 12 = .ok (.putfield 25, 3) := by decide +kernel
theorem dX2_begin_15 : decode cX2_begin 15 = .ok (.aload_n 0, 1) := by decide +kernel
theorem dX2_begin_16 : decode cX2_begin 16 = .ok (.iconst 0, 1) := by decide +kernel
theorem dX2_begin_17 : decode cX2_begin 17 = .ok (.putfield 28, 3) := by decide +kernel
theorem dX2_begin_20 : decode cX2_begin 20 = .ok (.aload_n 0, 1) := by decide +kernel
theorem dX2_begin_21 : decode cX2_begin 21 = .ok (.iconst 0, 1) := by decide +kernel
theorem dX2_begin_22 : decode cX2_begin 22 = .ok (.iconst 0, 1) := by decide +kernel
theorem dX2_begin_23 : decode cX2_begin 23 = .ok (.aload_n 0, 1) := by decide +kernel
theorem dX2_begin_24 : decode cX2_begin 24 = .ok (.getfield 18, 3) := by decide +kernel
theorem dX2_begin_27 : decode cX2_begin 27 = .ok (.iconst 0, 1) := by decide +kernel
theorem dX2_begin_28 : decode cX2_begin 28 = .ok (.invokevirtual 31, 3) := by decide +kernel
theorem dX2_begin_31 : decode cX2_begin 31 = .ok (.aload_n 0, 1) := by decide +kernel
theorem dX2_begin_32 : decode cX2_begin 32 = .ok (.aload_n 0, 1) := by decide +kernel
theorem dX2_begin_33 : decode cX2_begin 33 = .ok (.getfield 18, 3) := by decide +kernel
theorem dX2_begin_36 : decode cX2_begin 36 = .ok (.iconst 0, 1) := by decide +kernel
theorem dX2_begin_37 : decode cX2_begin 37 = .ok (.aload_n 0, 1) := by decide +kernel
theorem dX2_begin_38 : decode cX2_begin 38 = .ok (.getfield 22, 3) := by decide +kernel
theorem dX2_begin_41 : decode cX2_begin 41 = .ok (.iconst 1, 1) := by decide +kernel
theorem dX2_begin_42 : decode cX2_begin 42 = .ok (.invokevirtual 31, 3) := by decide +kernel
theorem dX2_begin_45 : decode cX2_begin 45 = .ok (.aload_n 0, 1) := by decide +kernel
theorem dX2_begin_46 : decode cX2_begin 46 = .ok (.iconst 0, 1) := by decide +kernel
theorem dX2_begin_47 : decode cX2_begin 47 = .ok (.aload_n 0, 1) := by decide +kernel
theorem dX2_begin_48 : decode cX2_begin 48 = .ok (.getfield 22, 3) := by decide +kernel
theorem dX2_begin_51 : decode cX2_begin 51 = .ok (.aload_n 0, 1) := by decide +kernel
theorem dX2_begin_52 : decode cX2_begin 52 = .ok (.getfield 18, 3) := by decide +kernel
theorem dX2_begin_55 : decode cX2_begin 55 = .ok (.iconst 0, 1) := by decide +kernel
theorem dX2_begin_56 : decode cX2_begin 56 = .ok (.invokevirtual 31, 3) := by decide +kernel
theorem dX2_begin_59 : decode cX2_begin 59 = .ok (.aload_n 0, 1) := by decide +kernel
theorem dX2_begin_60 : decode cX2_begin 60 = .ok (.iconst 0, 1) := by decide +kernel
theorem dX2_begin_61 : decode cX2_begin 61 = .ok (.iconst 0, 1) := by decide +kernel
theorem dX2_begin_62 : decode cX2_begin 62 = .ok (.aload_n 0, 1) := by decide +kernel
theorem dX2_begin_63 : decode cX2_begin 63 = .ok (.getfield 22, 3) := by decide +kernel
theorem dX2_begin_66 : decode cX2_begin 66 = .ok (.iconst 1, 1) := by decide +kernel
theorem dX2_begin_67 : decode cX2_begin 67 = .ok (.invokevirtual 31, 3) := by decide +kernel
theorem dX2_begin_70 : decode cX2_begin 70 = .ok (.return_, 1) := by decide +kernel
theorem dX2_copyFrom_0 : decode cX2_copyFrom 0 = .ok (.aload_n 0, 1) := by decide +kernel
theorem dX2_copyFrom_1 : decode cX2_copyFrom 1 = .ok (.aload_n 1, 1) := by decide +kernel
theorem dX2_copyFrom_2 : decode cX2_copyFrom 2 = .ok (.getfield 18, 3) := by decide +kernel
theorem dX2_copyFrom_5 : decode cX2_copyFrom 5 = .ok (.putfield 18, 3) := by decide +kernel
theorem dX2_copyFrom_8 : decode cX2_copyFrom 8 = .ok (.aload_n 0, 1) := by decide +kernel
theorem dX2_copyFrom_9 : decode cX2_copyFrom 9 = .ok (.aload_n 1, 1) := by decide +kernel
theorem dX2_copyFrom_10 : decode cX2_copyFrom 10 = .ok (.getfield 22, 3) := by decide +kernel
theorem dX2_copyFrom_13 : decode cX2_copyFrom 13 = .ok (.putfield 22, 3) := by decide +kernel
theorem dX2_copyFrom_16 : decode cX2_copyFrom 16 = .ok (.aload_n 0, 1) := by decide +kernel
theorem dX2_copyFrom_17 : decode cX2_copyFrom 17 = .ok (.aload_n 1, 1) := by decide +kernel
theorem dX2_copyFrom_18 : decode cX2_copyFrom 18 = .ok (.getfield 25, 3) := by decide +kernel
theorem dX2_copyFrom_21 : decode cX2_copyFrom 21 = .ok (.putfield 25, 3) := by decide +kernel
theorem dX2_copyFrom_24 : decode cX2_copyFrom 24 = .ok (.aload_n 0, 1) := by decide +kernel
theorem dX2_copyFrom_25 : decode cX2_copyFrom 25 = .ok (.aload_n 1, 1) := by decide +kernel
theorem dX2_copyFrom_26 : decode cX2_copyFrom 26 = .ok (.getfield 28, 3) := by decide +kernel
theorem dX2_copyFrom_29 : decode cX2_copyFrom 29 = .ok (.putfield 28, 3) := by decide +kernel
theorem dX2_copyFrom_32 : decode cX2_copyFrom 32 = .ok (.aload_n 1, 1) := by decide +kernel
theorem dX2_copyFrom_33 : decode cX2_copyFrom 33 = .ok (.getfield 9, 3) := by decide +kernel
theorem dX2_copyFrom_36 : decode cX2_copyFrom 36 = .ok (.iconst 0, 1) := by decide +kernel
theorem dX2_copyFrom_37 : decode cX2_copyFrom 37 = .ok (.aload_n 0, 1) := by decide +kernel
theorem dX2_copyFrom_38 : decode cX2_copyFrom 38 = .ok (.getfield 9, 3) := by decide +kernel
theorem dX2_copyFrom_41 : decode cX2_copyFrom 41 = .ok (.iconst 0, 1) := by decide +kernel
theorem dX2_copyFrom_42 : decode cX2_copyFrom 42 = .ok (.aload_n 0, 1) := by decide +kernel
theorem dX2_copyFrom_43 : decode cX2_copyFrom 43 = .ok (.getfield 9, 3) := by decide +kernel
theorem dX2_copyFrom_46 : decode cX2_copyFrom 46 = .ok (.arraylength, 1) := by decide +kernel
theorem dX2_copyFrom_47 : decode cX2_copyFrom 47 = .ok (.invokestatic 35, 3) := by decide +kernel
theorem dX2_copyFrom_50 : decode cX2_copyFrom 50 = .ok (.aload_n 1, 1) := by decide +kernel
theorem dX2_copyFrom_51 : decode cX2_copyFrom 51 = .ok (.getfield 15, 3) := by decide +kernel
theorem dX2_copyFrom_54 : decode cX2_copyFrom 54 = .ok (.iconst 0, 1) := by decide +kernel
theorem dX2_copyFrom_55 : decode cX2_copyFrom 55 = .ok (.aload_n 0, 1) := by decide +kernel
theorem dX2_copyFrom_56 : decode cX2_copyFrom 56 = .ok (.getfield 15, 3) := by decide +kernel
theorem dX2_copyFrom_59 : decode cX2_copyFrom 59 = .ok (.iconst 0, 1) := by decide +kernel
theorem dX2_copyFrom_60 : decode cX2_copyFrom 60 = .ok (.aload_n 0, 1) := by decide +kernel
theorem dX2_copyFrom_61 : decode cX2_copyFrom 61 = .ok (.getfield 15, 3) := by decide +kernel
theorem dX2_copyFrom_64 : decode cX2_copyFrom 64 = .ok (.arraylength, 1) := by decide +kernel
theorem dX2_copyFrom_65 : decode cX2_copyFrom 65 = .ok (.invokestatic 35, 3) := by decide +kernel
theorem dX2_copyFrom_68 : decode cX2_copyFrom 68 = .ok (.return_, 1) := by decide +kernel
theorem dX2_hasWall_0 : decode cX2_hasWall 0 = .ok (.iload_n 1, 1) := by decide +kernel
theorem dX2_hasWall_1 : decode cX2_hasWall 1 = .ok (.ifCond .lt 15, 3) := by decide +kernel
theorem dX2_hasWall_4 : decode cX2_hasWall 4 = .ok (.iload_n 1, 1) := by decide +kernel
theorem dX2_hasWall_5 : decode cX2_hasWall 5 = .ok (.aload_n 0, 1) := by decide +kernel
theorem dX2_hasWall_6 : decode cX2_hasWall 6 = .ok (.getfield 25, 3) := by decide +kernel
theorem dX2_hasWall_9 : decode cX2_hasWall 9 = .ok (.if_icmp .ge 7, 3) := by decide +kernel
theorem dX2_hasWall_12 : decode cX2_hasWall 12 = .ok (.iconst 1, 1) := by decide +kernel
theorem dX2_hasWall_13 : decode cX2_hasWall 13 = .ok (.goto 4, 3) := by decide +kernel
theorem dX2_hasWall_16 : decode cX2_hasWall 16 = .ok (.iconst 0, 1) := by decide +kernel
theorem dX2_hasWall_17 : decode cX2_hasWall 17 = .ok (.ireturn, 1) := by decide +kernel
theorem dX2_hasInnerWall_0 : decode cX2_hasInnerWall 0 = .ok (.iload_n 1, 1) := by decide +kernel
theorem dX2_hasInnerWall_1 : decode cX2_hasInnerWall 1 = .ok (.iconst 4, 1) := by decide +kernel
theorem dX2_hasInnerWall_2 : decode cX2_hasInnerWall 2 = .ok (.if_icmp .lt 15, 3) := by decide +kernel
theorem dX2_hasInnerWall_5 : decode cX2_hasInnerWall 5 = .ok (.iload_n 1, 1) := by decide +kernel
theorem dX2_hasInnerWall_6 : decode cX2_hasInnerWall 6 = .ok (.aload_n 0, 1) := by decide +kernel
theorem dX2_hasInnerWall_7 : decode cX2_hasInnerWall 7 = .ok (.getfield 25, 3) := by decide +kernel
theorem dX2_hasInnerWall_10 : decode cX2_hasInnerWall 10 = .ok (.if_icmp .ge 7, 3) := by decide +kernel
theorem dX2_hasInnerWall_13 : decode cX2_hasInnerWall 13 = .ok (.iconst 1, 1) := by decide +kernel
theorem dX2_hasInnerWall_14 : decode cX2_hasInnerWall 14 = .ok (.goto 4, 3) := by decide +kernel
theorem dX2_hasInnerWall_17 : decode cX2_hasInnerWall 17 = .ok (.iconst 0, 1) := by decide +kernel
theorem dX2_hasInnerWall_18 : decode cX2_hasInnerWall 18 = .ok (.ireturn, 1) := by decide +kernel
theorem dX2_hasLamp_0 : decode cX2_hasLamp 0 = .ok (.iload_n 1, 1) := by decide +kernel
theorem dX2_hasLamp_1 : decode cX2_hasLamp 1 = .ok (.ifCond .lt 15, 3) := by decide +kernel
theorem dX2_hasLamp_4 : decode cX2_hasLamp 4 = .ok (.iload_n 1, 1) := by decide +kernel
theorem dX2_hasLamp_5 : decode cX2_hasLamp 5 = .ok (.aload_n 0, 1) := by decide +kernel
theorem dX2_hasLamp_6 : decode cX2_hasLamp 6 = .ok (.getfield 28, 3) := by decide +kernel
theorem dX2_hasLamp_9 : decode cX2_hasLamp 9 = .ok (.if_icmp .ge 7, 3) := by decide +kernel
theorem dX2_hasLamp_12 : decode cX2_hasLamp 12 = .ok (.iconst 1, 1) := by decide +kernel
theorem dX2_hasLamp_13 : decode cX2_hasLamp 13 = .ok (.goto 4, 3) := by decide +kernel
theorem dX2_hasLamp_16 : decode cX2_hasLamp 16 = .ok (.iconst 0, 1) := by decide +kernel
theorem dX2_hasLamp_17 : decode cX2_hasLamp 17 = .ok (.ireturn, 1) := by decide +kernel
theorem dX2_hasSpot_0 : decode cX2_hasSpot 0 = .ok (.iload_n 1, 1) := by decide +kernel
theorem dX2_hasSpot_1 : decode cX2_hasSpot 1 = .ok (.ifCond .lt 27, 3) := by decide +kernel
theorem dX2_hasSpot_4 : decode cX2_hasSpot 4 = .ok (.iload_n 1, 1) := by decide +kernel
theorem dX2_hasSpot_5 : decode cX2_hasSpot 5 = .ok (.aload_n 0, 1) := by decide +kernel
theorem dX2_hasSpot_6 : decode cX2_hasSpot 6 = .ok (.getfield 18, 3) := by decide +kernel
theorem dX2_hasSpot_9 : decode cX2_hasSpot 9 = .ok (.if_icmp .ge 19, 3) := by decide +kernel
theorem dX2_hasSpot_12 : decode cX2_hasSpot 12 = .ok (.iload_n 2, 1) := by decide +kernel
theorem dX2_hasSpot_13 : decode cX2_hasSpot 13 = .ok (.ifCond .lt 15, 3) := by decide +kernel
theorem dX2_hasSpot_16 : decode cX2_hasSpot 16 = .ok (.iload_n 2, 1) := by decide +kernel
theorem dX2_hasSpot_17 : decode cX2_hasSpot 17 = .ok (.aload_n 0, 1) := by decide +kernel
theorem dX2_hasSpot_18 : decode cX2_hasSpot 18 = .ok (.getfield 22, 3) := by decide +kernel
theorem dX2_hasSpot_21 : decode cX2_hasSpot 21 = .ok (.if_icmp .ge 7, 3) := by decide +kernel
theorem dX2_hasSpot_24 : decode cX2_hasSpot 24 = .ok (.iconst 1, 1) := by decide +kernel
theorem dX2_hasSpot_25 : decode cX2_hasSpot 25 = .ok (.goto 4, 3) := by decide +kernel
theorem dX2_hasSpot_28 : decode cX2_hasSpot 28 = .ok (.iconst 0, 1) := by decide +kernel
theorem dX2_hasSpot_29 : decode cX2_hasSpot 29 = .ok (.ireturn, 1) := by decide +kernel
theorem dX2_hasLampAt_0 : decode cX2_hasLampAt 0 = .ok (.iconst 0, 1) := by decide +kernel
theorem dX2_hasLampAt_1 : decode cX2_hasLampAt 1 = .ok (.istore_n 3, 1) := by decide +kernel
theorem dX2_hasLampAt_2 : decode cX2_hasLampAt 2 = .ok (.iload_n 3, 1) := by decide +kernel
theorem dX2_hasLampAt_3 : decode cX2_hasLampAt 3 = .ok (.aload_n 0, 1) := by decide +kernel
theorem dX2_hasLampAt_4 : decode cX2_hasLampAt 4 = .ok (.getfield 28, 3) := by decide +kernel
theorem dX2_hasLampAt_7 : decode cX2_hasLampAt 7 = .ok (.if_icmp .ge 31, 3) := by decide +kernel
theorem dX2_hasLampAt_10 : decode cX2_hasLampAt 10 = .ok (.aload_n 0, 1) := by decide +kernel
theorem dX2_hasLampAt_11 : decode cX2_hasLampAt 11 = .ok (.iload_n 3, 1) := by decide +kernel
theorem dX2_hasLampAt_12 : decode cX2_hasLampAt 12 = .ok (.iconst 0, 1) := by decide +kernel
theorem dX2_hasLampAt_13 : decode cX2_hasLampAt 13 = .ok (.invokevirtual 41, 3) := by decide +kernel
theorem dX2_hasLampAt_16 : decode cX2_hasLampAt 16 = .ok (.iload_n 1, 1) := by decide +kernel
theorem dX2_hasLampAt_17 : decode cX2_hasLampAt 17 = .ok (.if_icmp .ne 15, 3) := by decide +kernel
theorem dX2_hasLampAt_20 : decode cX2_hasLampAt 20 = .ok (.aload_n 0, 1) := by decide +kernel
theorem dX2_hasLampAt_21 : decode cX2_hasLampAt 21 = .ok (.iload_n 3, 1) := by decide +kernel
theorem dX2_hasLampAt_22 : decode cX2_hasLampAt 22 = .ok (.iconst 1, 1) := by decide +kernel
theorem dX2_hasLampAt_23 : decode cX2_hasLampAt 23 = .ok (.invokevirtual 41, 3) := by decide +kernel
theorem dX2_hasLampAt_26 : decode cX2_hasLampAt 26 = .ok (.iload_n 2, 1) := by decide +kernel
theorem dX2_hasLampAt_27 : decode cX2_hasLampAt 27 = .ok (.if_icmp .ne 5, 3) := by decide +kernel
theorem dX2_hasLampAt_30 : decode cX2_hasLampAt 30 = .ok (.iconst 1, 1) := by decide +kernel
theorem dX2_hasLampAt_31 : decode cX2_hasLampAt 31 = .ok (.ireturn, 1) := by decide +kernel
theorem dX2_hasLampAt_32 : decode cX2_hasLampAt 32 = .ok (.iinc 3 1, 3) := by decide +kernel
theorem dX2_hasLampAt_35 : decode cX2_hasLampAt 35 = .ok (.goto (-33), 3) := by decide +kernel
theorem dX2_hasLampAt_38 : decode cX2_hasLampAt 38 = .ok (.iconst 0, 1) := by decide +kernel
theorem dX2_hasLampAt_39 : decode cX2_hasLampAt 39 = .ok (.ireturn, 1) := by decide +kernel
theorem dX2_canHoldWall_0 : decode cX2_canHoldWall 0 = .ok (.iload_n 1, 1) := by decide +kernel
theorem dX2_canHoldWall_1 : decode cX2_canHoldWall 1 = .ok (.ifCond .lt 28, 3) := by decide +kernel
theorem dX2_canHoldWall_4 : decode cX2_canHoldWall 4 = .ok (.iload_n 1, 1) := by decide +kernel
theorem dX2_canHoldWall_5 : decode cX2_canHoldWall 5 = .ok (.aload_n 0, 1) := by decide +kernel
theorem dX2_canHoldWall_6 : decode cX2_canHoldWall 6 = .ok (.getfield 18, 3) := by decide +kernel
theorem dX2_canHoldWall_9 : decode cX2_canHoldWall 9 = .ok (.if_icmp .gt 20, 3) := by decide +kernel
theorem dX2_canHoldWall_12 : decode cX2_canHoldWall 12 = .ok (.iload_n 2, 1) := by decide +kernel
theorem dX2_canHoldWall_13 : decode cX2_canHoldWall 13 = .ok (.ifCond .lt 16, 3) := by decide +kernel
theorem dX2_canHoldWall_16 : decode cX2_canHoldWall 16 = .ok (.iload_n 2, 1) := by decide +kernel
theorem dX2_canHoldWall_17 : decode cX2_canHoldWall 17 = .ok (.aload_n 0, 1) := by decide +kernel
theorem dX2_canHoldWall_18 : decode cX2_canHoldWall 18 = .ok (.getfield 22, 3) := by decide +kernel
theorem dX2_canHoldWall_21 : decode cX2_canHoldWall 21 = .ok (.if_icmp .gt 8, 3) := by decide +kernel
theorem dX2_canHoldWall_24 : decode cX2_canHoldWall 24 = .ok (.iload_n 3, 1) := by decide +kernel
theorem dX2_canHoldWall_25 : decode cX2_canHoldWall 25 = .ok (.iconst 1, 1) := by decide +kernel
theorem dX2_canHoldWall_26 : decode cX2_canHoldWall 26 = .ok (.if_icmp .ge 5, 3) := by decide +kernel
theorem dX2_canHoldWall_29 : decode cX2_canHoldWall 29 = .ok (.iconst 0, 1) := by decide +kernel
theorem dX2_canHoldWall_30 : decode cX2_canHoldWall 30 = .ok (.ireturn, 1) := by decide +kernel
theorem dX2_canHoldWall_31 : decode cX2_canHoldWall 31 = .ok (.iload 4, 2) := by decide +kernel
theorem dX2_canHoldWall_33 : decode cX2_canHoldWall 33 = .ok (.iconst 1, 1) := by decide +kernel
theorem dX2_canHoldWall_34 : decode cX2_canHoldWall 34 = .ok (.if_icmp .ne 21, 3) := by decide +kernel
theorem dX2_canHoldWall_37 : decode cX2_canHoldWall 37 = .ok (.iload_n 3, 1) := by decide +kernel
theorem dX2_canHoldWall_38 : decode cX2_canHoldWall 38 = .ok (.aload_n 0, 1) := by decide +kernel
theorem dX2_canHoldWall_39 : decode cX2_canHoldWall 39 = .ok (.getfield 22, 3) := by decide +kernel
theorem dX2_canHoldWall_42 : decode cX2_canHoldWall 42 = .ok (.iload_n 2, 1) := by decide +kernel
theorem dX2_canHoldWall_43 : decode cX2_canHoldWall 43 = .ok (.isub, 1) := by decide +kernel
theorem dX2_canHoldWall_44 : decode cX2_canHoldWall 44 = .ok (.if_icmp .gt 7, 3) := by decide +kernel
theorem dX2_canHoldWall_47 : decode cX2_canHoldWall 47 = .ok (.iconst 1, 1) := by decide +kernel
theorem dX2_canHoldWall_48 : decode cX2_canHoldWall 48 = .ok (.goto 27, 3) := by decide +kernel
theorem dX2_canHoldWall_51 : decode cX2_canHoldWall 51 = .ok (.iconst 0, 1) := by decide +kernel
theorem dX2_canHoldWall_52 : decode cX2_canHoldWall 52 = .ok (.goto 23, 3) := by decide +kernel
theorem dX2_canHoldWall_55 : decode cX2_canHoldWall 55 = .ok (.iload 4, 2) := by decide +kernel
theorem dX2_canHoldWall_57 : decode cX2_canHoldWall 57 = .ok (.ifCond .ne 17, 3) := by decide +kernel
theorem dX2_canHoldWall_60 : decode cX2_canHoldWall 60 = .ok (.iload_n 3, 1) := by decide +kernel
theorem dX2_canHoldWall_61 : decode cX2_canHoldWall 61 = .ok (.aload_n 0, 1) := by decide +kernel
theorem dX2_canHoldWall_62 : decode cX2_canHoldWall 62 = .ok (.getfield 18, 3) := by decide +kernel
theorem dX2_canHoldWall_65 : decode cX2_canHoldWall 65 = .ok (.iload_n 1, 1) := by decide +kernel
theorem dX2_canHoldWall_66 : decode cX2_canHoldWall 66 = .ok (.isub, 1) := by decide +kernel
theorem dX2_canHoldWall_67 : decode cX2_canHoldWall 67 = .ok (.if_icmp .gt 7, 3) := by decide +kernel
theorem dX2_canHoldWall_70 : decode cX2_canHoldWall 70 = .ok (.iconst 1, 1) := by decide +kernel
theorem dX2_canHoldWall_71 : decode cX2_canHoldWall 71 = .ok (.goto 4, 3) := by decide +kernel
theorem dX2_canHoldWall_74 : decode cX2_canHoldWall 74 = .ok (.iconst 0, 1) := by decide +kernel
theorem dX2_canHoldWall_75 : decode cX2_canHoldWall 75 = .ok (.ireturn, 1) := by decide +kernel
theorem dX2_wallPart_0 : decode cX2_wallPart 0 = .ok (.aload_n 0, 1) := by decide +kernel
theorem dX2_wallPart_1 : decode cX2_wallPart 1 = .ok (.getfield 9, 3) := by decide +kernel
theorem dX2_wallPart_4 : decode cX2_wallPart 4 = .ok (.iload_n 1, 1) := by decide +kernel
theorem dX2_wallPart_5 : decode cX2_wallPart 5 = .ok (.iconst 4, 1) := by decide +kernel
theorem dX2_wallPart_6 : decode cX2_wallPart 6 = .ok (.imul, 1) := by decide +kernel
theorem dX2_wallPart_7 : decode cX2_wallPart 7 = .ok (.iload_n 2, 1) := by decide +kernel
theorem dX2_wallPart_8 : decode cX2_wallPart 8 = .ok (.iadd, 1) := by decide +kernel
theorem dX2_wallPart_9 : decode cX2_wallPart 9 = .ok (.iaload, 1) := by decide +kernel
theorem dX2_wallPart_10 : decode cX2_wallPart 10 = .ok (.ireturn, 1) := by decide +kernel
theorem dX2_lampPart_0 : decode cX2_lampPart 0 = .ok (.aload_n 0, 1) := by decide +kernel
theorem dX2_lampPart_1 : decode cX2_lampPart 1 = .ok (.getfield 15, 3) := by decide +kernel
theorem dX2_lampPart_4 : decode cX2_lampPart 4 = .ok (.iload_n 1, 1) := by decide +kernel
theorem dX2_lampPart_5 : decode cX2_lampPart 5 = .ok (.iconst 3, 1) := by decide +kernel
theorem dX2_lampPart_6 : decode cX2_lampPart 6 = .ok (.imul, 1) := by decide +kernel
theorem dX2_lampPart_7 : decode cX2_lampPart 7 = .ok (.iload_n 2, 1) := by decide +kernel
theorem dX2_lampPart_8 : decode cX2_lampPart 8 = .ok (.iadd, 1) := by decide +kernel
theorem dX2_lampPart_9 : decode cX2_lampPart 9 = .ok (.iaload, 1) := by decide +kernel
theorem dX2_lampPart_10 : decode cX2_lampPart 10 = .ok (.ireturn, 1) := by decide +kernel
theorem dX2_lampsOn_0 : decode cX2_lampsOn 0 = .ok (.iconst 0, 1) := by decide +kernel
theorem dX2_lampsOn_1 : decode cX2_lampsOn 1 = .ok (.istore_n 1, 1) := by decide +kernel
theorem dX2_lampsOn_2 : decode cX2_lampsOn 2 = .ok (.iconst 0, 1) := by decide +kernel
theorem dX2_lampsOn_3 : decode cX2_lampsOn 3 = .ok (.istore_n 2, 1) := by decide +kernel
theorem dX2_lampsOn_4 : decode cX2_lampsOn 4 = .ok (.iload_n 2, 1) := by decide +kernel
theorem dX2_lampsOn_5 : decode cX2_lampsOn 5 = .ok (.aload_n 0, 1) := by decide +kernel
theorem dX2_lampsOn_6 : decode cX2_lampsOn 6 = .ok (.getfield 28, 3) := by decide +kernel
theorem dX2_lampsOn_9 : decode cX2_lampsOn 9 = .ok (.if_icmp .ge 20, 3) := by decide +kernel
theorem dX2_lampsOn_12 : decode cX2_lampsOn 12 = .ok (.iload_n 1, 1) := by decide +kernel
theorem dX2_lampsOn_13 : decode cX2_lampsOn 13 = .ok (.aload_n 0, 1) := by decide +kernel
theorem dX2_lampsOn_14 : decode cX2_lampsOn 14 = .ok (.iload_n 2, 1) := by decide +kernel
theorem dX2_lampsOn_15 : decode cX2_lampsOn 15 = .ok (.iconst 2, 1) := by decide +kernel
theorem dX2_lampsOn_16 : decode cX2_lampsOn 16 = .ok (.invokevirtual 41, 3) := by decide +kernel
theorem dX2_lampsOn_19 : decode cX2_lampsOn 19 = .ok (.iload_n 2, 1) := by decide +kernel
theorem dX2_lampsOn_20 : decode cX2_lampsOn 20 = .ok (.ishl, 1) := by decide +kernel
theorem dX2_lampsOn_21 : decode cX2_lampsOn 21 = .ok (.ior, 1) := by decide +kernel
theorem dX2_lampsOn_22 : decode cX2_lampsOn 22 = .ok (.istore_n 1, 1) := by decide +kernel
theorem dX2_lampsOn_23 : decode cX2_lampsOn 23 = .ok (.iinc 2 1, 3) := by decide +kernel
theorem dX2_lampsOn_26 : decode cX2_lampsOn 26 = .ok (.goto (-22), 3) := by decide +kernel
theorem dX2_lampsOn_29 : decode cX2_lampsOn 29 = .ok (.iload_n 1, 1) := by decide +kernel
theorem dX2_lampsOn_30 : decode cX2_lampsOn 30 = .ok (.ireturn, 1) := by decide +kernel
theorem dX2_addWall_0 : decode cX2_addWall 0 = .ok (.aload_n 0, 1) := by decide +kernel
theorem dX2_addWall_1 : decode cX2_addWall 1 = .ok (.getfield 25, 3) := by decide +kernel
theorem dX2_addWall_4 : decode cX2_addWall 4 = .ok (.bipush 14, 2) := by decide +kernel
theorem dX2_addWall_6 : decode cX2_addWall 6 = .ok (.if_icmp .lt 4, 3) := by decide +kernel
theorem dX2_addWall_9 : decode cX2_addWall 9 = .ok (.return_, 1) := by decide +kernel
theorem dX2_addWall_10 : decode cX2_addWall 10 = .ok (.aload_n 0, 1) := by decide +kernel
theorem dX2_addWall_11 : decode cX2_addWall 11 = .ok (.getfield 25, 3) := by decide +kernel
theorem dX2_addWall_14 : decode cX2_addWall 14 = .ok (.iconst 4, 1) := by decide +kernel
theorem dX2_addWall_15 : decode cX2_addWall 15 = .ok (.imul, 1) := by decide +kernel
theorem dX2_addWall_16 : decode cX2_addWall 16 = .ok (.istore 5, 2) := by decide +kernel
theorem dX2_addWall_18 : decode cX2_addWall 18 = .ok (.aload_n 0, 1) := by decide +kernel
theorem dX2_addWall_19 : decode cX2_addWall 19 = .ok (.getfield 9, 3) := by decide +kernel
theorem dX2_addWall_22 : decode cX2_addWall 22 = .ok (.iload 5, 2) := by decide +kernel
theorem dX2_addWall_24 : decode cX2_addWall 24 = .ok (.iconst 0, 1) := by decide +kernel
theorem dX2_addWall_25 : decode cX2_addWall 25 = .ok (.iadd, 1) := by decide +kernel
theorem dX2_addWall_26 : decode cX2_addWall 26 = .ok (.iload_n 1, 1) := by decide +kernel
theorem dX2_addWall_27 : decode cX2_addWall 27 = .ok (.iastore, 1) := by decide +kernel
theorem dX2_addWall_28 : decode cX2_addWall 28 = .ok (.aload_n 0, 1) := by decide +kernel
theorem dX2_addWall_29 : decode cX2_addWall 29 = .ok (.getfield 9, 3) := by decide +kernel
theorem dX2_addWall_32 : decode cX2_addWall 32 = .ok (.iload 5, 2) := by decide +kernel
theorem dX2_addWall_34 : decode cX2_addWall 34 = .ok (.iconst 1, 1) := by decide +kernel
theorem dX2_addWall_35 : decode cX2_addWall 35 = .ok (.iadd, 1) := by decide +kernel
theorem dX2_addWall_36 : decode cX2_addWall 36 = .ok (.iload_n 2, 1) := by decide +kernel
theorem dX2_addWall_37 : decode cX2_addWall 37 = .ok (.iastore, 1) := by decide +kernel
theorem dX2_addWall_38 : decode cX2_addWall 38 = .ok (.aload_n 0, 1) := by decide +kernel
theorem dX2_addWall_39 : decode cX2_addWall 39 = .ok (.getfield 9, 3) := by decide +kernel
theorem dX2_addWall_42 : decode cX2_addWall 42 = .ok (.iload 5, 2) := by decide +kernel
theorem dX2_addWall_44 : decode cX2_addWall 44 = .ok (.iconst 2, 1) := by decide +kernel
theorem dX2_addWall_45 : decode cX2_addWall 45 = .ok (.iadd, 1) := by decide +kernel
theorem dX2_addWall_46 : decode cX2_addWall 46 = .ok (.iload_n 3, 1) := by decide +kernel
theorem dX2_addWall_47 : decode cX2_addWall 47 = .ok (.iastore, 1) := by decide +kernel
theorem dX2_addWall_48 : decode cX2_addWall 48 = .ok (.aload_n 0, 1) := by decide +kernel
theorem dX2_addWall_49 : decode cX2_addWall 49 = .ok (.getfield 9, 3) := by decide +kernel
theorem dX2_addWall_52 : decode cX2_addWall 52 = .ok (.iload 5, 2) := by decide +kernel
theorem dX2_addWall_54 : decode cX2_addWall 54 = .ok (.iconst 3, 1) := by decide +kernel
theorem dX2_addWall_55 : decode cX2_addWall 55 = .ok (.iadd, 1) := by decide +kernel
theorem dX2_addWall_56 : decode cX2_addWall 56 = .ok (.iload 4, 2) := by decide +kernel
theorem dX2_addWall_58 : decode cX2_addWall 58 = .ok (.iastore, 1) := by decide +kernel
theorem dX2_addWall_59 : decode cX2_addWall 59 = .ok (.aload_n 0, 1) := by decide +kernel
theorem dX2_addWall_60 : decode cX2_addWall 60 = .ok (.dup, 1) := by decide +kernel
theorem dX2_addWall_61 : decode cX2_addWall 61 = .ok (.getfield 25, 3) := by decide +kernel
theorem dX2_addWall_64 : decode cX2_addWall 64 = .ok (.iconst 1, 1) := by decide +kernel
theorem dX2_addWall_65 : decode cX2_addWall 65 = .ok (.iadd, 1) := by decide +kernel
theorem dX2_addWall_66 : decode cX2_addWall 66 = .ok (.putfield 25, 3) := by decide +kernel
theorem dX2_addWall_69 : decode cX2_addWall 69 = .ok (.return_, 1) := by decide +kernel
theorem dX2_addLamp_0 : decode cX2_addLamp 0 = .ok (.aload_n 0, 1) := by decide +kernel
theorem dX2_addLamp_1 : decode cX2_addLamp 1 = .ok (.getfield 28, 3) := by decide +kernel
theorem dX2_addLamp_4 : decode cX2_addLamp 4 = .ok (.bipush 8, 2) := by decide +kernel
theorem dX2_addLamp_6 : decode cX2_addLamp 6 = .ok (.if_icmp .lt 4, 3) := by decide +kernel
theorem dX2_addLamp_9 : decode cX2_addLamp 9 = .ok (.return_, 1) := by decide +kernel
theorem dX2_addLamp_10 : decode cX2_addLamp 10 = .ok (.aload_n 0, 1) := by decide +kernel
theorem dX2_addLamp_11 : decode cX2_addLamp 11 = .ok (.getfield 28, 3) := by decide +kernel
theorem dX2_addLamp_14 : decode cX2_addLamp 14 = .ok (.iconst 3, 1) := by decide +kernel
theorem dX2_addLamp_15 : decode cX2_addLamp 15 = .ok (.imul, 1) := by decide +kernel
theorem dX2_addLamp_16 : decode cX2_addLamp 16 = .ok (.istore_n 3, 1) := by decide +kernel
theorem dX2_addLamp_17 : decode cX2_addLamp 17 = .ok (.aload_n 0, 1) := by decide +kernel
theorem dX2_addLamp_18 : decode cX2_addLamp 18 = .ok (.getfield 15, 3) := by decide +kernel
theorem dX2_addLamp_21 : decode cX2_addLamp 21 = .ok (.iload_n 3, 1) := by decide +kernel
theorem dX2_addLamp_22 : decode cX2_addLamp 22 = .ok (.iconst 0, 1) := by decide +kernel
theorem dX2_addLamp_23 : decode cX2_addLamp 23 = .ok (.iadd, 1) := by decide +kernel
theorem dX2_addLamp_24 : decode cX2_addLamp 24 = .ok (.iload_n 1, 1) := by decide +kernel
theorem dX2_addLamp_25 : decode cX2_addLamp 25 = .ok (.iastore, 1) := by decide +kernel
theorem dX2_addLamp_26 : decode cX2_addLamp 26 = .ok (.aload_n 0, 1) := by decide +kernel
theorem dX2_addLamp_27 : decode cX2_addLamp 27 = .ok (.getfield 15, 3) := by decide +kernel
theorem dX2_addLamp_30 : decode cX2_addLamp 30 = .ok (.iload_n 3, 1) := by decide +kernel
theorem dX2_addLamp_31 : decode cX2_addLamp 31 = .ok (.iconst 1, 1) := by decide +kernel
theorem dX2_addLamp_32 : decode cX2_addLamp 32 = .ok (.iadd, 1) := by decide +kernel
theorem dX2_addLamp_33 : decode cX2_addLamp 33 = .ok (.iload_n 2, 1) := by decide +kernel
theorem dX2_addLamp_34 : decode cX2_addLamp 34 = .ok (.iastore, 1) := by decide +kernel
theorem dX2_addLamp_35 : decode cX2_addLamp 35 = .ok (.aload_n 0, 1) := by decide +kernel
theorem dX2_addLamp_36 : decode cX2_addLamp 36 = .ok (.getfield 15, 3) := by decide +kernel
theorem dX2_addLamp_39 : decode cX2_addLamp 39 = .ok (.iload_n 3, 1) := by decide +kernel
theorem dX2_addLamp_40 : decode cX2_addLamp 40 = .ok (.iconst 2, 1) := by decide +kernel
theorem dX2_addLamp_41 : decode cX2_addLamp 41 = .ok (.iadd, 1) := by decide +kernel
theorem dX2_addLamp_42 : decode cX2_addLamp 42 = .ok (.iconst 1, 1) := by decide +kernel
theorem dX2_addLamp_43 : decode cX2_addLamp 43 = .ok (.iastore, 1) := by decide +kernel
theorem dX2_addLamp_44 : decode cX2_addLamp 44 = .ok (.aload_n 0, 1) := by decide +kernel
theorem dX2_addLamp_45 : decode cX2_addLamp 45 = .ok (.dup, 1) := by decide +kernel
theorem dX2_addLamp_46 : decode cX2_addLamp 46 = .ok (.getfield 28, 3) := by decide +kernel
theorem dX2_addLamp_49 : decode cX2_addLamp 49 = .ok (.iconst 1, 1) := by decide +kernel
theorem dX2_addLamp_50 : decode cX2_addLamp 50 = .ok (.iadd, 1) := by decide +kernel
theorem dX2_addLamp_51 : decode cX2_addLamp 51 = .ok (.putfield 28, 3) := by decide +kernel
theorem dX2_addLamp_54 : decode cX2_addLamp 54 = .ok (.return_, 1) := by decide +kernel
theorem dX2_removeWall_0 : decode cX2_removeWall 0 = .ok (.aload_n 0, 1) := by decide +kernel
theorem dX2_removeWall_1 : decode cX2_removeWall 1 = .ok (.getfield 9, 3) := by decide +kernel
theorem dX2_removeWall_4 : decode cX2_removeWall 4 = .ok (.iload_n 1, 1) := by decide +kernel
theorem dX2_removeWall_5 : decode cX2_removeWall 5 = .ok (.iconst 4, 1) := by decide +kernel
theorem dX2_removeWall_6 : decode cX2_removeWall 6 = .ok (.imul, 1) := by decide +kernel
theorem dX2_removeWall_7 : decode cX2_removeWall 7 = .ok (.iconst 4, 1) := by decide +kernel
theorem dX2_removeWall_8 : decode cX2_removeWall 8 = .ok (.aload_n 0, 1) := by decide +kernel
theorem dX2_removeWall_9 : decode cX2_removeWall 9 = .ok (.getfield 25, 3) := by decide +kernel
theorem dX2_removeWall_12 : decode cX2_removeWall 12 = .ok (.iconst 4, 1) := by decide +kernel
theorem dX2_removeWall_13 : decode cX2_removeWall 13 = .ok (.imul, 1) := by decide +kernel
theorem dX2_removeWall_14 : decode cX2_removeWall 14 = .ok (.invokestatic 45, 3) := by decide +kernel
theorem dX2_removeWall_17 : decode cX2_removeWall 17 = .ok (.aload_n 0, 1) := by decide +kernel
theorem dX2_removeWall_18 : decode cX2_removeWall 18 = .ok (.dup, 1) := by decide +kernel
theorem dX2_removeWall_19 : decode cX2_removeWall 19 = .ok (.getfield 25, 3) := by decide +kernel
theorem dX2_removeWall_22 : decode cX2_removeWall 22 = .ok (.iconst 1, 1) := by decide +kernel
theorem dX2_removeWall_23 : decode cX2_removeWall 23 = .ok (.isub, 1) := by decide +kernel
theorem dX2_removeWall_24 : decode cX2_removeWall 24 = .ok (.putfield 25, 3) := by decide +kernel
theorem dX2_removeWall_27 : decode cX2_removeWall 27 = .ok (.return_, 1) := by decide +kernel
theorem dX2_removeLamp_0 : decode cX2_removeLamp 0 = .ok (.aload_n 0, 1) := by decide +kernel
theorem dX2_removeLamp_1 : decode cX2_removeLamp 1 = .ok (.getfield 15, 3) := by decide +kernel
theorem dX2_removeLamp_4 : decode cX2_removeLamp 4 = .ok (.iload_n 1, 1) := by decide +kernel
theorem dX2_removeLamp_5 : decode cX2_removeLamp 5 = .ok (.iconst 3, 1) := by decide +kernel
theorem dX2_removeLamp_6 : decode cX2_removeLamp 6 = .ok (.imul, 1) := by decide +kernel
theorem dX2_removeLamp_7 : decode cX2_removeLamp 7 = .ok (.iconst 3, 1) := by decide +kernel
theorem dX2_removeLamp_8 : decode cX2_removeLamp 8 = .ok (.aload_n 0, 1) := by decide +kernel
theorem dX2_removeLamp_9 : decode cX2_removeLamp 9 = .ok (.getfield 28, 3) := by decide +kernel
theorem dX2_removeLamp_12 : decode cX2_removeLamp 12 = .ok (.iconst 3, 1) := by decide +kernel
theorem dX2_removeLamp_13 : decode cX2_removeLamp 13 = .ok (.imul, 1) := by decide +kernel
theorem dX2_removeLamp_14 : decode cX2_removeLamp 14 = .ok (.invokestatic 45, 3) := by decide +kernel
theorem dX2_removeLamp_17 : decode cX2_removeLamp 17 = .ok (.aload_n 0, 1) := by decide +kernel
theorem dX2_removeLamp_18 : decode cX2_removeLamp 18 = .ok (.dup, 1) := by decide +kernel
theorem dX2_removeLamp_19 : decode cX2_removeLamp 19 = .ok (.getfield 28, 3) := by decide +kernel
theorem dX2_removeLamp_22 : decode cX2_removeLamp 22 = .ok (.iconst 1, 1) := by decide +kernel
theorem dX2_removeLamp_23 : decode cX2_removeLamp 23 = .ok (.isub, 1) := by decide +kernel
theorem dX2_removeLamp_24 : decode cX2_removeLamp 24 = .ok (.putfield 28, 3) := by decide +kernel
theorem dX2_removeLamp_27 : decode cX2_removeLamp 27 = .ok (.return_, 1) := by decide +kernel
theorem dX2_switchLamp_0 : decode cX2_switchLamp 0 = .ok (.iload_n 1, 1) := by decide +kernel
theorem dX2_switchLamp_1 : decode cX2_switchLamp 1 = .ok (.iconst 3, 1) := by decide +kernel
theorem dX2_switchLamp_2 : decode cX2_switchLamp 2 = .ok (.imul, 1) := by decide +kernel
theorem dX2_switchLamp_3 : decode cX2_switchLamp 3 = .ok (.iconst 2, 1) := by decide +kernel
theorem dX2_switchLamp_4 : decode cX2_switchLamp 4 = .ok (.iadd, 1) := by decide +kernel
theorem dX2_switchLamp_5 : decode cX2_switchLamp 5 = .ok (.istore_n 2, 1) := by decide +kernel
theorem dX2_switchLamp_6 : decode cX2_switchLamp 6 = .ok (.aload_n 0, 1) := by decide +kernel
theorem dX2_switchLamp_7 : decode cX2_switchLamp 7 = .ok (.getfield 15, 3) := by decide +kernel
theorem dX2_switchLamp_10 : decode cX2_switchLamp 10 = .ok (.iload_n 2, 1) := by decide +kernel
theorem dX2_switchLamp_11 : decode cX2_switchLamp 11 = .ok (.iconst 1, 1) := by decide +kernel
theorem dX2_switchLamp_12 : decode cX2_switchLamp 12 = .ok (.aload_n 0, 1) := by decide +kernel
theorem dX2_switchLamp_13 : decode cX2_switchLamp 13 = .ok (.getfield 15, 3) := by decide +kernel
theorem dX2_switchLamp_16 : decode cX2_switchLamp 16 = .ok (.iload_n 2, 1) := by decide +kernel
theorem dX2_switchLamp_17 : decode cX2_switchLamp 17 = .ok (.iaload, 1) := by decide +kernel
theorem dX2_switchLamp_18 : decode cX2_switchLamp 18 = .ok (.isub, 1) := by decide +kernel
theorem dX2_switchLamp_19 : decode cX2_switchLamp 19 = .ok (.iastore, 1) := by decide +kernel
theorem dX2_switchLamp_20 : decode cX2_switchLamp 20 = .ok (.aload_n 0, 1) := by decide +kernel
theorem dX2_switchLamp_21 : decode cX2_switchLamp 21 = .ok (.getfield 15, 3) := by decide +kernel
theorem dX2_switchLamp_24 : decode cX2_switchLamp 24 = .ok (.iload_n 2, 1) := by decide +kernel
theorem dX2_switchLamp_25 : decode cX2_switchLamp 25 = .ok (.iaload, 1) := by decide +kernel
theorem dX2_switchLamp_26 : decode cX2_switchLamp 26 = .ok (.ireturn, 1) := by decide +kernel
theorem dX2_closeGap_0 : decode cX2_closeGap 0 = .ok (.iload_n 1, 1) := by decide +kernel
theorem dX2_closeGap_1 : decode cX2_closeGap 1 = .ok (.istore 4, 2) := by decide +kernel
theorem dX2_closeGap_3 : decode cX2_closeGap 3 = .ok (.iload 4, 2) := by decide +kernel
theorem dX2_closeGap_5 : decode cX2_closeGap 5 = .ok (.iload_n 2, 1) := by decide +kernel
theorem dX2_closeGap_6 : decode cX2_closeGap 6 = .ok (.iadd, 1) := by decide +kernel
theorem dX2_closeGap_7 : decode cX2_closeGap 7 = .ok (.iload_n 3, 1) := by decide +kernel
theorem dX2_closeGap_8 : decode cX2_closeGap 8 = .ok (.if_icmp .ge 19, 3) := by decide +kernel
theorem dX2_closeGap_11 : decode cX2_closeGap 11 = .ok (.aload_n 0, 1) := by decide +kernel
theorem dX2_closeGap_12 : decode cX2_closeGap 12 = .ok (.iload 4, 2) := by decide +kernel
theorem dX2_closeGap_14 : decode cX2_closeGap 14 = .ok (.aload_n 0, 1) := by decide +kernel
theorem dX2_closeGap_15 : decode cX2_closeGap 15 = .ok (.iload 4, 2) := by decide +kernel
theorem dX2_closeGap_17 : decode cX2_closeGap 17 = .ok (.iload_n 2, 1) := by decide +kernel
theorem dX2_closeGap_18 : decode cX2_closeGap 18 = .ok (.iadd, 1) := by decide +kernel
theorem dX2_closeGap_19 : decode cX2_closeGap 19 = .ok (.iaload, 1) := by decide +kernel
theorem dX2_closeGap_20 : decode cX2_closeGap 20 = .ok (.iastore, 1) := by decide +kernel
theorem dX2_closeGap_21 : decode cX2_closeGap 21 = .ok (.iinc 4 1, 3) := by decide +kernel
theorem dX2_closeGap_24 : decode cX2_closeGap 24 = .ok (.goto (-21), 3) := by decide +kernel
theorem dX2_closeGap_27 : decode cX2_closeGap 27 = .ok (.return_, 1) := by decide +kernel
theorem dX3_init_0 : decode cX3_init 0 = .ok (.aload_n 0, 1) := by decide +kernel
theorem dX3_init_1 : decode cX3_init 1 = .ok (.invokespecial 3, 3) := by decide +kernel
theorem dX3_init_4 : decode cX3_init 4 = .ok (.aload_n 0, 1) := by decide +kernel
theorem dX3_init_5 : decode cX3_init 5 = .ok (.bipush 100, 2) := by decide +kernel
theorem dX3_init_7 : decode cX3_init 7 = .ok (.newarray .int, 2) := by decide +kernel
theorem dX3_init_9 : decode cX3_init 9 = .ok (.putfield 9, 3) := by decide +kernel
theorem dX3_init_12 : decode cX3_init 12 = .ok (.aload_n 0, 1) := by decide +kernel
theorem dX3_init_13 : decode cX3_init 13 = .ok (.bipush 100, 2) := by decide +kernel
theorem dX3_init_15 : decode cX3_init 15 = .ok (.newarray .int, 2) := by decide +kernel
theorem dX3_init_17 : decode cX3_init 17 = .ok (.putfield 15, 3) := by decide +kernel
theorem dX3_init_20 : decode cX3_init 20 = .ok (.return_, 1) := by decide +kernel
theorem dX3_turnRound_0 : decode cX3_turnRound 0 = .ok (.aload_n 0, 1) := by decide +kernel
theorem dX3_turnRound_1 : decode cX3_turnRound 1 = .ok (.iconst 2, 1) := by decide +kernel
theorem dX3_turnRound_2 : decode cX3_turnRound 2 = .ok (.aload_n 1, 1) := by decide +kernel
theorem dX3_turnRound_3 : decode cX3_turnRound 3 = .ok (.iload_n 2, 1) := by decide +kernel
theorem dX3_turnRound_4 : decode cX3_turnRound 4 = .ok (.iconst 0, 1) := by decide +kernel
theorem dX3_turnRound_5 : decode cX3_turnRound 5 = .ok (.invokevirtual 18, 3) := by decide +kernel
theorem dX3_turnRound_8 : decode cX3_turnRound 8 = .ok (.imul, 1) := by decide +kernel
theorem dX3_turnRound_9 : decode cX3_turnRound 9 = .ok (.iconst 1, 1) := by decide +kernel
theorem dX3_turnRound_10 : decode cX3_turnRound 10 = .ok (.iadd, 1) := by decide +kernel
theorem dX3_turnRound_11 : decode cX3_turnRound 11 = .ok (.putfield 24, 3) := by decide +kernel
theorem dX3_turnRound_14 : decode cX3_turnRound 14 = .ok (.aload_n 0, 1) := by decide +kernel
theorem dX3_turnRound_15 : decode cX3_turnRound 15 = .ok (.iconst 2, 1) := by decide +kernel
theorem dX3_turnRound_16 : decode cX3_turnRound 16 = .ok (.aload_n 1, 1) := by decide +kernel
theorem dX3_turnRound_17 : decode cX3_turnRound 17 = .ok (.iload_n 2, 1) := by decide +kernel
theorem dX3_turnRound_18 : decode cX3_turnRound 18 = .ok (.iconst 1, 1) := by decide +kernel
theorem dX3_turnRound_19 : decode cX3_turnRound 19 = .ok (.invokevirtual 18, 3) := by decide +kernel
theorem dX3_turnRound_22 : decode cX3_turnRound 22 = .ok (.imul, 1) := by decide +kernel
theorem dX3_turnRound_23 : decode cX3_turnRound 23 = .ok (.iconst 1, 1) := by decide +kernel
theorem dX3_turnRound_24 : decode cX3_turnRound 24 = .ok (.iadd, 1) := by decide +kernel
theorem dX3_turnRound_25 : decode cX3_turnRound 25 = .ok (.putfield 28, 3) := by decide +kernel
theorem dX3_turnRound_28 : decode cX3_turnRound 28 = .ok (.aload_n 0, 1) := by decide +kernel
theorem dX3_turnRound_29 : decode cX3_turnRound 29 = .ok (.iconst 0, 1) := by decide +kernel
theorem dX3_turnRound_30 : decode cX3_turnRound 30 = .ok (.putfield 31, 3) := by decide +kernel
theorem dX3_turnRound_33 : decode cX3_turnRound 33 = .ok (.iconst 0, 1) := by decide +kernel
theorem dX3_turnRound_34 : decode cX3_turnRound 34 = .ok (.istore_n 3, 1) := by decide +kernel
theorem dX3_turnRound_35 : decode cX3_turnRound 35 = .ok (.iload_n 3, 1) := by decide +kernel
theorem dX3_turnRound_36 : decode cX3_turnRound 36 = .ok (.aload_n 1, 1) := by decide +kernel
theorem dX3_turnRound_37 : decode cX3_turnRound 37 = .ok (.getfield 34, 3) := by decide +kernel
theorem dX3_turnRound_40 : decode cX3_turnRound 40 = .ok (.if_icmp .gt 58, 3) := by decide +kernel
theorem dX3_turnRound_43 : decode cX3_turnRound 43 = .ok (.iconst 0, 1) := by decide +kernel
theorem dX3_turnRound_44 : decode cX3_turnRound 44 = .ok (.istore 4, 2) := by decide +kernel
theorem dX3_turnRound_46 : decode cX3_turnRound 46 = .ok (.iload 4, 2) := by decide +kernel
theorem dX3_turnRound_48 : decode cX3_turnRound 48 = .ok (.aload_n 1, 1) := by decide +kernel
theorem dX3_turnRound_49 : decode cX3_turnRound 49 = .ok (.getfield 37, 3) := by decide +kernel
theorem dX3_turnRound_52 : decode cX3_turnRound 52 = .ok (.if_icmp .gt 40, 3) := by decide +kernel
theorem dX3_turnRound_55 : decode cX3_turnRound 55 = .ok (.aload_n 1, 1) := by decide +kernel
theorem dX3_turnRound_56 : decode cX3_turnRound 56 = .ok (.iload 4, 2) := by decide +kernel
theorem dX3_turnRound_58 : decode cX3_turnRound 58 = .ok (.iload_n 3, 1) := by decide +kernel
theorem dX3_turnRound_59 : decode cX3_turnRound 59 = .ok (.invokestatic 40, 3) := by decide +kernel
theorem dX3_turnRound_62 : decode cX3_turnRound 62 = .ok (.ifCond .eq 24, 3) := by decide +kernel
theorem dX3_turnRound_65 : decode cX3_turnRound 65 = .ok (.aload_n 0, 1) := by decide +kernel
theorem dX3_turnRound_66 : decode cX3_turnRound 66 = .ok (.iconst 2, 1) := by decide +kernel
theorem dX3_turnRound_67 : decode cX3_turnRound 67 = .ok (.iload 4, 2) := by decide +kernel
theorem dX3_turnRound_69 : decode cX3_turnRound 69 = .ok (.imul, 1) := by decide +kernel
theorem dX3_turnRound_70 : decode cX3_turnRound 70 = .ok (.aload_n 0, 1) := by decide +kernel
theorem dX3_turnRound_71 : decode cX3_turnRound 71 = .ok (.getfield 24, 3) := by decide +kernel
theorem dX3_turnRound_74 : decode cX3_turnRound 74 = .ok (.isub, 1) := by decide +kernel
theorem dX3_turnRound_75 : decode cX3_turnRound 75 = .ok (.iconst 2, 1) := by decide +kernel
theorem dX3_turnRound_76 : decode cX3_turnRound 76 = .ok (.iload_n 3, 1) := by decide +kernel
theorem dX3_turnRound_77 : decode cX3_turnRound 77 = .ok (.imul, 1) := by decide +kernel
theorem dX3_turnRound_78 : decode cX3_turnRound 78 = .ok (.aload_n 0, 1) := by decide +kernel
theorem dX3_turnRound_79 : decode cX3_turnRound 79 = .ok (.getfield 28, 3) := by decide +kernel
theorem dX3_turnRound_82 : decode cX3_turnRound 82 = .ok (.isub, 1) := by decide +kernel
theorem dX3_turnRound_83 : decode cX3_turnRound 83 = .ok (.invokevirtual 44, 3) := by decide +kernel
theorem dX3_turnRound_86 : decode cX3_turnRound 86 = .ok (.iinc 4 1, 3) := by decide +kernel
theorem dX3_turnRound_89 : decode cX3_turnRound 89 = .ok (.goto (-43), 3) := by decide +kernel
theorem dX3_turnRound_92 : decode cX3_turnRound 92 = .ok (.iinc 3 1, 3) := by decide +kernel
theorem dX3_turnRound_95 : decode cX3_turnRound 95 = .ok (.goto (-60), 3) := by decide +kernel
theorem dX3_turnRound_98 : decode cX3_turnRound 98 = .ok (.return_, 1) := by decide +kernel
theorem dX3_isEventPoint_0 : decode cX3_isEventPoint 0 = .ok (.iconst 0, 1) := by decide +kernel
theorem dX3_isEventPoint_1 : decode cX3_isEventPoint 1 = .ok (.istore_n 3, 1) := by decide +kernel
theorem dX3_isEventPoint_2 : decode cX3_isEventPoint 2 = .ok (.iconst 0, 1) := by decide +kernel
theorem dX3_isEventPoint_3 : decode cX3_isEventPoint 3 = .ok (.istore 4, 2) := by decide +kernel
theorem dX3_isEventPoint_5 : decode cX3_isEventPoint 5 = .ok (.iconst 0, 1) := by decide +kernel
theorem dX3_isEventPoint_6 : decode cX3_isEventPoint 6 = .ok (.istore 5, 2) := by decide +kernel
theorem dX3_isEventPoint_8 : decode cX3_isEventPoint 8 = .ok (.iload 5, 2) := by decide +kernel
theorem dX3_isEventPoint_10 : decode cX3_isEventPoint 10 = .ok (.aload_n 0, 1) := by decide +kernel
theorem dX3_isEventPoint_11 : decode cX3_isEventPoint 11 = .ok (.getfield 48, 3) := by decide +kernel
theorem dX3_isEventPoint_14 : decode cX3_isEventPoint 14 = .ok (.if_icmp .ge 136, 3) := by decide +kernel
theorem dX3_isEventPoint_17 : decode cX3_isEventPoint 17 = .ok (.aload_n 0, 1) := by decide +kernel
theorem dX3_isEventPoint_18 : decode cX3_isEventPoint 18 = .ok (.iload 5, 2) := by decide +kernel
theorem dX3_isEventPoint_20 : decode cX3_isEventPoint 20 = .ok (.iconst 3, 1) := by decide +kernel
theorem dX3_isEventPoint_21 : decode cX3_isEventPoint 21 = .ok (.invokevirtual 51, 3) := by decide +kernel
theorem dX3_isEventPoint_24 : decode cX3_isEventPoint 24 = .ok (.iconst 1, 1) := by decide +kernel
theorem dX3_isEventPoint_25 : decode cX3_isEventPoint 25 = .ok (.if_icmp .ne 7, 3) := by decide +kernel
theorem dX3_isEventPoint_28 : decode cX3_isEventPoint 28 = .ok (.iconst 1, 1) := by decide +kernel
theorem dX3_isEventPoint_29 : decode cX3_isEventPoint 29 = .ok (.goto 4, 3) := by decide +kernel
theorem dX3_isEventPoint_32 : decode cX3_isEventPoint 32 = .ok (.iconst 0, 1) := by decide +kernel
theorem dX3_isEventPoint_33 : decode cX3_isEventPoint 33 = .ok (.istore 6, 2) := by decide +kernel
theorem dX3_isEventPoint_35 : decode cX3_isEventPoint 35 = .ok (.iload_n 1, 1) := by decide +kernel
theorem dX3_isEventPoint_36 : decode cX3_isEventPoint 36 = .ok (.aload_n 0, 1) := by decide +kernel
theorem dX3_isEventPoint_37 : decode cX3_isEventPoint 37 = .ok (.iload 5, 2) := by decide +kernel
theorem dX3_isEventPoint_39 : decode cX3_isEventPoint 39 = .ok (.iconst 0, 1) := by decide +kernel
theorem dX3_isEventPoint_40 : decode cX3_isEventPoint 40 = .ok (.invokevirtual 51, 3) := by decide +kernel
theorem dX3_isEventPoint_43 : decode cX3_isEventPoint 43 = .ok (.isub, 1) := by decide +kernel
theorem dX3_isEventPoint_44 : decode cX3_isEventPoint 44 = .ok (.istore 7, 2) := by decide +kernel
theorem dX3_isEventPoint_46 : decode cX3_isEventPoint 46 = .ok (.iload_n 2, 1) := by decide +kernel
theorem dX3_isEventPoint_47 : decode cX3_isEventPoint 47 = .ok (.aload_n 0, 1) := by decide +kernel
theorem dX3_isEventPoint_48 : decode cX3_isEventPoint 48 = .ok (.iload 5, 2) := by decide +kernel
theorem dX3_isEventPoint_50 : decode cX3_isEventPoint 50 = .ok (.iconst 1, 1) := by decide +kernel
theorem dX3_isEventPoint_51 : decode cX3_isEventPoint 51 = .ok (.invokevirtual 51, 3) := by decide +kernel
theorem dX3_isEventPoint_54 : decode cX3_isEventPoint 54 = .ok (.isub, 1) := by decide +kernel
theorem dX3_isEventPoint_55 : decode cX3_isEventPoint 55 = .ok (.istore 8, 2) := by decide +kernel
theorem dX3_isEventPoint_57 : decode cX3_isEventPoint 57 = .ok (.iload 6, 2) := by decide +kernel
theorem dX3_isEventPoint_59 : decode cX3_isEventPoint 59 = .ok (.ifCond .eq 8, 3) := by decide +kernel
theorem dX3_isEventPoint_62 : decode cX3_isEventPoint 62 = .ok (.iload 8, 2) := by decide +kernel
theorem dX3_isEventPoint_64 : decode cX3_isEventPoint 64 = .ok (.goto 5, 3) := by decide +kernel
theorem dX3_isEventPoint_67 : decode cX3_isEventPoint 67 = .ok (.iload 7, 2) := by decide +kernel
theorem dX3_isEventPoint_69 : decode cX3_isEventPoint 69 = .ok (.istore 9, 2) := by decide +kernel
theorem dX3_isEventPoint_71 : decode cX3_isEventPoint 71 = .ok (.aload_n 0, 1) := by decide +kernel
theorem dX3_isEventPoint_72 : decode cX3_isEventPoint 72 = .ok (.iload 5, 2) := by decide +kernel
theorem dX3_isEventPoint_74 : decode cX3_isEventPoint 74 = .ok (.iconst 2, 1) := by decide +kernel
theorem dX3_isEventPoint_75 : decode cX3_isEventPoint 75 = .ok (.invokevirtual 51, 3) := by decide +kernel
theorem dX3_isEventPoint_78 : decode cX3_isEventPoint 78 = .ok (.istore 10, 2) := by decide +kernel
theorem dX3_isEventPoint_80 : decode cX3_isEventPoint 80 = .ok (.iload 6, 2) := by decide +kernel
theorem dX3_isEventPoint_82 : decode cX3_isEventPoint 82 = .ok (.ifCond .eq 8, 3) := by decide +kernel
theorem dX3_isEventPoint_85 : decode cX3_isEventPoint 85 = .ok (.iload 7, 2) := by decide +kernel
theorem dX3_isEventPoint_87 : decode cX3_isEventPoint 87 = .ok (.goto 5, 3) := by decide +kernel
theorem dX3_isEventPoint_90 : decode cX3_isEventPoint 90 = .ok (.iload 8, 2) := by decide +kernel
theorem dX3_isEventPoint_92 : decode cX3_isEventPoint 92 = .ok (.ifCond .ne 52, 3) := by decide +kernel
theorem dX3_isEventPoint_95 : decode cX3_isEventPoint 95 = .ok (.iload 9, 2) := by decide +kernel
theorem dX3_isEventPoint_97 : decode cX3_isEventPoint 97 = .ok (.ifCond .lt 47, 3) := by decide +kernel
theorem dX3_isEventPoint_100 : decode cX3_isEventPoint 100 = .ok (.iload 9, 2) := by decide +kernel
theorem dX3_isEventPoint_102 : decode cX3_isEventPoint 102 = .ok (.iload 10, 2) := by decide +kernel
theorem dX3_isEventPoint_104 : decode cX3_isEventPoint 104 = .ok (.if_icmp .le 6, 3) := by decide +kernel
theorem dX3_isEventPoint_107 : decode cX3_isEventPoint 107 = .ok (.goto 37, 3) := by decide +kernel
theorem dX3_isEventPoint_110 : decode cX3_isEventPoint 110 = .ok (.iload 9, 2) := by decide +kernel
theorem dX3_isEventPoint_112 : decode cX3_isEventPoint 112 = .ok (.ifCond .eq 10, 3) := by decide +kernel
theorem dX3_isEventPoint_115 : decode cX3_isEventPoint 115 = .ok (.iload 9, 2) := by decide +kernel
theorem dX3_isEventPoint_117 : decode cX3_isEventPoint 117 = .ok (.iload 10, 2) := by decide +kernel
theorem dX3_isEventPoint_119 : decode cX3_isEventPoint 119 = .ok (.if_icmp .ne 5, 3) := by decide +kernel
theorem dX3_isEventPoint_122 : decode cX3_isEventPoint 122 = .ok (.iconst 1, 1) := by decide +kernel
theorem dX3_isEventPoint_123 : decode cX3_isEventPoint 123 = .ok (.ireturn, 1) := by decide +kernel
theorem dX3_isEventPoint_124 : decode cX3_isEventPoint 124 = .ok (.iload_n 3, 1) := by decide +kernel
theorem dX3_isEventPoint_125 : decode cX3_isEventPoint 125 = .ok (.iload 6, 2) := by decide +kernel
theorem dX3_isEventPoint_127 : decode cX3_isEventPoint 127 = .ok (.ifCond .ne 7, 3) := by decide +kernel
theorem dX3_isEventPoint_130 : decode cX3_isEventPoint 130 = .ok (.iconst 1, 1) := by decide +kernel
theorem dX3_isEventPoint_131 : decode cX3_isEventPoint 131 = .ok (.goto 4, 3) := by decide +kernel
theorem dX3_isEventPoint_134 : decode cX3_isEventPoint 134 = .ok (.iconst 0, 1) := by decide +kernel
theorem dX3_isEventPoint_135 : decode cX3_isEventPoint 135 = .ok (.ior, 1) := by decide +kernel
theorem dX3_isEventPoint_136 : decode cX3_isEventPoint 136 = .ok (.istore_n 3, 1) := by decide +kernel
theorem dX3_isEventPoint_137 : decode cX3_isEventPoint 137 = .ok (.iload 4, 2) := by decide +kernel
theorem dX3_isEventPoint_139 : decode cX3_isEventPoint 139 = .ok (.iload 6, 2) := by decide +kernel
theorem dX3_isEventPoint_141 : decode cX3_isEventPoint 141 = .ok (.ior, 1) := by decide +kernel
theorem dX3_isEventPoint_142 : decode cX3_isEventPoint 142 = .ok (.istore 4, 2) := by decide +kernel
theorem dX3_isEventPoint_144 : decode cX3_isEventPoint 144 = .ok (.iinc 5 1, 3) := by decide +kernel
theorem dX3_isEventPoint_147 : decode cX3_isEventPoint 147 = .ok (.goto (-139), 3) := by decide +kernel
theorem dX3_isEventPoint_150 : decode cX3_isEventPoint 150 = .ok (.iload_n 3, 1) := by decide +kernel
theorem dX3_isEventPoint_151 : decode cX3_isEventPoint 151 = .ok (.ifCond .eq 12, 3) := by decide +kernel
theorem dX3_isEventPoint_154 : decode cX3_isEventPoint 154 = .ok (.iload 4, 2) := by decide +kernel
theorem dX3_isEventPoint_156 : decode cX3_isEventPoint 156 = .ok (.ifCond .eq 7, 3) := by decide +kernel
theorem dX3_isEventPoint_159 : decode cX3_isEventPoint 159 = .ok (.iconst 1, 1) := by decide +kernel
theorem dX3_isEventPoint_160 : decode cX3_isEventPoint 160 = .ok (.goto 4, 3) := by decide +kernel
theorem dX3_isEventPoint_163 : decode cX3_isEventPoint 163 = .ok (.iconst 0, 1) := by decide +kernel
theorem dX3_isEventPoint_164 : decode cX3_isEventPoint 164 = .ok (.ireturn, 1) := by decide +kernel
theorem dX3_addEvent_0 : decode cX3_addEvent 0 = .ok (.iload_n 1, 1) := by decide +kernel
theorem dX3_addEvent_1 : decode cX3_addEvent 1 = .ok (.iload_n 2, 1) := by decide +kernel
theorem dX3_addEvent_2 : decode cX3_addEvent 2 = .ok (.invokestatic 54, 3) := by decide +kernel
theorem dX3_addEvent_5 : decode cX3_addEvent 5 = .ok (.istore_n 3, 1) := by decide +kernel
theorem dX3_addEvent_6 : decode cX3_addEvent 6 = .ok (.iload_n 3, 1) := by decide +kernel
theorem dX3_addEvent_7 : decode cX3_addEvent 7 = .ok (.ifCond .le 12, 3) := by decide +kernel
theorem dX3_addEvent_10 : decode cX3_addEvent 10 = .ok (.aload_n 0, 1) := by decide +kernel
theorem dX3_addEvent_11 : decode cX3_addEvent 11 = .ok (.getfield 31, 3) := by decide +kernel
theorem dX3_addEvent_14 : decode cX3_addEvent 14 = .ok (.bipush 100, 2) := by decide +kernel
theorem dX3_addEvent_16 : decode cX3_addEvent 16 = .ok (.if_icmp .lt 4, 3) := by decide +kernel
theorem dX3_addEvent_19 : decode cX3_addEvent 19 = .ok (.return_, 1) := by decide +kernel
theorem dX3_addEvent_20 : decode cX3_addEvent 20 = .ok (.iload_n 1, 1) := by decide +kernel
theorem dX3_addEvent_21 : decode cX3_addEvent 21 = .ok (.iload_n 3, 1) := by decide +kernel
theorem dX3_addEvent_22 : decode cX3_addEvent 22 = .ok (.idiv, 1) := by decide +kernel
theorem dX3_addEvent_23 : decode cX3_addEvent 23 = .ok (.istore 4, 2) := by decide +kernel
theorem dX3_addEvent_25 : decode cX3_addEvent 25 = .ok (.iload_n 2, 1) := by decide +kernel
theorem dX3_addEvent_26 : decode cX3_addEvent 26 = .ok (.iload_n 3, 1) := by decide +kernel
theorem dX3_addEvent_27 : decode cX3_addEvent 27 = .ok (.idiv, 1) := by decide +kernel
theorem dX3_addEvent_28 : decode cX3_addEvent 28 = .ok (.istore 5, 2) := by decide +kernel
theorem dX3_addEvent_30 : decode cX3_addEvent 30 = .ok (.iconst 0, 1) := by decide +kernel
theorem dX3_addEvent_31 : decode cX3_addEvent 31 = .ok (.istore 6, 2) := by decide +kernel
theorem dX3_addEvent_33 : decode cX3_addEvent 33 = .ok (.iload 6, 2) := by decide +kernel
theorem dX3_addEvent_35 : decode cX3_addEvent 35 = .ok (.aload_n 0, 1) := by decide +kernel
theorem dX3_addEvent_36 : decode cX3_addEvent 36 = .ok (.getfield 31, 3) := by decide +kernel
theorem dX3_addEvent_39 : decode cX3_addEvent 39 = .ok (.if_icmp .ge 33, 3) := by decide +kernel
theorem dX3_addEvent_42 : decode cX3_addEvent 42 = .ok (.aload_n 0, 1) := by decide +kernel
theorem dX3_addEvent_43 : decode cX3_addEvent 43 = .ok (.getfield 9, 3) := by decide +kernel
theorem dX3_addEvent_46 : decode cX3_addEvent 46 = .ok (.iload 6, 2) := by decide +kernel
theorem dX3_addEvent_48 : decode cX3_addEvent 48 = .ok (.iaload, 1) := by decide +kernel
theorem dX3_addEvent_49 : decode cX3_addEvent 49 = .ok (.aload_n 0, 1) := by decide +kernel
theorem dX3_addEvent_50 : decode cX3_addEvent 50 = .ok (.getfield 15, 3) := by decide +kernel
theorem dX3_addEvent_53 : decode cX3_addEvent 53 = .ok (.iload 6, 2) := by decide +kernel
theorem dX3_addEvent_55 : decode cX3_addEvent 55 = .ok (.iaload, 1) := by decide +kernel
theorem dX3_addEvent_56 : decode cX3_addEvent 56 = .ok (.iload 4, 2) := by decide +kernel
theorem dX3_addEvent_58 : decode cX3_addEvent 58 = .ok (.iload 5, 2) := by decide +kernel
theorem dX3_addEvent_60 : decode cX3_addEvent 60 = .ok (.invokestatic 57, 3) := by decide +kernel
theorem dX3_addEvent_63 : decode cX3_addEvent 63 = .ok (.ifCond .eq 9, 3) := by decide +kernel
theorem dX3_addEvent_66 : decode cX3_addEvent 66 = .ok (.iinc 6 1, 3) := by decide +kernel
theorem dX3_addEvent_69 : decode cX3_addEvent 69 = .ok (.goto (-36), 3) := by decide +kernel
theorem dX3_addEvent_72 : decode cX3_addEvent 72 = .ok (.iload 6, 2) := by decide +kernel
theorem dX3_addEvent_74 : decode cX3_addEvent 74 = .ok (.aload_n 0, 1) := by decide +kernel
theorem dX3_addEvent_75 : decode cX3_addEvent 75 = .ok (.getfield 31, 3) := by decide +kernel
theorem dX3_addEvent_78 : decode cX3_addEvent 78 = .ok (.if_icmp .ge 28, 3) := by decide +kernel
theorem dX3_addEvent_81 : decode cX3_addEvent 81 = .ok (.aload_n 0, 1) := by decide +kernel
theorem dX3_addEvent_82 : decode cX3_addEvent 82 = .ok (.getfield 9, 3) := by decide +kernel
theorem dX3_addEvent_85 : decode cX3_addEvent 85 = .ok (.iload 6, 2) := by decide +kernel
theorem dX3_addEvent_87 : decode cX3_addEvent 87 = .ok (.iaload, 1) := by decide +kernel
theorem dX3_addEvent_88 : decode cX3_addEvent 88 = .ok (.iload 4, 2) := by decide +kernel
theorem dX3_addEvent_90 : decode cX3_addEvent 90 = .ok (.if_icmp .ne 16, 3) := by decide +kernel
theorem dX3_addEvent_93 : decode cX3_addEvent 93 = .ok (.aload_n 0, 1) := by decide +kernel
theorem dX3_addEvent_94 : decode cX3_addEvent 94 = .ok (.getfield 15, 3) := by decide +kernel
theorem dX3_addEvent_97 : decode cX3_addEvent 97 = .ok (.iload 6, 2) := by decide +kernel
theorem dX3_addEvent_99 : decode cX3_addEvent 99 = .ok (.iaload, 1) := by decide +kernel
theorem dX3_addEvent_100 : decode cX3_addEvent 100 = .ok (.iload 5, 2) := by decide +kernel
theorem dX3_addEvent_102 : decode cX3_addEvent 102 = .ok (.if_icmp .ne 4, 3) := by decide +kernel
theorem dX3_addEvent_105 : decode cX3_addEvent 105 = .ok (.return_, 1) := by decide +kernel
theorem dX3_addEvent_106 : decode cX3_addEvent 106 = .ok (.aload_n 0, 1) := by decide +kernel
theorem dX3_addEvent_107 : decode cX3_addEvent 107 = .ok (.getfield 31, 3) := by decide +kernel
theorem dX3_addEvent_110 : decode cX3_addEvent 110 = .ok (.istore 7, 2) := by decide +kernel
theorem dX3_addEvent_112 : decode cX3_addEvent 112 = .ok (.iload 7, 2) := by decide +kernel
theorem dX3_addEvent_114 : decode cX3_addEvent 114 = .ok (.iload 6, 2) := by decide +kernel
theorem dX3_addEvent_116 : decode cX3_addEvent 116 = .ok (.if_icmp .le 41, 3) := by decide +kernel
theorem dX3_addEvent_119 : decode cX3_addEvent 119 = .ok (.aload_n 0, 1) := by decide +kernel
theorem dX3_addEvent_120 : decode cX3_addEvent 120 = .ok (.getfield 9, 3) := by decide +kernel
theorem dX3_addEvent_123 : decode cX3_addEvent 123 = .ok (.iload 7, 2) := by decide +kernel
theorem dX3_addEvent_125 : decode cX3_addEvent 125 = .ok (.aload_n 0, 1) := by decide +kernel
theorem dX3_addEvent_126 : decode cX3_addEvent 126 = .ok (.getfield 9, 3) := by decide +kernel
theorem dX3_addEvent_129 : decode cX3_addEvent 129 = .ok (.iload 7, 2) := by decide +kernel
theorem dX3_addEvent_131 : decode cX3_addEvent 131 = .ok (.iconst 1, 1) := by decide +kernel
theorem dX3_addEvent_132 : decode cX3_addEvent 132 = .ok (.isub, 1) := by decide +kernel
theorem dX3_addEvent_133 : decode cX3_addEvent 133 = .ok (.iaload, 1) := by decide +kernel
theorem dX3_addEvent_134 : decode cX3_addEvent 134 = .ok (.iastore, 1) := by decide +kernel
theorem dX3_addEvent_135 : decode cX3_addEvent 135 = .ok (.aload_n 0, 1) := by decide +kernel
theorem dX3_addEvent_136 : decode cX3_addEvent 136 = .ok (.getfield 15, 3) := by decide +kernel
theorem dX3_addEvent_139 : decode cX3_addEvent 139 = .ok (.iload 7, 2) := by decide +kernel
theorem dX3_addEvent_141 : decode cX3_addEvent 141 = .ok (.aload_n 0, 1) := by decide +kernel
theorem dX3_addEvent_142 : decode cX3_addEvent 142 = .ok (.getfield 15, 3) := by decide +kernel
theorem dX3_addEvent_145 : decode cX3_addEvent 145 = .ok (.iload 7, 2) := by decide +kernel
theorem dX3_addEvent_147 : decode cX3_addEvent 147 = .ok (.iconst 1, 1) := by decide +kernel
theorem dX3_addEvent_148 : decode cX3_addEvent 148 = .ok (.isub, 1) := by decide +kernel
theorem dX3_addEvent_149 : decode cX3_addEvent 149 = .ok (.iaload, 1) := by decide +kernel
theorem dX3_addEvent_150 : decode cX3_addEvent 150 = .ok (.iastore, 1) := by decide +kernel
theorem dX3_addEvent_151 : decode cX3_addEvent 151 = .ok (.iinc 7 (-1), 3) := by decide +kernel
theorem dX3_addEvent_154 : decode cX3_addEvent 154 = .ok (.goto (-42), 3) := by decide +kernel
theorem dX3_addEvent_157 : decode cX3_addEvent 157 = .ok (.aload_n 0, 1) := by decide +kernel
theorem dX3_addEvent_158 : decode cX3_addEvent 158 = .ok (.getfield 9, 3) := by decide +kernel
theorem dX3_addEvent_161 : decode cX3_addEvent 161 = .ok (.iload 6, 2) := by decide +kernel
theorem dX3_addEvent_163 : decode cX3_addEvent 163 = .ok (.iload 4, 2) := by decide +kernel
theorem dX3_addEvent_165 : decode cX3_addEvent 165 = .ok (.iastore, 1) := by decide +kernel
theorem dX3_addEvent_166 : decode cX3_addEvent 166 = .ok (.aload_n 0, 1) := by decide +kernel
theorem dX3_addEvent_167 : decode cX3_addEvent 167 = .ok (.getfield 15, 3) := by decide +kernel
theorem dX3_addEvent_170 : decode cX3_addEvent 170 = .ok (.iload 6, 2) := by decide +kernel
theorem dX3_addEvent_172 : decode cX3_addEvent 172 = .ok (.iload 5, 2) := by decide +kernel
theorem dX3_addEvent_174 : decode cX3_addEvent 174 = .ok (.iastore, 1) := by decide +kernel
theorem dX3_addEvent_175 : decode cX3_addEvent 175 = .ok (.aload_n 0, 1) := by decide +kernel
theorem dX3_addEvent_176 : decode cX3_addEvent 176 = .ok (.dup, 1) := by decide +kernel
theorem dX3_addEvent_177 : decode cX3_addEvent 177 = .ok (.getfield 31, 3) := by decide +kernel
theorem dX3_addEvent_180 : decode cX3_addEvent 180 = .ok (.iconst 1, 1) := by decide +kernel
theorem dX3_addEvent_181 : decode cX3_addEvent 181 = .ok (.iadd, 1) := by decide +kernel
theorem dX3_addEvent_182 : decode cX3_addEvent 182 = .ok (.putfield 31, 3) := by decide +kernel
theorem dX3_addEvent_185 : decode cX3_addEvent 185 = .ok (.return_, 1) := by decide +kernel
theorem dX3_isAhead_0 : decode cX3_isAhead 0 = .ok (.iload_n 1, 1) := by decide +kernel
theorem dX3_isAhead_1 : decode cX3_isAhead 1 = .ok (.ifCond .le 7, 3) := by decide +kernel
theorem dX3_isAhead_4 : decode cX3_isAhead 4 = .ok (.iconst 1, 1) := by decide +kernel
theorem dX3_isAhead_5 : decode cX3_isAhead 5 = .ok (.goto 4, 3) := by decide +kernel
theorem dX3_isAhead_8 : decode cX3_isAhead 8 = .ok (.iconst 0, 1) := by decide +kernel
theorem dX3_isAhead_9 : decode cX3_isAhead 9 = .ok (.iload_n 3, 1) := by decide +kernel
theorem dX3_isAhead_10 : decode cX3_isAhead 10 = .ok (.ifCond .le 7, 3) := by decide +kernel
theorem dX3_isAhead_13 : decode cX3_isAhead 13 = .ok (.iconst 1, 1) := by decide +kernel
theorem dX3_isAhead_14 : decode cX3_isAhead 14 = .ok (.goto 4, 3) := by decide +kernel
theorem dX3_isAhead_17 : decode cX3_isAhead 17 = .ok (.iconst 0, 1) := by decide +kernel
theorem dX3_isAhead_18 : decode cX3_isAhead 18 = .ok (.if_icmp .eq 13, 3) := by decide +kernel
theorem dX3_isAhead_21 : decode cX3_isAhead 21 = .ok (.iload_n 1, 1) := by decide +kernel
theorem dX3_isAhead_22 : decode cX3_isAhead 22 = .ok (.ifCond .le 7, 3) := by decide +kernel
theorem dX3_isAhead_25 : decode cX3_isAhead 25 = .ok (.iconst 1, 1) := by decide +kernel
theorem dX3_isAhead_26 : decode cX3_isAhead 26 = .ok (.goto 4, 3) := by decide +kernel
theorem dX3_isAhead_29 : decode cX3_isAhead 29 = .ok (.iconst 0, 1) := by decide +kernel
theorem dX3_isAhead_30 : decode cX3_isAhead 30 = .ok (.ireturn, 1) := by decide +kernel
theorem dX3_isAhead_31 : decode cX3_isAhead 31 = .ok (.iload_n 0, 1) := by decide +kernel
theorem dX3_isAhead_32 : decode cX3_isAhead 32 = .ok (.iload_n 3, 1) := by decide +kernel
theorem dX3_isAhead_33 : decode cX3_isAhead 33 = .ok (.imul, 1) := by decide +kernel
theorem dX3_isAhead_34 : decode cX3_isAhead 34 = .ok (.iload_n 1, 1) := by decide +kernel
theorem dX3_isAhead_35 : decode cX3_isAhead 35 = .ok (.iload_n 2, 1) := by decide +kernel
theorem dX3_isAhead_36 : decode cX3_isAhead 36 = .ok (.imul, 1) := by decide +kernel
theorem dX3_isAhead_37 : decode cX3_isAhead 37 = .ok (.isub, 1) := by decide +kernel
theorem dX3_isAhead_38 : decode cX3_isAhead 38 = .ok (.ifCond .le 7, 3) := by decide +kernel
theorem dX3_isAhead_41 : decode cX3_isAhead 41 = .ok (.iconst 1, 1) := by decide +kernel
theorem dX3_isAhead_42 : decode cX3_isAhead 42 = .ok (.goto 4, 3) := by decide +kernel
theorem dX3_isAhead_45 : decode cX3_isAhead 45 = .ok (.iconst 0, 1) := by decide +kernel
theorem dX3_isAhead_46 : decode cX3_isAhead 46 = .ok (.ireturn, 1) := by decide +kernel
theorem dX3_eventBehind_0 : decode cX3_eventBehind 0 = .ok (.iload_n 1, 1) := by decide +kernel
theorem dX3_eventBehind_1 : decode cX3_eventBehind 1 = .ok (.iconst 1, 1) := by decide +kernel
theorem dX3_eventBehind_2 : decode cX3_eventBehind 2 = .ok (.iadd, 1) := by decide +kernel
theorem dX3_eventBehind_3 : decode cX3_eventBehind 3 = .ok (.aload_n 0, 1) := by decide +kernel
theorem dX3_eventBehind_4 : decode cX3_eventBehind 4 = .ok (.getfield 31, 3) := by decide +kernel
theorem dX3_eventBehind_7 : decode cX3_eventBehind 7 = .ok (.if_icmp .ge 9, 3) := by decide +kernel
theorem dX3_eventBehind_10 : decode cX3_eventBehind 10 = .ok (.iload_n 1, 1) := by decide +kernel
theorem dX3_eventBehind_11 : decode cX3_eventBehind 11 = .ok (.iconst 1, 1) := by decide +kernel
theorem dX3_eventBehind_12 : decode cX3_eventBehind 12 = .ok (.iadd, 1) := by decide +kernel
theorem dX3_eventBehind_13 : decode cX3_eventBehind 13 = .ok (.goto 4, 3) := by decide +kernel
theorem dX3_eventBehind_16 : decode cX3_eventBehind 16 = .ok (.iconst 0, 1) := by decide +kernel
theorem dX3_eventBehind_17 : decode cX3_eventBehind 17 = .ok (.ireturn, 1) := by decide +kernel
theorem dX3_wallOfSector_0 : decode cX3_wallOfSector 0 = .ok (.aload_n 0, 1) := by decide +kernel
theorem dX3_wallOfSector_1 : decode cX3_wallOfSector 1 = .ok (.iload_n 2, 1) := by decide +kernel
theorem dX3_wallOfSector_2 : decode cX3_wallOfSector 2 = .ok (.invokevirtual 61, 3) := by decide +kernel
theorem dX3_wallOfSector_5 : decode cX3_wallOfSector 5 = .ok (.istore_n 3, 1) := by decide +kernel
theorem dX3_wallOfSector_6 : decode cX3_wallOfSector 6 = .ok (.aload_n 0, 1) := by decide +kernel
theorem dX3_wallOfSector_7 : decode cX3_wallOfSector 7 = .ok (.getfield 9, 3) := by decide +kernel
theorem dX3_wallOfSector_10 : decode cX3_wallOfSector 10 = .ok (.iload_n 2, 1) := by decide +kernel
theorem dX3_wallOfSector_11 : decode cX3_wallOfSector 11 = .ok (.iaload, 1) := by decide +kernel
theorem dX3_wallOfSector_12 : decode cX3_wallOfSector 12 = .ok (.aload_n 0, 1) := by decide +kernel
theorem dX3_wallOfSector_13 : decode cX3_wallOfSector 13 = .ok (.getfield 9, 3) := by decide +kernel
theorem dX3_wallOfSector_16 : decode cX3_wallOfSector 16 = .ok (.iload_n 3, 1) := by decide +kernel
theorem dX3_wallOfSector_17 : decode cX3_wallOfSector 17 = .ok (.iaload, 1) := by decide +kernel
theorem dX3_wallOfSector_18 : decode cX3_wallOfSector 18 = .ok (.iadd, 1) := by decide +kernel
theorem dX3_wallOfSector_19 : decode cX3_wallOfSector 19 = .ok (.istore 4, 2) := by decide +kernel
theorem dX3_wallOfSector_21 : decode cX3_wallOfSector 21 = .ok (.aload_n 0, 1) := by decide +kernel
theorem dX3_wallOfSector_22 : decode cX3_wallOfSector 22 = .ok (.getfield 15, 3) := by decide +kernel
theorem dX3_wallOfSector_25 : decode cX3_wallOfSector 25 = .ok (.iload_n 2, 1) := by decide +kernel
theorem dX3_wallOfSector_26 : decode cX3_wallOfSector 26 = .ok (.iaload, 1) := by decide +kernel
theorem dX3_wallOfSector_27 : decode cX3_wallOfSector 27 = .ok (.aload_n 0, 1) := by decide +kernel
theorem dX3_wallOfSector_28 : decode cX3_wallOfSector 28 = .ok (.getfield 15, 3) := by decide +kernel
theorem dX3_wallOfSector_31 : decode cX3_wallOfSector 31 = .ok (.iload_n 3, 1) := by decide +kernel
theorem dX3_wallOfSector_32 : decode cX3_wallOfSector 32 = .ok (.iaload, 1) := by decide +kernel
theorem dX3_wallOfSector_33 : decode cX3_wallOfSector 33 = .ok (.iadd, 1) := by decide +kernel
theorem dX3_wallOfSector_34 : decode cX3_wallOfSector 34 = .ok (.istore 5, 2) := by decide +kernel
theorem dX3_wallOfSector_36 : decode cX3_wallOfSector 36 = .ok (.bipush (-9), 2) := by decide +kernel
theorem dX3_wallOfSector_38 : decode cX3_wallOfSector 38 = .ok (.istore 6, 2) := by decide +kernel
theorem dX3_wallOfSector_40 : decode cX3_wallOfSector 40 = .ok (.iconst 0, 1) := by decide +kernel
theorem dX3_wallOfSector_41 : decode cX3_wallOfSector 41 = .ok (.istore 7, 2) := by decide +kernel
theorem dX3_wallOfSector_43 : decode cX3_wallOfSector 43 = .ok (.iconst 0, 1) := by decide +kernel
theorem dX3_wallOfSector_44 : decode cX3_wallOfSector 44 = .ok (.istore 8, 2) := by decide +kernel
theorem dX3_wallOfSector_46 : decode cX3_wallOfSector 46 = .ok (.iconst 0, 1) := by decide +kernel
theorem dX3_wallOfSector_47 : decode cX3_wallOfSector 47 = .ok (.istore 9, 2) := by decide +kernel
theorem dX3_wallOfSector_49 : decode cX3_wallOfSector 49 = .ok (.iload 9, 2) := by decide +kernel
theorem dX3_wallOfSector_51 : decode cX3_wallOfSector 51 = .ok (.aload_n 1, 1) := by decide +kernel
theorem dX3_wallOfSector_52 : decode cX3_wallOfSector 52 = .ok (.getfield 48, 3) := by decide +kernel
theorem dX3_wallOfSector_55 : decode cX3_wallOfSector 55 = .ok (.if_icmp .ge 151, 3) := by decide +kernel
theorem dX3_wallOfSector_58 : decode cX3_wallOfSector 58 = .ok (.aload_n 1, 1) := by decide +kernel
theorem dX3_wallOfSector_59 : decode cX3_wallOfSector 59 = .ok (.iload 9, 2) := by decide +kernel
theorem dX3_wallOfSector_61 : decode cX3_wallOfSector 61 = .ok (.iconst 3, 1) := by decide +kernel
theorem dX3_wallOfSector_62 : decode cX3_wallOfSector 62 = .ok (.invokevirtual 51, 3) := by decide +kernel
theorem dX3_wallOfSector_65 : decode cX3_wallOfSector 65 = .ok (.iconst 1, 1) := by decide +kernel
theorem dX3_wallOfSector_66 : decode cX3_wallOfSector 66 = .ok (.if_icmp .ne 7, 3) := by decide +kernel
theorem dX3_wallOfSector_69 : decode cX3_wallOfSector 69 = .ok (.iconst 1, 1) := by decide +kernel
theorem dX3_wallOfSector_70 : decode cX3_wallOfSector 70 = .ok (.goto 4, 3) := by decide +kernel
theorem dX3_wallOfSector_73 : decode cX3_wallOfSector 73 = .ok (.iconst 0, 1) := by decide +kernel
theorem dX3_wallOfSector_74 : decode cX3_wallOfSector 74 = .ok (.istore 10, 2) := by decide +kernel
theorem dX3_wallOfSector_76 : decode cX3_wallOfSector 76 = .ok (.iload 10, 2) := by decide +kernel
theorem dX3_wallOfSector_78 : decode cX3_wallOfSector 78 = .ok (.ifCond .eq 8, 3) := by decide +kernel
theorem dX3_wallOfSector_81 : decode cX3_wallOfSector 81 = .ok (.iload 4, 2) := by decide +kernel
theorem dX3_wallOfSector_83 : decode cX3_wallOfSector 83 = .ok (.goto 5, 3) := by decide +kernel
theorem dX3_wallOfSector_86 : decode cX3_wallOfSector 86 = .ok (.iload 5, 2) := by decide +kernel
theorem dX3_wallOfSector_88 : decode cX3_wallOfSector 88 = .ok (.invokestatic 65, 3) := by decide +kernel
theorem dX3_wallOfSector_91 : decode cX3_wallOfSector 91 = .ok (.istore 11, 2) := by decide +kernel
theorem dX3_wallOfSector_93 : decode cX3_wallOfSector 93 = .ok (.iload 10, 2) := by decide +kernel
theorem dX3_wallOfSector_95 : decode cX3_wallOfSector 95 = .ok (.ifCond .eq 8, 3) := by decide +kernel
theorem dX3_wallOfSector_98 : decode cX3_wallOfSector 98 = .ok (.iload 4, 2) := by decide +kernel
theorem dX3_wallOfSector_100 : decode cX3_wallOfSector 100 = .ok (.goto 5, 3) := by decide +kernel
theorem dX3_wallOfSector_103 : decode cX3_wallOfSector 103 = .ok (.iload 5, 2) := by decide +kernel
theorem dX3_wallOfSector_105 : decode cX3_wallOfSector 105 = .ok (.ifCond .ge 14, 3) := by decide +kernel
theorem dX3_wallOfSector_108 : decode cX3_wallOfSector 108 = .ok (.aload_n 0, 1) := by decide +kernel
theorem dX3_wallOfSector_109 : decode cX3_wallOfSector 109 = .ok (.aload_n 1, 1) := by decide +kernel
theorem dX3_wallOfSector_110 : decode cX3_wallOfSector 110 = .ok (.iload 9, 2) := by decide +kernel
theorem dX3_wallOfSector_112 : decode cX3_wallOfSector 112 = .ok (.invokevirtual 70, 3) := by decide +kernel
theorem dX3_wallOfSector_115 : decode cX3_wallOfSector 115 = .ok (.ineg, 1) := by decide +kernel
theorem dX3_wallOfSector_116 : decode cX3_wallOfSector 116 = .ok (.goto 10, 3) := by decide +kernel
theorem dX3_wallOfSector_119 : decode cX3_wallOfSector 119 = .ok (.aload_n 0, 1) := by decide +kernel
theorem dX3_wallOfSector_120 : decode cX3_wallOfSector 120 = .ok (.aload_n 1, 1) := by decide +kernel
theorem dX3_wallOfSector_121 : decode cX3_wallOfSector 121 = .ok (.iload 9, 2) := by decide +kernel
theorem dX3_wallOfSector_123 : decode cX3_wallOfSector 123 = .ok (.invokevirtual 70, 3) := by decide +kernel
theorem dX3_wallOfSector_126 : decode cX3_wallOfSector 126 = .ok (.istore 12, 2) := by decide +kernel
theorem dX3_wallOfSector_128 : decode cX3_wallOfSector 128 = .ok (.iload 11, 2) := by decide +kernel
theorem dX3_wallOfSector_130 : decode cX3_wallOfSector 130 = .ok (.ifCond .eq 70, 3) := by decide +kernel
theorem dX3_wallOfSector_133 : decode cX3_wallOfSector 133 = .ok (.iload 12, 2) := by decide +kernel
theorem dX3_wallOfSector_135 : decode cX3_wallOfSector 135 = .ok (.ifCond .lt 65, 3) := by decide +kernel
theorem dX3_wallOfSector_138 : decode cX3_wallOfSector 138 = .ok (.aload_n 0, 1) := by decide +kernel
theorem dX3_wallOfSector_139 : decode cX3_wallOfSector 139 = .ok (.aload_n 1, 1) := by decide +kernel
theorem dX3_wallOfSector_140 : decode cX3_wallOfSector 140 = .ok (.iload 9, 2) := by decide +kernel
theorem dX3_wallOfSector_142 : decode cX3_wallOfSector 142 = .ok (.iload 10, 2) := by decide +kernel
theorem dX3_wallOfSector_144 : decode cX3_wallOfSector 144 = .ok (.ifCond .eq 8, 3) := by decide +kernel
theorem dX3_wallOfSector_147 : decode cX3_wallOfSector 147 = .ok (.iload 5, 2) := by decide +kernel
theorem dX3_wallOfSector_149 : decode cX3_wallOfSector 149 = .ok (.goto 5, 3) := by decide +kernel
theorem dX3_wallOfSector_152 : decode cX3_wallOfSector 152 = .ok (.iload 4, 2) := by decide +kernel
theorem dX3_wallOfSector_154 : decode cX3_wallOfSector 154 = .ok (.iload 12, 2) := by decide +kernel
theorem dX3_wallOfSector_156 : decode cX3_wallOfSector 156 = .ok (.imul, 1) := by decide +kernel
theorem dX3_wallOfSector_157 : decode cX3_wallOfSector 157 = .ok (.iload 11, 2) := by decide +kernel
theorem dX3_wallOfSector_159 : decode cX3_wallOfSector 159 = .ok (.invokevirtual 74, 3) := by decide +kernel
theorem dX3_wallOfSector_162 : decode cX3_wallOfSector 162 = .ok (.ifCond .ne 6, 3) := by decide +kernel
theorem dX3_wallOfSector_165 : decode cX3_wallOfSector 165 = .ok (.goto 35, 3) := by decide +kernel
theorem dX3_wallOfSector_168 : decode cX3_wallOfSector 168 = .ok (.iload 6, 2) := by decide +kernel
theorem dX3_wallOfSector_170 : decode cX3_wallOfSector 170 = .ok (.bipush (-9), 2) := by decide +kernel
theorem dX3_wallOfSector_172 : decode cX3_wallOfSector 172 = .ok (.if_icmp .eq 16, 3) := by decide +kernel
theorem dX3_wallOfSector_175 : decode cX3_wallOfSector 175 = .ok (.iload 12, 2) := by decide +kernel
theorem dX3_wallOfSector_177 : decode cX3_wallOfSector 177 = .ok (.iload 8, 2) := by decide +kernel
theorem dX3_wallOfSector_179 : decode cX3_wallOfSector 179 = .ok (.imul, 1) := by decide +kernel
theorem dX3_wallOfSector_180 : decode cX3_wallOfSector 180 = .ok (.iload 7, 2) := by decide +kernel
theorem dX3_wallOfSector_182 : decode cX3_wallOfSector 182 = .ok (.iload 11, 2) := by decide +kernel
theorem dX3_wallOfSector_184 : decode cX3_wallOfSector 184 = .ok (.imul, 1) := by decide +kernel
theorem dX3_wallOfSector_185 : decode cX3_wallOfSector 185 = .ok (.if_icmp .ge 15, 3) := by decide +kernel
theorem dX3_wallOfSector_188 : decode cX3_wallOfSector 188 = .ok (.iload 9, 2) := by decide +kernel
theorem dX3_wallOfSector_190 : decode cX3_wallOfSector 190 = .ok (.istore 6, 2) := by decide +kernel
theorem dX3_wallOfSector_192 : decode cX3_wallOfSector 192 = .ok (.iload 12, 2) := by decide +kernel
theorem dX3_wallOfSector_194 : decode cX3_wallOfSector 194 = .ok (.istore 7, 2) := by decide +kernel
theorem dX3_wallOfSector_196 : decode cX3_wallOfSector 196 = .ok (.iload 11, 2) := by decide +kernel
theorem dX3_wallOfSector_198 : decode cX3_wallOfSector 198 = .ok (.istore 8, 2) := by decide +kernel
theorem dX3_wallOfSector_200 : decode cX3_wallOfSector 200 = .ok (.iinc 9 1, 3) := by decide +kernel
theorem dX3_wallOfSector_203 : decode cX3_wallOfSector 203 = .ok (.goto (-154), 3) := by decide +kernel
theorem dX3_wallOfSector_206 : decode cX3_wallOfSector 206 = .ok (.iload 6, 2) := by decide +kernel
theorem dX3_wallOfSector_208 : decode cX3_wallOfSector 208 = .ok (.ireturn, 1) := by decide +kernel
theorem dX3_gapTo_0 : decode cX3_gapTo 0 = .ok (.aload_n 1, 1) := by decide +kernel
theorem dX3_gapTo_1 : decode cX3_gapTo 1 = .ok (.iload_n 2, 1) := by decide +kernel
theorem dX3_gapTo_2 : decode cX3_gapTo 2 = .ok (.iconst 3, 1) := by decide +kernel
theorem dX3_gapTo_3 : decode cX3_gapTo 3 = .ok (.invokevirtual 51, 3) := by decide +kernel
theorem dX3_gapTo_6 : decode cX3_gapTo 6 = .ok (.iconst 1, 1) := by decide +kernel
theorem dX3_gapTo_7 : decode cX3_gapTo 7 = .ok (.if_icmp .ne 19, 3) := by decide +kernel
theorem dX3_gapTo_10 : decode cX3_gapTo 10 = .ok (.iconst 2, 1) := by decide +kernel
theorem dX3_gapTo_11 : decode cX3_gapTo 11 = .ok (.aload_n 1, 1) := by decide +kernel
theorem dX3_gapTo_12 : decode cX3_gapTo 12 = .ok (.iload_n 2, 1) := by decide +kernel
theorem dX3_gapTo_13 : decode cX3_gapTo 13 = .ok (.iconst 0, 1) := by decide +kernel
theorem dX3_gapTo_14 : decode cX3_gapTo 14 = .ok (.invokevirtual 51, 3) := by decide +kernel
theorem dX3_gapTo_17 : decode cX3_gapTo 17 = .ok (.imul, 1) := by decide +kernel
theorem dX3_gapTo_18 : decode cX3_gapTo 18 = .ok (.aload_n 0, 1) := by decide +kernel
theorem dX3_gapTo_19 : decode cX3_gapTo 19 = .ok (.getfield 24, 3) := by decide +kernel
theorem dX3_gapTo_22 : decode cX3_gapTo 22 = .ok (.isub, 1) := by decide +kernel
theorem dX3_gapTo_23 : decode cX3_gapTo 23 = .ok (.goto 16, 3) := by decide +kernel
theorem dX3_gapTo_26 : decode cX3_gapTo 26 = .ok (.iconst 2, 1) := by decide +kernel
theorem dX3_gapTo_27 : decode cX3_gapTo 27 = .ok (.aload_n 1, 1) := by decide +kernel
theorem dX3_gapTo_28 : decode cX3_gapTo 28 = .ok (.iload_n 2, 1) := by decide +kernel
theorem dX3_gapTo_29 : decode cX3_gapTo 29 = .ok (.iconst 1, 1) := by decide +kernel
theorem dX3_gapTo_30 : decode cX3_gapTo 30 = .ok (.invokevirtual 51, 3) := by decide +kernel
theorem dX3_gapTo_33 : decode cX3_gapTo 33 = .ok (.imul, 1) := by decide +kernel
theorem dX3_gapTo_34 : decode cX3_gapTo 34 = .ok (.aload_n 0, 1) := by decide +kernel
theorem dX3_gapTo_35 : decode cX3_gapTo 35 = .ok (.getfield 28, 3) := by decide +kernel
theorem dX3_gapTo_38 : decode cX3_gapTo 38 = .ok (.isub, 1) := by decide +kernel
theorem dX3_gapTo_39 : decode cX3_gapTo 39 = .ok (.ireturn, 1) := by decide +kernel
theorem dX3_isOnWall_0 : decode cX3_isOnWall 0 = .ok (.aload_n 1, 1) := by decide +kernel
theorem dX3_isOnWall_1 : decode cX3_isOnWall 1 = .ok (.iload_n 2, 1) := by decide +kernel
theorem dX3_isOnWall_2 : decode cX3_isOnWall 2 = .ok (.iconst 3, 1) := by decide +kernel
theorem dX3_isOnWall_3 : decode cX3_isOnWall 3 = .ok (.invokevirtual 51, 3) := by decide +kernel
theorem dX3_isOnWall_6 : decode cX3_isOnWall 6 = .ok (.iconst 1, 1) := by decide +kernel
theorem dX3_isOnWall_7 : decode cX3_isOnWall 7 = .ok (.if_icmp .ne 7, 3) := by decide +kernel
theorem dX3_isOnWall_10 : decode cX3_isOnWall 10 = .ok (.iconst 1, 1) := by decide +kernel
theorem dX3_isOnWall_11 : decode cX3_isOnWall 11 = .ok (.goto 4, 3) := by decide +kernel
theorem dX3_isOnWall_14 : decode cX3_isOnWall 14 = .ok (.iconst 0, 1) := by decide +kernel
theorem dX3_isOnWall_15 : decode cX3_isOnWall 15 = .ok (.istore 5, 2) := by decide +kernel
theorem dX3_isOnWall_17 : decode cX3_isOnWall 17 = .ok (.iconst 2, 1) := by decide +kernel
theorem dX3_isOnWall_18 : decode cX3_isOnWall 18 = .ok (.aload_n 1, 1) := by decide +kernel
theorem dX3_isOnWall_19 : decode cX3_isOnWall 19 = .ok (.iload_n 2, 1) := by decide +kernel
theorem dX3_isOnWall_20 : decode cX3_isOnWall 20 = .ok (.iload 5, 2) := by decide +kernel
theorem dX3_isOnWall_22 : decode cX3_isOnWall 22 = .ok (.ifCond .eq 7, 3) := by decide +kernel
theorem dX3_isOnWall_25 : decode cX3_isOnWall 25 = .ok (.iconst 1, 1) := by decide +kernel
theorem dX3_isOnWall_26 : decode cX3_isOnWall 26 = .ok (.goto 4, 3) := by decide +kernel
theorem dX3_isOnWall_29 : decode cX3_isOnWall 29 = .ok (.iconst 0, 1) := by decide +kernel
theorem dX3_isOnWall_30 : decode cX3_isOnWall 30 = .ok (.invokevirtual 51, 3) := by decide +kernel
theorem dX3_isOnWall_33 : decode cX3_isOnWall 33 = .ok (.imul, 1) := by decide +kernel
theorem dX3_isOnWall_34 : decode cX3_isOnWall 34 = .ok (.iload 5, 2) := by decide +kernel
theorem dX3_isOnWall_36 : decode cX3_isOnWall 36 = .ok (.ifCond .eq 10, 3) := by decide +kernel
theorem dX3_isOnWall_39 : decode cX3_isOnWall 39 = .ok (.aload_n 0, 1) := by decide +kernel
theorem dX3_isOnWall_40 : decode cX3_isOnWall 40 = .ok (.getfield 28, 3) := by decide +kernel
theorem dX3_isOnWall_43 : decode cX3_isOnWall 43 = .ok (.goto 7, 3) := by decide +kernel
theorem dX3_isOnWall_46 : decode cX3_isOnWall 46 = .ok (.aload_n 0, 1) := by decide +kernel
theorem dX3_isOnWall_47 : decode cX3_isOnWall 47 = .ok (.getfield 24, 3) := by decide +kernel
theorem dX3_isOnWall_50 : decode cX3_isOnWall 50 = .ok (.isub, 1) := by decide +kernel
theorem dX3_isOnWall_51 : decode cX3_isOnWall 51 = .ok (.istore 6, 2) := by decide +kernel
theorem dX3_isOnWall_53 : decode cX3_isOnWall 53 = .ok (.iload 6, 2) := by decide +kernel
theorem dX3_isOnWall_55 : decode cX3_isOnWall 55 = .ok (.iconst 2, 1) := by decide +kernel
theorem dX3_isOnWall_56 : decode cX3_isOnWall 56 = .ok (.aload_n 1, 1) := by decide +kernel
theorem dX3_isOnWall_57 : decode cX3_isOnWall 57 = .ok (.iload_n 2, 1) := by decide +kernel
theorem dX3_isOnWall_58 : decode cX3_isOnWall 58 = .ok (.iconst 2, 1) := by decide +kernel
theorem dX3_isOnWall_59 : decode cX3_isOnWall 59 = .ok (.invokevirtual 51, 3) := by decide +kernel
theorem dX3_isOnWall_62 : decode cX3_isOnWall 62 = .ok (.imul, 1) := by decide +kernel
theorem dX3_isOnWall_63 : decode cX3_isOnWall 63 = .ok (.iadd, 1) := by decide +kernel
theorem dX3_isOnWall_64 : decode cX3_isOnWall 64 = .ok (.istore 7, 2) := by decide +kernel
theorem dX3_isOnWall_66 : decode cX3_isOnWall 66 = .ok (.iload 6, 2) := by decide +kernel
theorem dX3_isOnWall_68 : decode cX3_isOnWall 68 = .ok (.iload 4, 2) := by decide +kernel
theorem dX3_isOnWall_70 : decode cX3_isOnWall 70 = .ok (.imul, 1) := by decide +kernel
theorem dX3_isOnWall_71 : decode cX3_isOnWall 71 = .ok (.iload_n 3, 1) := by decide +kernel
theorem dX3_isOnWall_72 : decode cX3_isOnWall 72 = .ok (.if_icmp .gt 16, 3) := by decide +kernel
theorem dX3_isOnWall_75 : decode cX3_isOnWall 75 = .ok (.iload_n 3, 1) := by decide +kernel
theorem dX3_isOnWall_76 : decode cX3_isOnWall 76 = .ok (.iload 7, 2) := by decide +kernel
theorem dX3_isOnWall_78 : decode cX3_isOnWall 78 = .ok (.iload 4, 2) := by decide +kernel
theorem dX3_isOnWall_80 : decode cX3_isOnWall 80 = .ok (.imul, 1) := by decide +kernel
theorem dX3_isOnWall_81 : decode cX3_isOnWall 81 = .ok (.if_icmp .gt 7, 3) := by decide +kernel
theorem dX3_isOnWall_84 : decode cX3_isOnWall 84 = .ok (.iconst 1, 1) := by decide +kernel
theorem dX3_isOnWall_85 : decode cX3_isOnWall 85 = .ok (.goto 4, 3) := by decide +kernel
theorem dX3_isOnWall_88 : decode cX3_isOnWall 88 = .ok (.iconst 0, 1) := by decide +kernel
theorem dX3_isOnWall_89 : decode cX3_isOnWall 89 = .ok (.ireturn, 1) := by decide +kernel
theorem dX3_measure_0 : decode cX3_measure 0 = .ok (.aload_n 0, 1) := by decide +kernel
theorem dX3_measure_1 : decode cX3_measure 1 = .ok (.iload_n 2, 1) := by decide +kernel
theorem dX3_measure_2 : decode cX3_measure 2 = .ok (.invokevirtual 61, 3) := by decide +kernel
theorem dX3_measure_5 : decode cX3_measure 5 = .ok (.istore 4, 2) := by decide +kernel
theorem dX3_measure_7 : decode cX3_measure 7 = .ok (.aload_n 1, 1) := by decide +kernel
theorem dX3_measure_8 : decode cX3_measure 8 = .ok (.iload_n 3, 1) := by decide +kernel
theorem dX3_measure_9 : decode cX3_measure 9 = .ok (.iconst 3, 1) := by decide +kernel
theorem dX3_measure_10 : decode cX3_measure 10 = .ok (.invokevirtual 51, 3) := by decide +kernel
theorem dX3_measure_13 : decode cX3_measure 13 = .ok (.iconst 1, 1) := by decide +kernel
theorem dX3_measure_14 : decode cX3_measure 14 = .ok (.if_icmp .ne 7, 3) := by decide +kernel
theorem dX3_measure_17 : decode cX3_measure 17 = .ok (.iconst 1, 1) := by decide +kernel
theorem dX3_measure_18 : decode cX3_measure 18 = .ok (.goto 4, 3) := by decide +kernel
theorem dX3_measure_21 : decode cX3_measure 21 = .ok (.iconst 0, 1) := by decide +kernel
theorem dX3_measure_22 : decode cX3_measure 22 = .ok (.istore 5, 2) := by decide +kernel
theorem dX3_measure_24 : decode cX3_measure 24 = .ok (.aload_n 0, 1) := by decide +kernel
theorem dX3_measure_25 : decode cX3_measure 25 = .ok (.getfield 9, 3) := by decide +kernel
theorem dX3_measure_28 : decode cX3_measure 28 = .ok (.iload_n 2, 1) := by decide +kernel
theorem dX3_measure_29 : decode cX3_measure 29 = .ok (.iaload, 1) := by decide +kernel
theorem dX3_measure_30 : decode cX3_measure 30 = .ok (.aload_n 0, 1) := by decide +kernel
theorem dX3_measure_31 : decode cX3_measure 31 = .ok (.getfield 15, 3) := by decide +kernel
theorem dX3_measure_34 : decode cX3_measure 34 = .ok (.iload 4, 2) := by decide +kernel
theorem dX3_measure_36 : decode cX3_measure 36 = .ok (.iaload, 1) := by decide +kernel
theorem dX3_measure_37 : decode cX3_measure 37 = .ok (.imul, 1) := by decide +kernel
theorem dX3_measure_38 : decode cX3_measure 38 = .ok (.aload_n 0, 1) := by decide +kernel
theorem dX3_measure_39 : decode cX3_measure 39 = .ok (.getfield 15, 3) := by decide +kernel
theorem dX3_measure_42 : decode cX3_measure 42 = .ok (.iload_n 2, 1) := by decide +kernel
theorem dX3_measure_43 : decode cX3_measure 43 = .ok (.iaload, 1) := by decide +kernel
theorem dX3_measure_44 : decode cX3_measure 44 = .ok (.aload_n 0, 1) := by decide +kernel
theorem dX3_measure_45 : decode cX3_measure 45 = .ok (.getfield 9, 3) := by decide +kernel
theorem dX3_measure_48 : decode cX3_measure 48 = .ok (.iload 4, 2) := by decide +kernel
theorem dX3_measure_50 : decode cX3_measure 50 = .ok (.iaload, 1) := by decide +kernel
theorem dX3_measure_51 : decode cX3_measure 51 = .ok (.imul, 1) := by decide +kernel
theorem dX3_measure_52 : decode cX3_measure 52 = .ok (.isub, 1) := by decide +kernel
theorem dX3_measure_53 : decode cX3_measure 53 = .ok (.istore 6, 2) := by decide +kernel
theorem dX3_measure_55 : decode cX3_measure 55 = .ok (.aload_n 0, 1) := by decide +kernel
theorem dX3_measure_56 : decode cX3_measure 56 = .ok (.aload_n 1, 1) := by decide +kernel
theorem dX3_measure_57 : decode cX3_measure 57 = .ok (.iload_n 3, 1) := by decide +kernel
theorem dX3_measure_58 : decode cX3_measure 58 = .ok (.invokevirtual 70, 3) := by decide +kernel
theorem dX3_measure_61 : decode cX3_measure 61 = .ok (.istore 7, 2) := by decide +kernel
theorem dX3_measure_63 : decode cX3_measure 63 = .ok (.iload 5, 2) := by decide +kernel
theorem dX3_measure_65 : decode cX3_measure 65 = .ok (.ifCond .eq 20, 3) := by decide +kernel
theorem dX3_measure_68 : decode cX3_measure 68 = .ok (.aload_n 0, 1) := by decide +kernel
theorem dX3_measure_69 : decode cX3_measure 69 = .ok (.getfield 9, 3) := by decide +kernel
theorem dX3_measure_72 : decode cX3_measure 72 = .ok (.iload_n 2, 1) := by decide +kernel
theorem dX3_measure_73 : decode cX3_measure 73 = .ok (.iaload, 1) := by decide +kernel
theorem dX3_measure_74 : decode cX3_measure 74 = .ok (.aload_n 0, 1) := by decide +kernel
theorem dX3_measure_75 : decode cX3_measure 75 = .ok (.getfield 9, 3) := by decide +kernel
theorem dX3_measure_78 : decode cX3_measure 78 = .ok (.iload 4, 2) := by decide +kernel
theorem dX3_measure_80 : decode cX3_measure 80 = .ok (.iaload, 1) := by decide +kernel
theorem dX3_measure_81 : decode cX3_measure 81 = .ok (.imul, 1) := by decide +kernel
theorem dX3_measure_82 : decode cX3_measure 82 = .ok (.goto 17, 3) := by decide +kernel
theorem dX3_measure_85 : decode cX3_measure 85 = .ok (.aload_n 0, 1) := by decide +kernel
theorem dX3_measure_86 : decode cX3_measure 86 = .ok (.getfield 15, 3) := by decide +kernel
theorem dX3_measure_89 : decode cX3_measure 89 = .ok (.iload_n 2, 1) := by decide +kernel
theorem dX3_measure_90 : decode cX3_measure 90 = .ok (.iaload, 1) := by decide +kernel
theorem dX3_measure_91 : decode cX3_measure 91 = .ok (.aload_n 0, 1) := by decide +kernel
theorem dX3_measure_92 : decode cX3_measure 92 = .ok (.getfield 15, 3) := by decide +kernel
theorem dX3_measure_95 : decode cX3_measure 95 = .ok (.iload 4, 2) := by decide +kernel
theorem dX3_measure_97 : decode cX3_measure 97 = .ok (.iaload, 1) := by decide +kernel
theorem dX3_measure_98 : decode cX3_measure 98 = .ok (.imul, 1) := by decide +kernel
theorem dX3_measure_99 : decode cX3_measure 99 = .ok (.istore 8, 2) := by decide +kernel
theorem dX3_measure_101 : decode cX3_measure 101 = .ok (.iload 6, 2) := by decide +kernel
theorem dX3_measure_103 : decode cX3_measure 103 = .ok (.iload 7, 2) := by decide +kernel
theorem dX3_measure_105 : decode cX3_measure 105 = .ok (.imul, 1) := by decide +kernel
theorem dX3_measure_106 : decode cX3_measure 106 = .ok (.iload 7, 2) := by decide +kernel
theorem dX3_measure_108 : decode cX3_measure 108 = .ok (.imul, 1) := by decide +kernel
theorem dX3_measure_109 : decode cX3_measure 109 = .ok (.istore 9, 2) := by decide +kernel
theorem dX3_measure_111 : decode cX3_measure 111 = .ok (.bipush 8, 2) := by decide +kernel
theorem dX3_measure_113 : decode cX3_measure 113 = .ok (.iload 8, 2) := by decide +kernel
theorem dX3_measure_115 : decode cX3_measure 115 = .ok (.invokestatic 65, 3) := by decide +kernel
theorem dX3_measure_118 : decode cX3_measure 118 = .ok (.imul, 1) := by decide +kernel
theorem dX3_measure_119 : decode cX3_measure 119 = .ok (.istore 10, 2) := by decide +kernel
theorem dX3_measure_121 : decode cX3_measure 121 = .ok (.iload 9, 2) := by decide +kernel
theorem dX3_measure_123 : decode cX3_measure 123 = .ok (.iload 10, 2) := by decide +kernel
theorem dX3_measure_125 : decode cX3_measure 125 = .ok (.invokestatic 54, 3) := by decide +kernel
theorem dX3_measure_128 : decode cX3_measure 128 = .ok (.istore 11, 2) := by decide +kernel
theorem dX3_measure_130 : decode cX3_measure 130 = .ok (.aload_n 0, 1) := by decide +kernel
theorem dX3_measure_131 : decode cX3_measure 131 = .ok (.iload 11, 2) := by decide +kernel
theorem dX3_measure_133 : decode cX3_measure 133 = .ok (.ifCond .le 11, 3) := by decide +kernel
theorem dX3_measure_136 : decode cX3_measure 136 = .ok (.iload 9, 2) := by decide +kernel
theorem dX3_measure_138 : decode cX3_measure 138 = .ok (.iload 11, 2) := by decide +kernel
theorem dX3_measure_140 : decode cX3_measure 140 = .ok (.idiv, 1) := by decide +kernel
theorem dX3_measure_141 : decode cX3_measure 141 = .ok (.goto 5, 3) := by decide +kernel
theorem dX3_measure_144 : decode cX3_measure 144 = .ok (.iload 9, 2) := by decide +kernel
theorem dX3_measure_146 : decode cX3_measure 146 = .ok (.putfield 78, 3) := by decide +kernel
theorem dX3_measure_149 : decode cX3_measure 149 = .ok (.aload_n 0, 1) := by decide +kernel
theorem dX3_measure_150 : decode cX3_measure 150 = .ok (.iload 11, 2) := by decide +kernel
theorem dX3_measure_152 : decode cX3_measure 152 = .ok (.ifCond .le 11, 3) := by decide +kernel
theorem dX3_measure_155 : decode cX3_measure 155 = .ok (.iload 10, 2) := by decide +kernel
theorem dX3_measure_157 : decode cX3_measure 157 = .ok (.iload 11, 2) := by decide +kernel
theorem dX3_measure_159 : decode cX3_measure 159 = .ok (.idiv, 1) := by decide +kernel
theorem dX3_measure_160 : decode cX3_measure 160 = .ok (.goto 5, 3) := by decide +kernel
theorem dX3_measure_163 : decode cX3_measure 163 = .ok (.iload 10, 2) := by decide +kernel
theorem dX3_measure_165 : decode cX3_measure 165 = .ok (.putfield 81, 3) := by decide +kernel
theorem dX3_measure_168 : decode cX3_measure 168 = .ok (.return_, 1) := by decide +kernel
theorem dX3_commonDivisor_0 : decode cX3_commonDivisor 0 = .ok (.iload_n 0, 1) := by decide +kernel
theorem dX3_commonDivisor_1 : decode cX3_commonDivisor 1 = .ok (.invokestatic 65, 3) := by decide +kernel
theorem dX3_commonDivisor_4 : decode cX3_commonDivisor 4 = .ok (.istore_n 2, 1) := by decide +kernel
theorem dX3_commonDivisor_5 : decode cX3_commonDivisor 5 = .ok (.iload_n 1, 1) := by decide +kernel
theorem dX3_commonDivisor_6 : decode cX3_commonDivisor 6 = .ok (.invokestatic 65, 3) := by decide +kernel
theorem dX3_commonDivisor_9 : decode cX3_commonDivisor 9 = .ok (.istore_n 3, 1) := by decide +kernel
theorem dX3_commonDivisor_10 : decode cX3_commonDivisor 10 = .ok (.iconst 0, 1) := by decide +kernel
theorem dX3_commonDivisor_11 : decode cX3_commonDivisor 11 = .ok (.istore 4, 2) := by decide +kernel
theorem dX3_commonDivisor_13 : decode cX3_commonDivisor 13 = .ok (.iload 4, 2) := by decide +kernel
theorem dX3_commonDivisor_15 : decode cX3_commonDivisor 15 = .ok (.bipush 50, 2) := by decide +kernel
theorem dX3_commonDivisor_17 : decode cX3_commonDivisor 17 = .ok (.if_icmp .ge 23, 3) := by decide +kernel
theorem dX3_commonDivisor_20 : decode cX3_commonDivisor 20 = .ok (.iload_n 3, 1) := by decide +kernel
theorem dX3_commonDivisor_21 : decode cX3_commonDivisor 21 = .ok (.ifCond .eq 19, 3) := by decide +kernel
theorem dX3_commonDivisor_24 : decode cX3_commonDivisor 24 = .ok (.iload_n 2, 1) := by decide +kernel
theorem dX3_commonDivisor_25 : decode cX3_commonDivisor 25 = .ok (.iload_n 3, 1) := by decide +kernel
theorem dX3_commonDivisor_26 : decode cX3_commonDivisor 26 = .ok (.irem, 1) := by decide +kernel
theorem dX3_commonDivisor_27 : decode cX3_commonDivisor 27 = .ok (.istore 5, 2) := by decide +kernel
theorem dX3_commonDivisor_29 : decode cX3_commonDivisor 29 = .ok (.iload_n 3, 1) := by decide +kernel
theorem dX3_commonDivisor_30 : decode cX3_commonDivisor 30 = .ok (.istore_n 2, 1) := by decide +kernel
theorem dX3_commonDivisor_31 : decode cX3_commonDivisor 31 = .ok (.iload 5, 2) := by decide +kernel
theorem dX3_commonDivisor_33 : decode cX3_commonDivisor 33 = .ok (.istore_n 3, 1) := by decide +kernel
theorem dX3_commonDivisor_34 : decode cX3_commonDivisor 34 = .ok (.iinc 4 1, 3) := by decide +kernel
theorem dX3_commonDivisor_37 : decode cX3_commonDivisor 37 = .ok (.goto (-24), 3) := by decide +kernel
theorem dX3_commonDivisor_40 : decode cX3_commonDivisor 40 = .ok (.iload_n 2, 1) := by decide +kernel
theorem dX3_commonDivisor_41 : decode cX3_commonDivisor 41 = .ok (.ireturn, 1) := by decide +kernel
theorem dX4_init_0 : decode cX4_init 0 = .ok (.aload_n 0, 1) := by decide +kernel
theorem dX4_init_1 : decode cX4_init 1 = .ok (.invokespecial 3, 3) := by decide +kernel
theorem dX4_init_4 : decode cX4_init 4 = .ok (.aload_n 0, 1) := by decide +kernel
theorem dX4_init_5 : decode cX4_init 5 = .ok (.bipush 120, 2) := by decide +kernel
theorem dX4_init_7 : decode cX4_init 7 = .ok (.newarray .char, 2) := by decide +kernel
theorem dX4_init_9 : decode cX4_init 9 = .ok (.putfield 9, 3) := by decide +kernel
theorem dX4_init_12 : decode cX4_init 12 = .ok (.return_, 1) := by decide +kernel
theorem dX4_add_0 : decode cX4_add 0 = .ok (.aload_n 0, 1) := by decide +kernel
theorem dX4_add_1 : decode cX4_add 1 = .ok (.getfield 15, 3) := by decide +kernel
theorem dX4_add_4 : decode cX4_add 4 = .ok (.bipush 120, 2) := by decide +kernel
theorem dX4_add_6 : decode cX4_add 6 = .ok (.if_icmp .ge 23, 3) := by decide +kernel
theorem dX4_add_9 : decode cX4_add 9 = .ok (.aload_n 0, 1) := by decide +kernel
theorem dX4_add_10 : decode cX4_add 10 = .ok (.getfield 9, 3) := by decide +kernel
theorem dX4_add_13 : decode cX4_add 13 = .ok (.aload_n 0, 1) := by decide +kernel
theorem dX4_add_14 : decode cX4_add 14 = .ok (.getfield 15, 3) := by decide +kernel
theorem dX4_add_17 : decode cX4_add 17 = .ok (.iload_n 1, 1) := by decide +kernel
theorem dX4_add_18 : decode cX4_add 18 = .ok (.castore, 1) := by decide +kernel
theorem dX4_add_19 : decode cX4_add 19 = .ok (.aload_n 0, 1) := by decide +kernel
theorem dX4_add_20 : decode cX4_add 20 = .ok (.dup, 1) := by decide +kernel
theorem dX4_add_21 : decode cX4_add 21 = .ok (.getfield 15, 3) := by decide +kernel
theorem dX4_add_24 : decode cX4_add 24 = .ok (.iconst 1, 1) := by decide +kernel
theorem dX4_add_25 : decode cX4_add 25 = .ok (.iadd, 1) := by decide +kernel
theorem dX4_add_26 : decode cX4_add 26 = .ok (.putfield 15, 3) := by decide +kernel
theorem dX4_add_29 : decode cX4_add 29 = .ok (.return_, 1) := by decide +kernel
theorem dX4_tell_0 : decode cX4_tell 0 = .ok (.aload_n 1, 1) := by decide +kernel
theorem dX4_tell_1 : decode cX4_tell 1 = .ok (.bipush 6, 2) := by decide +kernel
theorem dX4_tell_3 : decode cX4_tell 3 = .ok (.bipush 6, 2) := by decide +kernel
theorem dX4_tell_5 : decode cX4_tell 5 = .ok (.invokevirtual 19, 3) := by decide +kernel
theorem dX4_tell_8 : decode cX4_tell 8 = .ok (.aload_n 0, 1) := by decide +kernel
theorem dX4_tell_9 : decode cX4_tell 9 = .ok (.iconst 0, 1) := by decide +kernel
theorem dX4_tell_10 : decode cX4_tell 10 = .ok (.putfield 25, 3) := by decide +kernel
theorem dX4_tell_13 : decode cX4_tell 13 = .ok (.iconst 0, 1) := by decide +kernel
theorem dX4_tell_14 : decode cX4_tell 14 = .ok (.istore_n 2, 1) := by decide +kernel
theorem dX4_tell_15 : decode cX4_tell 15 = .ok (.iload_n 2, 1) := by decide +kernel
theorem dX4_tell_16 : decode cX4_tell 16 = .ok (.bipush 120, 2) := by decide +kernel
theorem dX4_tell_18 : decode cX4_tell 18 = .ok (.if_icmp .gt 40, 3) := by decide +kernel
theorem dX4_tell_21 : decode cX4_tell 21 = .ok (.aload_n 0, 1) := by decide +kernel
theorem dX4_tell_22 : decode cX4_tell 22 = .ok (.invokevirtual 28, 3) := by decide +kernel
theorem dX4_tell_25 : decode cX4_tell 25 = .ok (.aload_n 0, 1) := by decide +kernel
theorem dX4_tell_26 : decode cX4_tell 26 = .ok (.getfield 31, 3) := by decide +kernel
theorem dX4_tell_29 : decode cX4_tell 29 = .ok (.iconst (-1), 1) := by decide +kernel
theorem dX4_tell_30 : decode cX4_tell 30 = .ok (.if_icmp .ne 5, 3) := by decide +kernel
theorem dX4_tell_33 : decode cX4_tell 33 = .ok (.iload_n 2, 1) := by decide +kernel
theorem dX4_tell_34 : decode cX4_tell 34 = .ok (.ireturn, 1) := by decide +kernel
theorem dX4_tell_35 : decode cX4_tell 35 = .ok (.aload_n 0, 1) := by decide +kernel
theorem dX4_tell_36 : decode cX4_tell 36 = .ok (.aload_n 1, 1) := by decide +kernel
theorem dX4_tell_37 : decode cX4_tell 37 = .ok (.iload_n 2, 1) := by decide +kernel
theorem dX4_tell_38 : decode cX4_tell 38 = .ok (.invokevirtual 34, 3) := by decide +kernel
theorem dX4_tell_41 : decode cX4_tell 41 = .ok (.ifCond .ne 11, 3) := by decide +kernel
theorem dX4_tell_44 : decode cX4_tell 44 = .ok (.bipush (-10), 2) := by decide +kernel
theorem dX4_tell_46 : decode cX4_tell 46 = .ok (.aload_n 0, 1) := by decide +kernel
theorem dX4_tell_47 : decode cX4_tell 47 = .ok (.getfield 38, 3) := by decide +kernel
theorem dX4_tell_50 : decode cX4_tell 50 = .ok (.isub, 1) := by decide +kernel
theorem dX4_tell_51 : decode cX4_tell 51 = .ok (.ireturn, 1) := by decide +kernel
theorem dX4_tell_52 : decode cX4_tell 52 = .ok (.iinc 2 1, 3) := by decide +kernel
theorem dX4_tell_55 : decode cX4_tell 55 = .ok (.goto (-40), 3) := by decide +kernel
theorem dX4_tell_58 : decode cX4_tell 58 = .ok (.bipush (-10), 2) := by decide +kernel
theorem dX4_tell_60 : decode cX4_tell 60 = .ok (.aload_n 0, 1) := by decide +kernel
theorem dX4_tell_61 : decode cX4_tell 61 = .ok (.getfield 38, 3) := by decide +kernel
theorem dX4_tell_64 : decode cX4_tell 64 = .ok (.isub, 1) := by decide +kernel
theorem dX4_tell_65 : decode cX4_tell 65 = .ok (.ireturn, 1) := by decide +kernel
theorem dX4_readItem_0 : decode cX4_readItem 0 = .ok (.aload_n 0, 1) := by decide +kernel
theorem dX4_readItem_1 : decode cX4_readItem 1 = .ok (.getfield 31, 3) := by decide +kernel
theorem dX4_readItem_4 : decode cX4_readItem 4 = .ok (.lookupswitch 133 #[(98, 44), (108, 110), (114, 62), (117, 86)], 44) := by decide +kernel
theorem dX4_readItem_48 : decode cX4_readItem 48 = .ok (.iload_n 2, 1) := by decide +kernel
theorem dX4_readItem_49 : decode cX4_readItem 49 = .ok (.ifCond .ne 15, 3) := by decide +kernel
theorem dX4_readItem_52 : decode cX4_readItem 52 = .ok (.aload_n 0, 1) := by decide +kernel
theorem dX4_readItem_53 : decode cX4_readItem 53 = .ok (.aload_n 1, 1) := by decide +kernel
theorem dX4_readItem_54 : decode cX4_readItem 54 = .ok (.invokevirtual 41, 3) := by decide +kernel
theorem dX4_readItem_57 : decode cX4_readItem 57 = .ok (.ifCond .eq 7, 3) := by decide +kernel
theorem dX4_readItem_60 : decode cX4_readItem 60 = .ok (.iconst 1, 1) := by decide +kernel
theorem dX4_readItem_61 : decode cX4_readItem 61 = .ok (.goto 4, 3) := by decide +kernel
theorem dX4_readItem_64 : decode cX4_readItem 64 = .ok (.iconst 0, 1) := by decide +kernel
theorem dX4_readItem_65 : decode cX4_readItem 65 = .ok (.ireturn, 1) := by decide +kernel
theorem dX4_readItem_66 : decode cX4_readItem 66 = .ok (.aload_n 1, 1) := by decide +kernel
theorem dX4_readItem_67 : decode cX4_readItem 67 = .ok (.getfield 45, 3) := by decide +kernel
theorem dX4_readItem_70 : decode cX4_readItem 70 = .ok (.bipush 14, 2) := by decide +kernel
theorem dX4_readItem_72 : decode cX4_readItem 72 = .ok (.if_icmp .ge 16, 3) := by decide +kernel
theorem dX4_readItem_75 : decode cX4_readItem 75 = .ok (.aload_n 0, 1) := by decide +kernel
theorem dX4_readItem_76 : decode cX4_readItem 76 = .ok (.aload_n 1, 1) := by decide +kernel
theorem dX4_readItem_77 : decode cX4_readItem 77 = .ok (.iconst 0, 1) := by decide +kernel
theorem dX4_readItem_78 : decode cX4_readItem 78 = .ok (.invokevirtual 48, 3) := by decide +kernel
theorem dX4_readItem_81 : decode cX4_readItem 81 = .ok (.ifCond .eq 7, 3) := by decide +kernel
theorem dX4_readItem_84 : decode cX4_readItem 84 = .ok (.iconst 1, 1) := by decide +kernel
theorem dX4_readItem_85 : decode cX4_readItem 85 = .ok (.goto 4, 3) := by decide +kernel
theorem dX4_readItem_88 : decode cX4_readItem 88 = .ok (.iconst 0, 1) := by decide +kernel
theorem dX4_readItem_89 : decode cX4_readItem 89 = .ok (.ireturn, 1) := by decide +kernel
theorem dX4_readItem_90 : decode cX4_readItem 90 = .ok (.aload_n 1, 1) := by decide +kernel
theorem dX4_readItem_91 : decode cX4_readItem 91 = .ok (.getfield 45, 3) := by decide +kernel
theorem dX4_readItem_94 : decode cX4_readItem 94 = .ok (.bipush 14, 2) := by decide +kernel
theorem dX4_readItem_96 : decode cX4_readItem 96 = .ok (.if_icmp .ge 16, 3) := by decide +kernel
theorem dX4_readItem_99 : decode cX4_readItem 99 = .ok (.aload_n 0, 1) := by decide +kernel
theorem dX4_readItem_100 : decode cX4_readItem 100 = .ok (.aload_n 1, 1) := by decide +kernel
theorem dX4_readItem_101 : decode cX4_readItem 101 = .ok (.iconst 1, 1) := by decide +kernel
theorem dX4_readItem_102 : decode cX4_readItem 102 = .ok (.invokevirtual 48, 3) := by decide +kernel
theorem dX4_readItem_105 : decode cX4_readItem 105 = .ok (.ifCond .eq 7, 3) := by decide +kernel
theorem dX4_readItem_108 : decode cX4_readItem 108 = .ok (.iconst 1, 1) := by decide +kernel
theorem dX4_readItem_109 : decode cX4_readItem 109 = .ok (.goto 4, 3) := by decide +kernel
theorem dX4_readItem_112 : decode cX4_readItem 112 = .ok (.iconst 0, 1) := by decide +kernel
theorem dX4_readItem_113 : decode cX4_readItem 113 = .ok (.ireturn, 1) := by decide +kernel
theorem dX4_readItem_114 : decode cX4_readItem 114 = .ok (.aload_n 1, 1) := by decide +kernel
theorem dX4_readItem_115 : decode cX4_readItem 115 = .ok (.getfield 51, 3) := by decide +kernel
theorem dX4_readItem_118 : decode cX4_readItem 118 = .ok (.bipush 8, 2) := by decide +kernel
theorem dX4_readItem_120 : decode cX4_readItem 120 = .ok (.if_icmp .ge 15, 3) := by decide +kernel
theorem dX4_readItem_123 : decode cX4_readItem 123 = .ok (.aload_n 0, 1) := by decide +kernel
theorem dX4_readItem_124 : decode cX4_readItem 124 = .ok (.aload_n 1, 1) := by decide +kernel
theorem dX4_readItem_125 : decode cX4_readItem 125 = .ok (.invokevirtual 54, 3) := by decide +kernel
theorem dX4_readItem_128 : decode cX4_readItem 128 = .ok (.ifCond .eq 7, 3) := by decide +kernel
theorem dX4_readItem_131 : decode cX4_readItem 131 = .ok (.iconst 1, 1) := by decide +kernel
theorem dX4_readItem_132 : decode cX4_readItem 132 = .ok (.goto 4, 3) := by decide +kernel
theorem dX4_readItem_135 : decode cX4_readItem 135 = .ok (.iconst 0, 1) := by decide +kernel
theorem dX4_readItem_136 : decode cX4_readItem 136 = .ok (.ireturn, 1) := by decide +kernel
theorem dX4_readItem_137 : decode cX4_readItem 137 = .ok (.iconst 0, 1) := by decide +kernel
theorem dX4_readItem_138 : decode cX4_readItem 138 = .ok (.ireturn, 1) := by decide +kernel
theorem dX4_readSize_0 : decode cX4_readSize 0 = .ok (.aload_n 0, 1) := by decide +kernel
theorem dX4_readSize_1 : decode cX4_readSize 1 = .ok (.iconst 2, 1) := by decide +kernel
theorem dX4_readSize_2 : decode cX4_readSize 2 = .ok (.bipush 9, 2) := by decide +kernel
theorem dX4_readSize_4 : decode cX4_readSize 4 = .ok (.invokevirtual 57, 3) := by decide +kernel
theorem dX4_readSize_7 : decode cX4_readSize 7 = .ok (.ifCond .ne 5, 3) := by decide +kernel
theorem dX4_readSize_10 : decode cX4_readSize 10 = .ok (.iconst 0, 1) := by decide +kernel
theorem dX4_readSize_11 : decode cX4_readSize 11 = .ok (.ireturn, 1) := by decide +kernel
theorem dX4_readSize_12 : decode cX4_readSize 12 = .ok (.aload_n 0, 1) := by decide +kernel
theorem dX4_readSize_13 : decode cX4_readSize 13 = .ok (.getfield 61, 3) := by decide +kernel
theorem dX4_readSize_16 : decode cX4_readSize 16 = .ok (.istore_n 2, 1) := by decide +kernel
theorem dX4_readSize_17 : decode cX4_readSize 17 = .ok (.aload_n 0, 1) := by decide +kernel
theorem dX4_readSize_18 : decode cX4_readSize 18 = .ok (.iconst 2, 1) := by decide +kernel
theorem dX4_readSize_19 : decode cX4_readSize 19 = .ok (.bipush 9, 2) := by decide +kernel
theorem dX4_readSize_21 : decode cX4_readSize 21 = .ok (.invokevirtual 57, 3) := by decide +kernel
theorem dX4_readSize_24 : decode cX4_readSize 24 = .ok (.ifCond .ne 5, 3) := by decide +kernel
theorem dX4_readSize_27 : decode cX4_readSize 27 = .ok (.iconst 0, 1) := by decide +kernel
theorem dX4_readSize_28 : decode cX4_readSize 28 = .ok (.ireturn, 1) := by decide +kernel
theorem dX4_readSize_29 : decode cX4_readSize 29 = .ok (.aload_n 1, 1) := by decide +kernel
theorem dX4_readSize_30 : decode cX4_readSize 30 = .ok (.iload_n 2, 1) := by decide +kernel
theorem dX4_readSize_31 : decode cX4_readSize 31 = .ok (.aload_n 0, 1) := by decide +kernel
theorem dX4_readSize_32 : decode cX4_readSize 32 = .ok (.getfield 61, 3) := by decide +kernel
theorem dX4_readSize_35 : decode cX4_readSize 35 = .ok (.invokevirtual 19, 3) := by decide +kernel
theorem dX4_readSize_38 : decode cX4_readSize 38 = .ok (.aload_n 0, 1) := by decide +kernel
theorem dX4_readSize_39 : decode cX4_readSize 39 = .ok (.invokevirtual 64, 3) := by decide +kernel
theorem dX4_readSize_42 : decode cX4_readSize 42 = .ok (.ireturn, 1) := by decide +kernel
theorem dX4_readWall_0 : decode cX4_readWall 0 = .ok (.aload_n 0, 1) := by decide +kernel
theorem dX4_readWall_1 : decode cX4_readWall 1 = .ok (.iconst 0, 1) := by decide +kernel
theorem dX4_readWall_2 : decode cX4_readWall 2 = .ok (.iload_n 2, 1) := by decide +kernel
theorem dX4_readWall_3 : decode cX4_readWall 3 = .ok (.iconst 1, 1) := by decide +kernel
theorem dX4_readWall_4 : decode cX4_readWall 4 = .ok (.if_icmp .ne 10, 3) := by decide +kernel
theorem dX4_readWall_7 : decode cX4_readWall 7 = .ok (.aload_n 1, 1) := by decide +kernel
theorem dX4_readWall_8 : decode cX4_readWall 8 = .ok (.getfield 68, 3) := by decide +kernel
theorem dX4_readWall_11 : decode cX4_readWall 11 = .ok (.goto 9, 3) := by decide +kernel
theorem dX4_readWall_14 : decode cX4_readWall 14 = .ok (.aload_n 1, 1) := by decide +kernel
theorem dX4_readWall_15 : decode cX4_readWall 15 = .ok (.getfield 68, 3) := by decide +kernel
theorem dX4_readWall_18 : decode cX4_readWall 18 = .ok (.iconst 1, 1) := by decide +kernel
theorem dX4_readWall_19 : decode cX4_readWall 19 = .ok (.isub, 1) := by decide +kernel
theorem dX4_readWall_20 : decode cX4_readWall 20 = .ok (.invokevirtual 57, 3) := by decide +kernel
theorem dX4_readWall_23 : decode cX4_readWall 23 = .ok (.ifCond .ne 5, 3) := by decide +kernel
theorem dX4_readWall_26 : decode cX4_readWall 26 = .ok (.iconst 0, 1) := by decide +kernel
theorem dX4_readWall_27 : decode cX4_readWall 27 = .ok (.ireturn, 1) := by decide +kernel
theorem dX4_readWall_28 : decode cX4_readWall 28 = .ok (.aload_n 0, 1) := by decide +kernel
theorem dX4_readWall_29 : decode cX4_readWall 29 = .ok (.getfield 61, 3) := by decide +kernel
theorem dX4_readWall_32 : decode cX4_readWall 32 = .ok (.istore_n 3, 1) := by decide +kernel
theorem dX4_readWall_33 : decode cX4_readWall 33 = .ok (.aload_n 0, 1) := by decide +kernel
theorem dX4_readWall_34 : decode cX4_readWall 34 = .ok (.iconst 0, 1) := by decide +kernel
theorem dX4_readWall_35 : decode cX4_readWall 35 = .ok (.iload_n 2, 1) := by decide +kernel
theorem dX4_readWall_36 : decode cX4_readWall 36 = .ok (.iconst 1, 1) := by decide +kernel
theorem dX4_readWall_37 : decode cX4_readWall 37 = .ok (.if_icmp .ne 12, 3) := by decide +kernel
theorem dX4_readWall_40 : decode cX4_readWall 40 = .ok (.aload_n 1, 1) := by decide +kernel
theorem dX4_readWall_41 : decode cX4_readWall 41 = .ok (.getfield 71, 3) := by decide +kernel
theorem dX4_readWall_44 : decode cX4_readWall 44 = .ok (.iconst 1, 1) := by decide +kernel
theorem dX4_readWall_45 : decode cX4_readWall 45 = .ok (.isub, 1) := by decide +kernel
theorem dX4_readWall_46 : decode cX4_readWall 46 = .ok (.goto 7, 3) := by decide +kernel
theorem dX4_readWall_49 : decode cX4_readWall 49 = .ok (.aload_n 1, 1) := by decide +kernel
theorem dX4_readWall_50 : decode cX4_readWall 50 = .ok (.getfield 71, 3) := by decide +kernel
theorem dX4_readWall_53 : decode cX4_readWall 53 = .ok (.invokevirtual 57, 3) := by decide +kernel
theorem dX4_readWall_56 : decode cX4_readWall 56 = .ok (.ifCond .ne 5, 3) := by decide +kernel
theorem dX4_readWall_59 : decode cX4_readWall 59 = .ok (.iconst 0, 1) := by decide +kernel
end
section
theorem dX4_readWall_60 : decode cX4_readWall 60 = .ok (.ireturn, 1) := by decide +kernel
theorem dX4_readWall_61 : decode cX4_readWall 61 = .ok (.aload_n 0, 1) := by decide +kernel
theorem dX4_readWall_62 : decode cX4_readWall 62 = .ok (.getfield 61, 3) := by decide +kernel
theorem dX4_readWall_65 : decode cX4_readWall 65 = .ok (.istore 4, 2) := by decide +kernel
theorem dX4_readWall_67 : decode cX4_readWall 67 = .ok (.aload_n 0, 1) := by decide +kernel
theorem dX4_readWall_68 : decode cX4_readWall 68 = .ok (.iconst 1, 1) := by decide +kernel
theorem dX4_readWall_69 : decode cX4_readWall 69 = .ok (.iload_n 2, 1) := by decide +kernel
theorem dX4_readWall_70 : decode cX4_readWall 70 = .ok (.iconst 1, 1) := by decide +kernel
theorem dX4_readWall_71 : decode cX4_readWall 71 = .ok (.if_icmp .ne 13, 3) := by decide +kernel
theorem dX4_readWall_74 : decode cX4_readWall 74 = .ok (.aload_n 1, 1) := by decide +kernel
theorem dX4_readWall_75 : decode cX4_readWall 75 = .ok (.getfield 71, 3) := by decide +kernel
theorem dX4_readWall_78 : decode cX4_readWall 78 = .ok (.iload 4, 2) := by decide +kernel
theorem dX4_readWall_80 : decode cX4_readWall 80 = .ok (.isub, 1) := by decide +kernel
theorem dX4_readWall_81 : decode cX4_readWall 81 = .ok (.goto 9, 3) := by decide +kernel
theorem dX4_readWall_84 : decode cX4_readWall 84 = .ok (.aload_n 1, 1) := by decide +kernel
theorem dX4_readWall_85 : decode cX4_readWall 85 = .ok (.getfield 68, 3) := by decide +kernel
theorem dX4_readWall_88 : decode cX4_readWall 88 = .ok (.iload_n 3, 1) := by decide +kernel
theorem dX4_readWall_89 : decode cX4_readWall 89 = .ok (.isub, 1) := by decide +kernel
theorem dX4_readWall_90 : decode cX4_readWall 90 = .ok (.invokevirtual 57, 3) := by decide +kernel
theorem dX4_readWall_93 : decode cX4_readWall 93 = .ok (.ifCond .ne 5, 3) := by decide +kernel
theorem dX4_readWall_96 : decode cX4_readWall 96 = .ok (.iconst 0, 1) := by decide +kernel
theorem dX4_readWall_97 : decode cX4_readWall 97 = .ok (.ireturn, 1) := by decide +kernel
theorem dX4_readWall_98 : decode cX4_readWall 98 = .ok (.aload_n 1, 1) := by decide +kernel
theorem dX4_readWall_99 : decode cX4_readWall 99 = .ok (.iload_n 3, 1) := by decide +kernel
theorem dX4_readWall_100 : decode cX4_readWall 100 = .ok (.iload 4, 2) := by decide +kernel
theorem dX4_readWall_102 : decode cX4_readWall 102 = .ok (.aload_n 0, 1) := by decide +kernel
theorem dX4_readWall_103 : decode cX4_readWall 103 = .ok (.getfield 61, 3) := by decide +kernel
theorem dX4_readWall_106 : decode cX4_readWall 106 = .ok (.iload_n 2, 1) := by decide +kernel
theorem dX4_readWall_107 : decode cX4_readWall 107 = .ok (.invokevirtual 74, 3) := by decide +kernel
theorem dX4_readWall_110 : decode cX4_readWall 110 = .ok (.aload_n 0, 1) := by decide +kernel
theorem dX4_readWall_111 : decode cX4_readWall 111 = .ok (.invokevirtual 64, 3) := by decide +kernel
theorem dX4_readWall_114 : decode cX4_readWall 114 = .ok (.ireturn, 1) := by decide +kernel
theorem dX4_readLamp_0 : decode cX4_readLamp 0 = .ok (.aload_n 0, 1) := by decide +kernel
theorem dX4_readLamp_1 : decode cX4_readLamp 1 = .ok (.iconst 0, 1) := by decide +kernel
theorem dX4_readLamp_2 : decode cX4_readLamp 2 = .ok (.aload_n 1, 1) := by decide +kernel
theorem dX4_readLamp_3 : decode cX4_readLamp 3 = .ok (.getfield 68, 3) := by decide +kernel
theorem dX4_readLamp_6 : decode cX4_readLamp 6 = .ok (.iconst 1, 1) := by decide +kernel
theorem dX4_readLamp_7 : decode cX4_readLamp 7 = .ok (.isub, 1) := by decide +kernel
theorem dX4_readLamp_8 : decode cX4_readLamp 8 = .ok (.invokevirtual 57, 3) := by decide +kernel
theorem dX4_readLamp_11 : decode cX4_readLamp 11 = .ok (.ifCond .ne 5, 3) := by decide +kernel
theorem dX4_readLamp_14 : decode cX4_readLamp 14 = .ok (.iconst 0, 1) := by decide +kernel
theorem dX4_readLamp_15 : decode cX4_readLamp 15 = .ok (.ireturn, 1) := by decide +kernel
theorem dX4_readLamp_16 : decode cX4_readLamp 16 = .ok (.aload_n 0, 1) := by decide +kernel
theorem dX4_readLamp_17 : decode cX4_readLamp 17 = .ok (.getfield 61, 3) := by decide +kernel
theorem dX4_readLamp_20 : decode cX4_readLamp 20 = .ok (.istore_n 2, 1) := by decide +kernel
theorem dX4_readLamp_21 : decode cX4_readLamp 21 = .ok (.aload_n 0, 1) := by decide +kernel
theorem dX4_readLamp_22 : decode cX4_readLamp 22 = .ok (.iconst 0, 1) := by decide +kernel
theorem dX4_readLamp_23 : decode cX4_readLamp 23 = .ok (.aload_n 1, 1) := by decide +kernel
theorem dX4_readLamp_24 : decode cX4_readLamp 24 = .ok (.getfield 71, 3) := by decide +kernel
theorem dX4_readLamp_27 : decode cX4_readLamp 27 = .ok (.iconst 1, 1) := by decide +kernel
theorem dX4_readLamp_28 : decode cX4_readLamp 28 = .ok (.isub, 1) := by decide +kernel
theorem dX4_readLamp_29 : decode cX4_readLamp 29 = .ok (.invokevirtual 57, 3) := by decide +kernel
theorem dX4_readLamp_32 : decode cX4_readLamp 32 = .ok (.ifCond .eq 15, 3) := by decide +kernel
theorem dX4_readLamp_35 : decode cX4_readLamp 35 = .ok (.aload_n 1, 1) := by decide +kernel
theorem dX4_readLamp_36 : decode cX4_readLamp 36 = .ok (.iload_n 2, 1) := by decide +kernel
theorem dX4_readLamp_37 : decode cX4_readLamp 37 = .ok (.aload_n 0, 1) := by decide +kernel
theorem dX4_readLamp_38 : decode cX4_readLamp 38 = .ok (.getfield 61, 3) := by decide +kernel
theorem dX4_readLamp_41 : decode cX4_readLamp 41 = .ok (.invokevirtual 78, 3) := by decide +kernel
theorem dX4_readLamp_44 : decode cX4_readLamp 44 = .ok (.ifCond .eq 5, 3) := by decide +kernel
theorem dX4_readLamp_47 : decode cX4_readLamp 47 = .ok (.iconst 0, 1) := by decide +kernel
theorem dX4_readLamp_48 : decode cX4_readLamp 48 = .ok (.ireturn, 1) := by decide +kernel
theorem dX4_readLamp_49 : decode cX4_readLamp 49 = .ok (.aload_n 1, 1) := by decide +kernel
theorem dX4_readLamp_50 : decode cX4_readLamp 50 = .ok (.iload_n 2, 1) := by decide +kernel
theorem dX4_readLamp_51 : decode cX4_readLamp 51 = .ok (.aload_n 0, 1) := by decide +kernel
theorem dX4_readLamp_52 : decode cX4_readLamp 52 = .ok (.getfield 61, 3) := by decide +kernel
theorem dX4_readLamp_55 : decode cX4_readLamp 55 = .ok (.invokevirtual 81, 3) := by decide +kernel
theorem dX4_readLamp_58 : decode cX4_readLamp 58 = .ok (.aload_n 0, 1) := by decide +kernel
theorem dX4_readLamp_59 : decode cX4_readLamp 59 = .ok (.invokevirtual 64, 3) := by decide +kernel
theorem dX4_readLamp_62 : decode cX4_readLamp 62 = .ok (.ireturn, 1) := by decide +kernel
theorem dX4_readNumber_0 : decode cX4_readNumber 0 = .ok (.aload_n 0, 1) := by decide +kernel
theorem dX4_readNumber_1 : decode cX4_readNumber 1 = .ok (.invokevirtual 28, 3) := by decide +kernel
theorem dX4_readNumber_4 : decode cX4_readNumber 4 = .ok (.aload_n 0, 1) := by decide +kernel
theorem dX4_readNumber_5 : decode cX4_readNumber 5 = .ok (.getfield 31, 3) := by decide +kernel
theorem dX4_readNumber_8 : decode cX4_readNumber 8 = .ok (.bipush (-2), 2) := by decide +kernel
theorem dX4_readNumber_10 : decode cX4_readNumber 10 = .ok (.if_icmp .ne 23, 3) := by decide +kernel
theorem dX4_readNumber_13 : decode cX4_readNumber 13 = .ok (.aload_n 0, 1) := by decide +kernel
theorem dX4_readNumber_14 : decode cX4_readNumber 14 = .ok (.getfield 61, 3) := by decide +kernel
theorem dX4_readNumber_17 : decode cX4_readNumber 17 = .ok (.iload_n 1, 1) := by decide +kernel
theorem dX4_readNumber_18 : decode cX4_readNumber 18 = .ok (.if_icmp .lt 15, 3) := by decide +kernel
theorem dX4_readNumber_21 : decode cX4_readNumber 21 = .ok (.aload_n 0, 1) := by decide +kernel
theorem dX4_readNumber_22 : decode cX4_readNumber 22 = .ok (.getfield 61, 3) := by decide +kernel
theorem dX4_readNumber_25 : decode cX4_readNumber 25 = .ok (.iload_n 2, 1) := by decide +kernel
theorem dX4_readNumber_26 : decode cX4_readNumber 26 = .ok (.if_icmp .gt 7, 3) := by decide +kernel
theorem dX4_readNumber_29 : decode cX4_readNumber 29 = .ok (.iconst 1, 1) := by decide +kernel
theorem dX4_readNumber_30 : decode cX4_readNumber 30 = .ok (.goto 4, 3) := by decide +kernel
theorem dX4_readNumber_33 : decode cX4_readNumber 33 = .ok (.iconst 0, 1) := by decide +kernel
theorem dX4_readNumber_34 : decode cX4_readNumber 34 = .ok (.ireturn, 1) := by decide +kernel
theorem dX4_readItemEnd_0 : decode cX4_readItemEnd 0 = .ok (.aload_n 0, 1) := by decide +kernel
theorem dX4_readItemEnd_1 : decode cX4_readItemEnd 1 = .ok (.invokevirtual 28, 3) := by decide +kernel
theorem dX4_readItemEnd_4 : decode cX4_readItemEnd 4 = .ok (.aload_n 0, 1) := by decide +kernel
theorem dX4_readItemEnd_5 : decode cX4_readItemEnd 5 = .ok (.getfield 31, 3) := by decide +kernel
theorem dX4_readItemEnd_8 : decode cX4_readItemEnd 8 = .ok (.bipush 59, 2) := by decide +kernel
theorem dX4_readItemEnd_10 : decode cX4_readItemEnd 10 = .ok (.if_icmp .ne 7, 3) := by decide +kernel
theorem dX4_readItemEnd_13 : decode cX4_readItemEnd 13 = .ok (.iconst 1, 1) := by decide +kernel
theorem dX4_readItemEnd_14 : decode cX4_readItemEnd 14 = .ok (.goto 4, 3) := by decide +kernel
theorem dX4_readItemEnd_17 : decode cX4_readItemEnd 17 = .ok (.iconst 0, 1) := by decide +kernel
theorem dX4_readItemEnd_18 : decode cX4_readItemEnd 18 = .ok (.ireturn, 1) := by decide +kernel
theorem dX4_readToken_0 : decode cX4_readToken 0 = .ok (.aload_n 0, 1) := by decide +kernel
theorem dX4_readToken_1 : decode cX4_readToken 1 = .ok (.getfield 25, 3) := by decide +kernel
theorem dX4_readToken_4 : decode cX4_readToken 4 = .ok (.aload_n 0, 1) := by decide +kernel
theorem dX4_readToken_5 : decode cX4_readToken 5 = .ok (.getfield 15, 3) := by decide +kernel
theorem dX4_readToken_8 : decode cX4_readToken 8 = .ok (.if_icmp .ge 30, 3) := by decide +kernel
theorem dX4_readToken_11 : decode cX4_readToken 11 = .ok (.aload_n 0, 1) := by decide +kernel
theorem dX4_readToken_12 : decode cX4_readToken 12 = .ok (.getfield 9, 3) := by decide +kernel
theorem dX4_readToken_15 : decode cX4_readToken 15 = .ok (.aload_n 0, 1) := by decide +kernel
theorem dX4_readToken_16 : decode cX4_readToken 16 = .ok (.getfield 25, 3) := by decide +kernel
theorem dX4_readToken_19 : decode cX4_readToken 19 = .ok (.caload, 1) := by decide +kernel
theorem dX4_readToken_20 : decode cX4_readToken 20 = .ok (.bipush 32, 2) := by decide +kernel
theorem dX4_readToken_22 : decode cX4_readToken 22 = .ok (.if_icmp .ne 16, 3) := by decide +kernel
theorem dX4_readToken_25 : decode cX4_readToken 25 = .ok (.aload_n 0, 1) := by decide +kernel
theorem dX4_readToken_26 : decode cX4_readToken 26 = .ok (.dup, 1) := by decide +kernel
theorem dX4_readToken_27 : decode cX4_readToken 27 = .ok (.getfield 25, 3) := by decide +kernel
theorem dX4_readToken_30 : decode cX4_readToken 30 = .ok (.iconst 1, 1) := by decide +kernel
theorem dX4_readToken_31 : decode cX4_readToken 31 = .ok (.iadd, 1) := by decide +kernel
theorem dX4_readToken_32 : decode cX4_readToken 32 = .ok (.putfield 25, 3) := by decide +kernel
theorem dX4_readToken_35 : decode cX4_readToken 35 = .ok (.goto (-35), 3) := by decide +kernel
theorem dX4_readToken_38 : decode cX4_readToken 38 = .ok (.aload_n 0, 1) := by decide +kernel
theorem dX4_readToken_39 : decode cX4_readToken 39 = .ok (.aload_n 0, 1) := by decide +kernel
theorem dX4_readToken_40 : decode cX4_readToken 40 = .ok (.getfield 25, 3) := by decide +kernel
theorem dX4_readToken_43 : decode cX4_readToken 43 = .ok (.putfield 38, 3) := by decide +kernel
theorem dX4_readToken_46 : decode cX4_readToken 46 = .ok (.aload_n 0, 1) := by decide +kernel
theorem dX4_readToken_47 : decode cX4_readToken 47 = .ok (.iconst (-1), 1) := by decide +kernel
theorem dX4_readToken_48 : decode cX4_readToken 48 = .ok (.putfield 31, 3) := by decide +kernel
theorem dX4_readToken_51 : decode cX4_readToken 51 = .ok (.aload_n 0, 1) := by decide +kernel
theorem dX4_readToken_52 : decode cX4_readToken 52 = .ok (.getfield 25, 3) := by decide +kernel
theorem dX4_readToken_55 : decode cX4_readToken 55 = .ok (.aload_n 0, 1) := by decide +kernel
theorem dX4_readToken_56 : decode cX4_readToken 56 = .ok (.getfield 15, 3) := by decide +kernel
theorem dX4_readToken_59 : decode cX4_readToken 59 = .ok (.if_icmp .lt 4, 3) := by decide +kernel
theorem dX4_readToken_62 : decode cX4_readToken 62 = .ok (.return_, 1) := by decide +kernel
theorem dX4_readToken_63 : decode cX4_readToken 63 = .ok (.aload_n 0, 1) := by decide +kernel
theorem dX4_readToken_64 : decode cX4_readToken 64 = .ok (.aload_n 0, 1) := by decide +kernel
theorem dX4_readToken_65 : decode cX4_readToken 65 = .ok (.getfield 9, 3) := by decide +kernel
theorem dX4_readToken_68 : decode cX4_readToken 68 = .ok (.aload_n 0, 1) := by decide +kernel
theorem dX4_readToken_69 : decode cX4_readToken 69 = .ok (.getfield 25, 3) := by decide +kernel
theorem dX4_readToken_72 : decode cX4_readToken 72 = .ok (.caload, 1) := by decide +kernel
theorem dX4_readToken_73 : decode cX4_readToken 73 = .ok (.putfield 31, 3) := by decide +kernel
theorem dX4_readToken_76 : decode cX4_readToken 76 = .ok (.aload_n 0, 1) := by decide +kernel
theorem dX4_readToken_77 : decode cX4_readToken 77 = .ok (.getfield 9, 3) := by decide +kernel
theorem dX4_readToken_80 : decode cX4_readToken 80 = .ok (.aload_n 0, 1) := by decide +kernel
theorem dX4_readToken_81 : decode cX4_readToken 81 = .ok (.getfield 25, 3) := by decide +kernel
theorem dX4_readToken_84 : decode cX4_readToken 84 = .ok (.caload, 1) := by decide +kernel
theorem dX4_readToken_85 : decode cX4_readToken 85 = .ok (.invokestatic 84, 3) := by decide +kernel
theorem dX4_readToken_88 : decode cX4_readToken 88 = .ok (.ifCond .eq 25, 3) := by decide +kernel
theorem dX4_readToken_91 : decode cX4_readToken 91 = .ok (.aload_n 0, 1) := by decide +kernel
theorem dX4_readToken_92 : decode cX4_readToken 92 = .ok (.aload_n 0, 1) := by decide +kernel
theorem dX4_readToken_93 : decode cX4_readToken 93 = .ok (.getfield 9, 3) := by decide +kernel
theorem dX4_readToken_96 : decode cX4_readToken 96 = .ok (.aload_n 0, 1) := by decide +kernel
theorem dX4_readToken_97 : decode cX4_readToken 97 = .ok (.getfield 25, 3) := by decide +kernel
theorem dX4_readToken_100 : decode cX4_readToken 100 = .ok (.caload, 1) := by decide +kernel
theorem dX4_readToken_101 : decode cX4_readToken 101 = .ok (.bipush 48, 2) := by decide +kernel
theorem dX4_readToken_103 : decode cX4_readToken 103 = .ok (.isub, 1) := by decide +kernel
theorem dX4_readToken_104 : decode cX4_readToken 104 = .ok (.putfield 61, 3) := by decide +kernel
theorem dX4_readToken_107 : decode cX4_readToken 107 = .ok (.aload_n 0, 1) := by decide +kernel
theorem dX4_readToken_108 : decode cX4_readToken 108 = .ok (.bipush (-2), 2) := by decide +kernel
theorem dX4_readToken_110 : decode cX4_readToken 110 = .ok (.putfield 31, 3) := by decide +kernel
theorem dX4_readToken_113 : decode cX4_readToken 113 = .ok (.aload_n 0, 1) := by decide +kernel
theorem dX4_readToken_114 : decode cX4_readToken 114 = .ok (.dup, 1) := by decide +kernel
theorem dX4_readToken_115 : decode cX4_readToken 115 = .ok (.getfield 25, 3) := by decide +kernel
theorem dX4_readToken_118 : decode cX4_readToken 118 = .ok (.iconst 1, 1) := by decide +kernel
theorem dX4_readToken_119 : decode cX4_readToken 119 = .ok (.iadd, 1) := by decide +kernel
theorem dX4_readToken_120 : decode cX4_readToken 120 = .ok (.putfield 25, 3) := by decide +kernel
theorem dX4_readToken_123 : decode cX4_readToken 123 = .ok (.aload_n 0, 1) := by decide +kernel
theorem dX4_readToken_124 : decode cX4_readToken 124 = .ok (.getfield 31, 3) := by decide +kernel
theorem dX4_readToken_127 : decode cX4_readToken 127 = .ok (.bipush (-2), 2) := by decide +kernel
theorem dX4_readToken_129 : decode cX4_readToken 129 = .ok (.if_icmp .ne 47, 3) := by decide +kernel
theorem dX4_readToken_132 : decode cX4_readToken 132 = .ok (.aload_n 0, 1) := by decide +kernel
theorem dX4_readToken_133 : decode cX4_readToken 133 = .ok (.getfield 25, 3) := by decide +kernel
theorem dX4_readToken_136 : decode cX4_readToken 136 = .ok (.aload_n 0, 1) := by decide +kernel
theorem dX4_readToken_137 : decode cX4_readToken 137 = .ok (.getfield 15, 3) := by decide +kernel
theorem dX4_readToken_140 : decode cX4_readToken 140 = .ok (.if_icmp .ge 36, 3) := by decide +kernel
theorem dX4_readToken_143 : decode cX4_readToken 143 = .ok (.aload_n 0, 1) := by decide +kernel
theorem dX4_readToken_144 : decode cX4_readToken 144 = .ok (.getfield 9, 3) := by decide +kernel
theorem dX4_readToken_147 : decode cX4_readToken 147 = .ok (.aload_n 0, 1) := by decide +kernel
theorem dX4_readToken_148 : decode cX4_readToken 148 = .ok (.getfield 25, 3) := by decide +kernel
theorem dX4_readToken_151 : decode cX4_readToken 151 = .ok (.caload, 1) := by decide +kernel
theorem dX4_readToken_152 : decode cX4_readToken 152 = .ok (.invokestatic 84, 3) := by decide +kernel
theorem dX4_readToken_155 : decode cX4_readToken 155 = .ok (.ifCond .eq 21, 3) := by decide +kernel
theorem dX4_readToken_158 : decode cX4_readToken 158 = .ok (.aload_n 0, 1) := by decide +kernel
theorem dX4_readToken_159 : decode cX4_readToken 159 = .ok (.iconst (-1), 1) := by decide +kernel
theorem dX4_readToken_160 : decode cX4_readToken 160 = .ok (.putfield 61, 3) := by decide +kernel
theorem dX4_readToken_163 : decode cX4_readToken 163 = .ok (.aload_n 0, 1) := by decide +kernel
theorem dX4_readToken_164 : decode cX4_readToken 164 = .ok (.dup, 1) := by decide +kernel
theorem dX4_readToken_165 : decode cX4_readToken 165 = .ok (.getfield 25, 3) := by decide +kernel
theorem dX4_readToken_168 : decode cX4_readToken 168 = .ok (.iconst 1, 1) := by decide +kernel
theorem dX4_readToken_169 : decode cX4_readToken 169 = .ok (.iadd, 1) := by decide +kernel
theorem dX4_readToken_170 : decode cX4_readToken 170 = .ok (.putfield 25, 3) := by decide +kernel
theorem dX4_readToken_173 : decode cX4_readToken 173 = .ok (.goto (-50), 3) := by decide +kernel
theorem dX4_readToken_176 : decode cX4_readToken 176 = .ok (.return_, 1) := by decide +kernel
theorem dX4_isFigure_0 : decode cX4_isFigure 0 = .ok (.iload_n 0, 1) := by decide +kernel
theorem dX4_isFigure_1 : decode cX4_isFigure 1 = .ok (.bipush 48, 2) := by decide +kernel
theorem dX4_isFigure_3 : decode cX4_isFigure 3 = .ok (.if_icmp .lt 13, 3) := by decide +kernel
theorem dX4_isFigure_6 : decode cX4_isFigure 6 = .ok (.iload_n 0, 1) := by decide +kernel
theorem dX4_isFigure_7 : decode cX4_isFigure 7 = .ok (.bipush 57, 2) := by decide +kernel
theorem dX4_isFigure_9 : decode cX4_isFigure 9 = .ok (.if_icmp .gt 7, 3) := by decide +kernel
theorem dX4_isFigure_12 : decode cX4_isFigure 12 = .ok (.iconst 1, 1) := by decide +kernel
theorem dX4_isFigure_13 : decode cX4_isFigure 13 = .ok (.goto 4, 3) := by decide +kernel
theorem dX4_isFigure_16 : decode cX4_isFigure 16 = .ok (.iconst 0, 1) := by decide +kernel
theorem dX4_isFigure_17 : decode cX4_isFigure 17 = .ok (.ireturn, 1) := by decide +kernel
theorem dX5_init_0 : decode cX5_init 0 = .ok (.aload_n 0, 1) := by decide +kernel
theorem dX5_init_1 : decode cX5_init 1 = .ok (.invokespecial 3, 3) := by decide +kernel
theorem dX5_init_4 : decode cX5_init 4 = .ok (.aload_n 0, 1) := by decide +kernel
theorem dX5_init_5 : decode cX5_init 5 = .ok (.new 9, 3) := by decide +kernel
theorem dX5_init_8 : decode cX5_init 8 = .ok (.dup, 1) := by decide +kernel
theorem dX5_init_9 : decode cX5_init 9 = .ok (.invokespecial 11, 3) := by decide +kernel
theorem dX5_init_12 : decode cX5_init 12 = .ok (.putfield 12, 3) := by decide +kernel
theorem dX5_init_15 : decode cX5_init 15 = .ok (.aload_n 0, 1) := by decide +kernel
theorem dX5_init_16 : decode cX5_init 16 = .ok (.new 9, 3) := by decide +kernel
theorem dX5_init_19 : decode cX5_init 19 = .ok (.dup, 1) := by decide +kernel
theorem dX5_init_20 : decode cX5_init 20 = .ok (.invokespecial 11, 3) := by decide +kernel
theorem dX5_init_23 : decode cX5_init 23 = .ok (.putfield 16, 3) := by decide +kernel
theorem dX5_init_26 : decode cX5_init 26 = .ok (.aload_n 0, 1) := by decide +kernel
theorem dX5_init_27 : decode cX5_init 27 = .ok (.new 19, 3) := by decide +kernel
theorem dX5_init_30 : decode cX5_init 30 = .ok (.dup, 1) := by decide +kernel
theorem dX5_init_31 : decode cX5_init 31 = .ok (.invokespecial 21, 3) := by decide +kernel
theorem dX5_init_34 : decode cX5_init 34 = .ok (.putfield 22, 3) := by decide +kernel
theorem dX5_init_37 : decode cX5_init 37 = .ok (.aload_n 0, 1) := by decide +kernel
theorem dX5_init_38 : decode cX5_init 38 = .ok (.new 26, 3) := by decide +kernel
theorem dX5_init_41 : decode cX5_init 41 = .ok (.dup, 1) := by decide +kernel
theorem dX5_init_42 : decode cX5_init 42 = .ok (.invokespecial 28, 3) := by decide +kernel
theorem dX5_init_45 : decode cX5_init 45 = .ok (.putfield 29, 3) := by decide +kernel
theorem dX5_init_48 : decode cX5_init 48 = .ok (.aload_n 0, 1) := by decide +kernel
theorem dX5_init_49 : decode cX5_init 49 = .ok (.new 33, 3) := by decide +kernel
theorem dX5_init_52 : decode cX5_init 52 = .ok (.dup, 1) := by decide +kernel
theorem dX5_init_53 : decode cX5_init 53 = .ok (.invokespecial 35, 3) := by decide +kernel
theorem dX5_init_56 : decode cX5_init 56 = .ok (.putfield 36, 3) := by decide +kernel
theorem dX5_init_59 : decode cX5_init 59 = .ok (.aload_n 0, 1) := by decide +kernel
theorem dX5_init_60 : decode cX5_init 60 = .ok (.new 40, 3) := by decide +kernel
theorem dX5_init_63 : decode cX5_init 63 = .ok (.dup, 1) := by decide +kernel
theorem dX5_init_64 : decode cX5_init 64 = .ok (.invokespecial 42, 3) := by decide +kernel
theorem dX5_init_67 : decode cX5_init 67 = .ok (.putfield 43, 3) := by decide +kernel
theorem dX5_init_70 : decode cX5_init 70 = .ok (.aload_n 0, 1) := by decide +kernel
theorem dX5_init_71 : decode cX5_init 71 = .ok (.iconst 2, 1) := by decide +kernel
theorem dX5_init_72 : decode cX5_init 72 = .ok (.anewarray 9, 3) := by decide +kernel
theorem dX5_init_75 : decode cX5_init 75 = .ok (.putfield 47, 3) := by decide +kernel
theorem dX5_init_78 : decode cX5_init 78 = .ok (.aload_n 0, 1) := by decide +kernel
theorem dX5_init_79 : decode cX5_init 79 = .ok (.iconst 2, 1) := by decide +kernel
theorem dX5_init_80 : decode cX5_init 80 = .ok (.newarray .boolean, 2) := by decide +kernel
theorem dX5_init_82 : decode cX5_init 82 = .ok (.putfield 51, 3) := by decide +kernel
theorem dX5_init_85 : decode cX5_init 85 = .ok (.aload_n 0, 1) := by decide +kernel
theorem dX5_init_86 : decode cX5_init 86 = .ok (.bipush 18, 2) := by decide +kernel
theorem dX5_init_88 : decode cX5_init 88 = .ok (.newarray .int, 2) := by decide +kernel
theorem dX5_init_90 : decode cX5_init 90 = .ok (.putfield 55, 3) := by decide +kernel
theorem dX5_init_93 : decode cX5_init 93 = .ok (.iconst 0, 1) := by decide +kernel
theorem dX5_init_94 : decode cX5_init 94 = .ok (.istore_n 1, 1) := by decide +kernel
theorem dX5_init_95 : decode cX5_init 95 = .ok (.iload_n 1, 1) := by decide +kernel
theorem dX5_init_96 : decode cX5_init 96 = .ok (.iconst 2, 1) := by decide +kernel
theorem dX5_init_97 : decode cX5_init 97 = .ok (.if_icmp .ge 22, 3) := by decide +kernel
theorem dX5_init_100 : decode cX5_init 100 = .ok (.aload_n 0, 1) := by decide +kernel
theorem dX5_init_101 : decode cX5_init 101 = .ok (.getfield 47, 3) := by decide +kernel
theorem dX5_init_104 : decode cX5_init 104 = .ok (.iload_n 1, 1) := by decide +kernel
theorem dX5_init_105 : decode cX5_init 105 = .ok (.new 9, 3) := by decide +kernel
theorem dX5_init_108 : decode cX5_init 108 = .ok (.dup, 1) := by decide +kernel
theorem dX5_init_109 : decode cX5_init 109 = .ok (.invokespecial 11, 3) := by decide +kernel
theorem dX5_init_112 : decode cX5_init 112 = .ok (.aastore, 1) := by decide +kernel
theorem dX5_init_113 : decode cX5_init 113 = .ok (.iinc 1 1, 3) := by decide +kernel
theorem dX5_init_116 : decode cX5_init 116 = .ok (.goto (-21), 3) := by decide +kernel
theorem dX5_init_119 : decode cX5_init 119 = .ok (.aload_n 0, 1) := by decide +kernel
theorem dX5_init_120 : decode cX5_init 120 = .ok (.getfield 12, 3) := by decide +kernel
theorem dX5_init_123 : decode cX5_init 123 = .ok (.bipush 6, 2) := by decide +kernel
theorem dX5_init_125 : decode cX5_init 125 = .ok (.bipush 6, 2) := by decide +kernel
theorem dX5_init_127 : decode cX5_init 127 = .ok (.invokevirtual 59, 3) := by decide +kernel
theorem dX5_init_130 : decode cX5_init 130 = .ok (.return_, 1) := by decide +kernel
theorem dX5_type_0 : decode cX5_type 0 = .ok (.iload_n 1, 1) := by decide +kernel
theorem dX5_type_1 : decode cX5_type 1 = .ok (.ifCond .lt 10, 3) := by decide +kernel
theorem dX5_type_4 : decode cX5_type 4 = .ok (.iload_n 1, 1) := by decide +kernel
theorem dX5_type_5 : decode cX5_type 5 = .ok (.sipush 255, 3) := by decide +kernel
theorem dX5_type_8 : decode cX5_type 8 = .ok (.if_icmp .le 5, 3) := by decide +kernel
theorem dX5_type_11 : decode cX5_type 11 = .ok (.iconst (-1), 1) := by decide +kernel
theorem dX5_type_12 : decode cX5_type 12 = .ok (.ireturn, 1) := by decide +kernel
theorem dX5_type_13 : decode cX5_type 13 = .ok (.aload_n 0, 1) := by decide +kernel
theorem dX5_type_14 : decode cX5_type 14 = .ok (.getfield 22, 3) := by decide +kernel
theorem dX5_type_17 : decode cX5_type 17 = .ok (.getfield 63, 3) := by decide +kernel
theorem dX5_type_20 : decode cX5_type 20 = .ok (.bipush 120, 2) := by decide +kernel
theorem dX5_type_22 : decode cX5_type 22 = .ok (.if_icmp .lt 6, 3) := by decide +kernel
theorem dX5_type_25 : decode cX5_type 25 = .ok (.bipush (-3), 2) := by decide +kernel
theorem dX5_type_27 : decode cX5_type 27 = .ok (.ireturn, 1) := by decide +kernel
theorem dX5_type_28 : decode cX5_type 28 = .ok (.aload_n 0, 1) := by decide +kernel
theorem dX5_type_29 : decode cX5_type 29 = .ok (.getfield 22, 3) := by decide +kernel
theorem dX5_type_32 : decode cX5_type 32 = .ok (.iload_n 1, 1) := by decide +kernel
theorem dX5_type_33 : decode cX5_type 33 = .ok (.i2c, 1) := by decide +kernel
theorem dX5_type_34 : decode cX5_type 34 = .ok (.invokevirtual 67, 3) := by decide +kernel
theorem dX5_type_37 : decode cX5_type 37 = .ok (.aload_n 0, 1) := by decide +kernel
theorem dX5_type_38 : decode cX5_type 38 = .ok (.getfield 22, 3) := by decide +kernel
theorem dX5_type_41 : decode cX5_type 41 = .ok (.getfield 63, 3) := by decide +kernel
theorem dX5_type_44 : decode cX5_type 44 = .ok (.ireturn, 1) := by decide +kernel
theorem dX5_clear_0 : decode cX5_clear 0 = .ok (.aload_n 0, 1) := by decide +kernel
theorem dX5_clear_1 : decode cX5_clear 1 = .ok (.getfield 22, 3) := by decide +kernel
theorem dX5_clear_4 : decode cX5_clear 4 = .ok (.getfield 63, 3) := by decide +kernel
theorem dX5_clear_7 : decode cX5_clear 7 = .ok (.istore_n 1, 1) := by decide +kernel
theorem dX5_clear_8 : decode cX5_clear 8 = .ok (.aload_n 0, 1) := by decide +kernel
theorem dX5_clear_9 : decode cX5_clear 9 = .ok (.getfield 22, 3) := by decide +kernel
theorem dX5_clear_12 : decode cX5_clear 12 = .ok (.iconst 0, 1) := by decide +kernel
theorem dX5_clear_13 : decode cX5_clear 13 = .ok (.putfield 63, 3) := by decide +kernel
theorem dX5_clear_16 : decode cX5_clear 16 = .ok (.iload_n 1, 1) := by decide +kernel
theorem dX5_clear_17 : decode cX5_clear 17 = .ok (.ireturn, 1) := by decide +kernel
theorem dX5_plan_0 : decode cX5_plan 0 = .ok (.aload_n 0, 1) := by decide +kernel
theorem dX5_plan_1 : decode cX5_plan 1 = .ok (.getfield 22, 3) := by decide +kernel
theorem dX5_plan_4 : decode cX5_plan 4 = .ok (.aload_n 0, 1) := by decide +kernel
theorem dX5_plan_5 : decode cX5_plan 5 = .ok (.getfield 16, 3) := by decide +kernel
theorem dX5_plan_8 : decode cX5_plan 8 = .ok (.invokevirtual 71, 3) := by decide +kernel
theorem dX5_plan_11 : decode cX5_plan 11 = .ok (.istore_n 1, 1) := by decide +kernel
theorem dX5_plan_12 : decode cX5_plan 12 = .ok (.iload_n 1, 1) := by decide +kernel
theorem dX5_plan_13 : decode cX5_plan 13 = .ok (.ifCond .ge 5, 3) := by decide +kernel
theorem dX5_plan_16 : decode cX5_plan 16 = .ok (.iload_n 1, 1) := by decide +kernel
theorem dX5_plan_17 : decode cX5_plan 17 = .ok (.ireturn, 1) := by decide +kernel
theorem dX5_plan_18 : decode cX5_plan 18 = .ok (.aload_n 0, 1) := by decide +kernel
theorem dX5_plan_19 : decode cX5_plan 19 = .ok (.getfield 12, 3) := by decide +kernel
theorem dX5_plan_22 : decode cX5_plan 22 = .ok (.aload_n 0, 1) := by decide +kernel
theorem dX5_plan_23 : decode cX5_plan 23 = .ok (.getfield 16, 3) := by decide +kernel
theorem dX5_plan_26 : decode cX5_plan 26 = .ok (.invokevirtual 75, 3) := by decide +kernel
theorem dX5_plan_29 : decode cX5_plan 29 = .ok (.aload_n 0, 1) := by decide +kernel
theorem dX5_plan_30 : decode cX5_plan 30 = .ok (.getfield 22, 3) := by decide +kernel
theorem dX5_plan_33 : decode cX5_plan 33 = .ok (.iconst 0, 1) := by decide +kernel
theorem dX5_plan_34 : decode cX5_plan 34 = .ok (.putfield 63, 3) := by decide +kernel
theorem dX5_plan_37 : decode cX5_plan 37 = .ok (.aload_n 0, 1) := by decide +kernel
theorem dX5_plan_38 : decode cX5_plan 38 = .ok (.getfield 29, 3) := by decide +kernel
theorem dX5_plan_41 : decode cX5_plan 41 = .ok (.iconst 0, 1) := by decide +kernel
theorem dX5_plan_42 : decode cX5_plan 42 = .ok (.putfield 79, 3) := by decide +kernel
theorem dX5_plan_45 : decode cX5_plan 45 = .ok (.aload_n 0, 1) := by decide +kernel
theorem dX5_plan_46 : decode cX5_plan 46 = .ok (.iconst 0, 1) := by decide +kernel
theorem dX5_plan_47 : decode cX5_plan 47 = .ok (.putfield 82, 3) := by decide +kernel
theorem dX5_plan_50 : decode cX5_plan 50 = .ok (.iconst 0, 1) := by decide +kernel
theorem dX5_plan_51 : decode cX5_plan 51 = .ok (.istore_n 2, 1) := by decide +kernel
theorem dX5_plan_52 : decode cX5_plan 52 = .ok (.iload_n 2, 1) := by decide +kernel
theorem dX5_plan_53 : decode cX5_plan 53 = .ok (.iconst 2, 1) := by decide +kernel
theorem dX5_plan_54 : decode cX5_plan 54 = .ok (.if_icmp .ge 16, 3) := by decide +kernel
theorem dX5_plan_57 : decode cX5_plan 57 = .ok (.aload_n 0, 1) := by decide +kernel
theorem dX5_plan_58 : decode cX5_plan 58 = .ok (.getfield 51, 3) := by decide +kernel
theorem dX5_plan_61 : decode cX5_plan 61 = .ok (.iload_n 2, 1) := by decide +kernel
theorem dX5_plan_62 : decode cX5_plan 62 = .ok (.iconst 0, 1) := by decide +kernel
theorem dX5_plan_63 : decode cX5_plan 63 = .ok (.bastore, 1) := by decide +kernel
theorem dX5_plan_64 : decode cX5_plan 64 = .ok (.iinc 2 1, 3) := by decide +kernel
theorem dX5_plan_67 : decode cX5_plan 67 = .ok (.goto (-15), 3) := by decide +kernel
theorem dX5_plan_70 : decode cX5_plan 70 = .ok (.iload_n 1, 1) := by decide +kernel
theorem dX5_plan_71 : decode cX5_plan 71 = .ok (.ireturn, 1) := by decide +kernel
theorem dX5_wall_0 : decode cX5_wall 0 = .ok (.aload_n 0, 1) := by decide +kernel
theorem dX5_wall_1 : decode cX5_wall 1 = .ok (.getfield 12, 3) := by decide +kernel
theorem dX5_wall_4 : decode cX5_wall 4 = .ok (.iload_n 1, 1) := by decide +kernel
theorem dX5_wall_5 : decode cX5_wall 5 = .ok (.invokevirtual 85, 3) := by decide +kernel
theorem dX5_wall_8 : decode cX5_wall 8 = .ok (.ifCond .eq 12, 3) := by decide +kernel
theorem dX5_wall_11 : decode cX5_wall 11 = .ok (.iload_n 2, 1) := by decide +kernel
theorem dX5_wall_12 : decode cX5_wall 12 = .ok (.ifCond .lt 8, 3) := by decide +kernel
theorem dX5_wall_15 : decode cX5_wall 15 = .ok (.iload_n 2, 1) := by decide +kernel
theorem dX5_wall_16 : decode cX5_wall 16 = .ok (.iconst 4, 1) := by decide +kernel
theorem dX5_wall_17 : decode cX5_wall 17 = .ok (.if_icmp .lt 5, 3) := by decide +kernel
theorem dX5_wall_20 : decode cX5_wall 20 = .ok (.iconst (-1), 1) := by decide +kernel
theorem dX5_wall_21 : decode cX5_wall 21 = .ok (.ireturn, 1) := by decide +kernel
theorem dX5_wall_22 : decode cX5_wall 22 = .ok (.aload_n 0, 1) := by decide +kernel
theorem dX5_wall_23 : decode cX5_wall 23 = .ok (.getfield 12, 3) := by decide +kernel
theorem dX5_wall_26 : decode cX5_wall 26 = .ok (.iload_n 1, 1) := by decide +kernel
theorem dX5_wall_27 : decode cX5_wall 27 = .ok (.iload_n 2, 1) := by decide +kernel
theorem dX5_wall_28 : decode cX5_wall 28 = .ok (.invokevirtual 89, 3) := by decide +kernel
theorem dX5_wall_31 : decode cX5_wall 31 = .ok (.ireturn, 1) := by decide +kernel
theorem dX5_lamp_0 : decode cX5_lamp 0 = .ok (.aload_n 0, 1) := by decide +kernel
theorem dX5_lamp_1 : decode cX5_lamp 1 = .ok (.getfield 12, 3) := by decide +kernel
theorem dX5_lamp_4 : decode cX5_lamp 4 = .ok (.iload_n 1, 1) := by decide +kernel
theorem dX5_lamp_5 : decode cX5_lamp 5 = .ok (.invokevirtual 93, 3) := by decide +kernel
theorem dX5_lamp_8 : decode cX5_lamp 8 = .ok (.ifCond .eq 12, 3) := by decide +kernel
theorem dX5_lamp_11 : decode cX5_lamp 11 = .ok (.iload_n 2, 1) := by decide +kernel
theorem dX5_lamp_12 : decode cX5_lamp 12 = .ok (.ifCond .lt 8, 3) := by decide +kernel
theorem dX5_lamp_15 : decode cX5_lamp 15 = .ok (.iload_n 2, 1) := by decide +kernel
theorem dX5_lamp_16 : decode cX5_lamp 16 = .ok (.iconst 3, 1) := by decide +kernel
theorem dX5_lamp_17 : decode cX5_lamp 17 = .ok (.if_icmp .lt 5, 3) := by decide +kernel
theorem dX5_lamp_20 : decode cX5_lamp 20 = .ok (.iconst (-1), 1) := by decide +kernel
theorem dX5_lamp_21 : decode cX5_lamp 21 = .ok (.ireturn, 1) := by decide +kernel
theorem dX5_lamp_22 : decode cX5_lamp 22 = .ok (.aload_n 0, 1) := by decide +kernel
theorem dX5_lamp_23 : decode cX5_lamp 23 = .ok (.getfield 12, 3) := by decide +kernel
theorem dX5_lamp_26 : decode cX5_lamp 26 = .ok (.iload_n 1, 1) := by decide +kernel
theorem dX5_lamp_27 : decode cX5_lamp 27 = .ok (.iload_n 2, 1) := by decide +kernel
theorem dX5_lamp_28 : decode cX5_lamp 28 = .ok (.invokevirtual 96, 3) := by decide +kernel
theorem dX5_lamp_31 : decode cX5_lamp 31 = .ok (.ireturn, 1) := by decide +kernel
theorem dX5_puts_0 : decode cX5_puts 0 = .ok (.aload_n 0, 1) := by decide +kernel
theorem dX5_puts_1 : decode cX5_puts 1 = .ok (.getfield 12, 3) := by decide +kernel
theorem dX5_puts_4 : decode cX5_puts 4 = .ok (.iload_n 1, 1) := by decide +kernel
theorem dX5_puts_5 : decode cX5_puts 5 = .ok (.iload_n 2, 1) := by decide +kernel
theorem dX5_puts_6 : decode cX5_puts 6 = .ok (.invokevirtual 99, 3) := by decide +kernel
theorem dX5_puts_9 : decode cX5_puts 9 = .ok (.ifCond .ne 5, 3) := by decide +kernel
theorem dX5_puts_12 : decode cX5_puts 12 = .ok (.iconst (-1), 1) := by decide +kernel
theorem dX5_puts_13 : decode cX5_puts 13 = .ok (.ireturn, 1) := by decide +kernel
theorem dX5_puts_14 : decode cX5_puts 14 = .ok (.aload_n 0, 1) := by decide +kernel
theorem dX5_puts_15 : decode cX5_puts 15 = .ok (.getfield 12, 3) := by decide +kernel
theorem dX5_puts_18 : decode cX5_puts 18 = .ok (.iload_n 1, 1) := by decide +kernel
theorem dX5_puts_19 : decode cX5_puts 19 = .ok (.iload_n 2, 1) := by decide +kernel
theorem dX5_puts_20 : decode cX5_puts 20 = .ok (.invokevirtual 103, 3) := by decide +kernel
theorem dX5_puts_23 : decode cX5_puts 23 = .ok (.ifCond .eq 6, 3) := by decide +kernel
theorem dX5_puts_26 : decode cX5_puts 26 = .ok (.bipush (-2), 2) := by decide +kernel
theorem dX5_puts_28 : decode cX5_puts 28 = .ok (.ireturn, 1) := by decide +kernel
theorem dX5_puts_29 : decode cX5_puts 29 = .ok (.aload_n 0, 1) := by decide +kernel
theorem dX5_puts_30 : decode cX5_puts 30 = .ok (.getfield 12, 3) := by decide +kernel
theorem dX5_puts_33 : decode cX5_puts 33 = .ok (.getfield 106, 3) := by decide +kernel
theorem dX5_puts_36 : decode cX5_puts 36 = .ok (.bipush 8, 2) := by decide +kernel
theorem dX5_puts_38 : decode cX5_puts 38 = .ok (.if_icmp .lt 6, 3) := by decide +kernel
theorem dX5_puts_41 : decode cX5_puts 41 = .ok (.bipush (-3), 2) := by decide +kernel
theorem dX5_puts_43 : decode cX5_puts 43 = .ok (.ireturn, 1) := by decide +kernel
theorem dX5_puts_44 : decode cX5_puts 44 = .ok (.aload_n 0, 1) := by decide +kernel
theorem dX5_puts_45 : decode cX5_puts 45 = .ok (.getfield 29, 3) := by decide +kernel
theorem dX5_puts_48 : decode cX5_puts 48 = .ok (.aload_n 0, 1) := by decide +kernel
theorem dX5_puts_49 : decode cX5_puts 49 = .ok (.getfield 12, 3) := by decide +kernel
theorem dX5_puts_52 : decode cX5_puts 52 = .ok (.invokevirtual 109, 3) := by decide +kernel
theorem dX5_puts_55 : decode cX5_puts 55 = .ok (.aload_n 0, 1) := by decide +kernel
theorem dX5_puts_56 : decode cX5_puts 56 = .ok (.getfield 12, 3) := by decide +kernel
theorem dX5_puts_59 : decode cX5_puts 59 = .ok (.iload_n 1, 1) := by decide +kernel
theorem dX5_puts_60 : decode cX5_puts 60 = .ok (.iload_n 2, 1) := by decide +kernel
theorem dX5_puts_61 : decode cX5_puts 61 = .ok (.invokevirtual 112, 3) := by decide +kernel
theorem dX5_puts_64 : decode cX5_puts 64 = .ok (.aload_n 0, 1) := by decide +kernel
theorem dX5_puts_65 : decode cX5_puts 65 = .ok (.getfield 12, 3) := by decide +kernel
theorem dX5_puts_68 : decode cX5_puts 68 = .ok (.getfield 106, 3) := by decide +kernel
theorem dX5_puts_71 : decode cX5_puts 71 = .ok (.ireturn, 1) := by decide +kernel
theorem dX5_takes_0 : decode cX5_takes 0 = .ok (.aload_n 0, 1) := by decide +kernel
theorem dX5_takes_1 : decode cX5_takes 1 = .ok (.getfield 12, 3) := by decide +kernel
theorem dX5_takes_4 : decode cX5_takes 4 = .ok (.iload_n 1, 1) := by decide +kernel
theorem dX5_takes_5 : decode cX5_takes 5 = .ok (.invokevirtual 93, 3) := by decide +kernel
theorem dX5_takes_8 : decode cX5_takes 8 = .ok (.ifCond .ne 5, 3) := by decide +kernel
theorem dX5_takes_11 : decode cX5_takes 11 = .ok (.iconst (-1), 1) := by decide +kernel
theorem dX5_takes_12 : decode cX5_takes 12 = .ok (.ireturn, 1) := by decide +kernel
theorem dX5_takes_13 : decode cX5_takes 13 = .ok (.aload_n 0, 1) := by decide +kernel
theorem dX5_takes_14 : decode cX5_takes 14 = .ok (.getfield 29, 3) := by decide +kernel
theorem dX5_takes_17 : decode cX5_takes 17 = .ok (.aload_n 0, 1) := by decide +kernel
theorem dX5_takes_18 : decode cX5_takes 18 = .ok (.getfield 12, 3) := by decide +kernel
theorem dX5_takes_21 : decode cX5_takes 21 = .ok (.invokevirtual 109, 3) := by decide +kernel
theorem dX5_takes_24 : decode cX5_takes 24 = .ok (.aload_n 0, 1) := by decide +kernel
theorem dX5_takes_25 : decode cX5_takes 25 = .ok (.getfield 12, 3) := by decide +kernel
theorem dX5_takes_28 : decode cX5_takes 28 = .ok (.iload_n 1, 1) := by decide +kernel
theorem dX5_takes_29 : decode cX5_takes 29 = .ok (.invokevirtual 115, 3) := by decide +kernel
theorem dX5_takes_32 : decode cX5_takes 32 = .ok (.aload_n 0, 1) := by decide +kernel
theorem dX5_takes_33 : decode cX5_takes 33 = .ok (.getfield 12, 3) := by decide +kernel
theorem dX5_takes_36 : decode cX5_takes 36 = .ok (.getfield 106, 3) := by decide +kernel
theorem dX5_takes_39 : decode cX5_takes 39 = .ok (.ireturn, 1) := by decide +kernel
theorem dX5_switches_0 : decode cX5_switches 0 = .ok (.aload_n 0, 1) := by decide +kernel
theorem dX5_switches_1 : decode cX5_switches 1 = .ok (.getfield 12, 3) := by decide +kernel
theorem dX5_switches_4 : decode cX5_switches 4 = .ok (.iload_n 1, 1) := by decide +kernel
theorem dX5_switches_5 : decode cX5_switches 5 = .ok (.invokevirtual 93, 3) := by decide +kernel
theorem dX5_switches_8 : decode cX5_switches 8 = .ok (.ifCond .ne 5, 3) := by decide +kernel
theorem dX5_switches_11 : decode cX5_switches 11 = .ok (.iconst (-1), 1) := by decide +kernel
theorem dX5_switches_12 : decode cX5_switches 12 = .ok (.ireturn, 1) := by decide +kernel
theorem dX5_switches_13 : decode cX5_switches 13 = .ok (.aload_n 0, 1) := by decide +kernel
theorem dX5_switches_14 : decode cX5_switches 14 = .ok (.getfield 29, 3) := by decide +kernel
theorem dX5_switches_17 : decode cX5_switches 17 = .ok (.aload_n 0, 1) := by decide +kernel
theorem dX5_switches_18 : decode cX5_switches 18 = .ok (.getfield 12, 3) := by decide +kernel
theorem dX5_switches_21 : decode cX5_switches 21 = .ok (.invokevirtual 109, 3) := by decide +kernel
theorem dX5_switches_24 : decode cX5_switches 24 = .ok (.aload_n 0, 1) := by decide +kernel
theorem dX5_switches_25 : decode cX5_switches 25 = .ok (.getfield 12, 3) := by decide +kernel
theorem dX5_switches_28 : decode cX5_switches 28 = .ok (.iload_n 1, 1) := by decide +kernel
theorem dX5_switches_29 : decode cX5_switches 29 = .ok (.invokevirtual 119, 3) := by decide +kernel
theorem dX5_switches_32 : decode cX5_switches 32 = .ok (.ireturn, 1) := by decide +kernel
theorem dX5_builds_0 : decode cX5_builds 0 = .ok (.aload_n 0, 1) := by decide +kernel
theorem dX5_builds_1 : decode cX5_builds 1 = .ok (.getfield 12, 3) := by decide +kernel
theorem dX5_builds_4 : decode cX5_builds 4 = .ok (.iload_n 1, 1) := by decide +kernel
theorem dX5_builds_5 : decode cX5_builds 5 = .ok (.iload_n 2, 1) := by decide +kernel
theorem dX5_builds_6 : decode cX5_builds 6 = .ok (.iload_n 3, 1) := by decide +kernel
theorem dX5_builds_7 : decode cX5_builds 7 = .ok (.iload 4, 2) := by decide +kernel
theorem dX5_builds_9 : decode cX5_builds 9 = .ok (.invokevirtual 123, 3) := by decide +kernel
theorem dX5_builds_12 : decode cX5_builds 12 = .ok (.ifCond .ne 5, 3) := by decide +kernel
theorem dX5_builds_15 : decode cX5_builds 15 = .ok (.iconst (-1), 1) := by decide +kernel
theorem dX5_builds_16 : decode cX5_builds 16 = .ok (.ireturn, 1) := by decide +kernel
theorem dX5_builds_17 : decode cX5_builds 17 = .ok (.aload_n 0, 1) := by decide +kernel
theorem dX5_builds_18 : decode cX5_builds 18 = .ok (.getfield 12, 3) := by decide +kernel
theorem dX5_builds_21 : decode cX5_builds 21 = .ok (.getfield 127, 3) := by decide +kernel
theorem dX5_builds_24 : decode cX5_builds 24 = .ok (.bipush 14, 2) := by decide +kernel
theorem dX5_builds_26 : decode cX5_builds 26 = .ok (.if_icmp .lt 6, 3) := by decide +kernel
theorem dX5_builds_29 : decode cX5_builds 29 = .ok (.bipush (-3), 2) := by decide +kernel
theorem dX5_builds_31 : decode cX5_builds 31 = .ok (.ireturn, 1) := by decide +kernel
theorem dX5_builds_32 : decode cX5_builds 32 = .ok (.aload_n 0, 1) := by decide +kernel
theorem dX5_builds_33 : decode cX5_builds 33 = .ok (.getfield 29, 3) := by decide +kernel
theorem dX5_builds_36 : decode cX5_builds 36 = .ok (.aload_n 0, 1) := by decide +kernel
theorem dX5_builds_37 : decode cX5_builds 37 = .ok (.getfield 12, 3) := by decide +kernel
theorem dX5_builds_40 : decode cX5_builds 40 = .ok (.invokevirtual 109, 3) := by decide +kernel
theorem dX5_builds_43 : decode cX5_builds 43 = .ok (.aload_n 0, 1) := by decide +kernel
theorem dX5_builds_44 : decode cX5_builds 44 = .ok (.getfield 12, 3) := by decide +kernel
theorem dX5_builds_47 : decode cX5_builds 47 = .ok (.iload_n 1, 1) := by decide +kernel
theorem dX5_builds_48 : decode cX5_builds 48 = .ok (.iload_n 2, 1) := by decide +kernel
theorem dX5_builds_49 : decode cX5_builds 49 = .ok (.iload_n 3, 1) := by decide +kernel
theorem dX5_builds_50 : decode cX5_builds 50 = .ok (.iload 4, 2) := by decide +kernel
theorem dX5_builds_52 : decode cX5_builds 52 = .ok (.invokevirtual 130, 3) := by decide +kernel
theorem dX5_builds_55 : decode cX5_builds 55 = .ok (.aload_n 0, 1) := by decide +kernel
theorem dX5_builds_56 : decode cX5_builds 56 = .ok (.getfield 12, 3) := by decide +kernel
theorem dX5_builds_59 : decode cX5_builds 59 = .ok (.getfield 127, 3) := by decide +kernel
theorem dX5_builds_62 : decode cX5_builds 62 = .ok (.ireturn, 1) := by decide +kernel
theorem dX5_breaks_0 : decode cX5_breaks 0 = .ok (.aload_n 0, 1) := by decide +kernel
theorem dX5_breaks_1 : decode cX5_breaks 1 = .ok (.getfield 12, 3) := by decide +kernel
theorem dX5_breaks_4 : decode cX5_breaks 4 = .ok (.iload_n 1, 1) := by decide +kernel
theorem dX5_breaks_5 : decode cX5_breaks 5 = .ok (.invokevirtual 134, 3) := by decide +kernel
theorem dX5_breaks_8 : decode cX5_breaks 8 = .ok (.ifCond .ne 5, 3) := by decide +kernel
theorem dX5_breaks_11 : decode cX5_breaks 11 = .ok (.iconst (-1), 1) := by decide +kernel
theorem dX5_breaks_12 : decode cX5_breaks 12 = .ok (.ireturn, 1) := by decide +kernel
theorem dX5_breaks_13 : decode cX5_breaks 13 = .ok (.aload_n 0, 1) := by decide +kernel
theorem dX5_breaks_14 : decode cX5_breaks 14 = .ok (.getfield 29, 3) := by decide +kernel
theorem dX5_breaks_17 : decode cX5_breaks 17 = .ok (.aload_n 0, 1) := by decide +kernel
theorem dX5_breaks_18 : decode cX5_breaks 18 = .ok (.getfield 12, 3) := by decide +kernel
theorem dX5_breaks_21 : decode cX5_breaks 21 = .ok (.invokevirtual 109, 3) := by decide +kernel
theorem dX5_breaks_24 : decode cX5_breaks 24 = .ok (.aload_n 0, 1) := by decide +kernel
theorem dX5_breaks_25 : decode cX5_breaks 25 = .ok (.getfield 12, 3) := by decide +kernel
theorem dX5_breaks_28 : decode cX5_breaks 28 = .ok (.iload_n 1, 1) := by decide +kernel
theorem dX5_breaks_29 : decode cX5_breaks 29 = .ok (.invokevirtual 137, 3) := by decide +kernel
theorem dX5_breaks_32 : decode cX5_breaks 32 = .ok (.aload_n 0, 1) := by decide +kernel
theorem dX5_breaks_33 : decode cX5_breaks 33 = .ok (.getfield 12, 3) := by decide +kernel
theorem dX5_breaks_36 : decode cX5_breaks 36 = .ok (.getfield 127, 3) := by decide +kernel
theorem dX5_breaks_39 : decode cX5_breaks 39 = .ok (.ireturn, 1) := by decide +kernel
theorem dX5_undo_0 : decode cX5_undo 0 = .ok (.aload_n 0, 1) := by decide +kernel
theorem dX5_undo_1 : decode cX5_undo 1 = .ok (.getfield 29, 3) := by decide +kernel
theorem dX5_undo_4 : decode cX5_undo 4 = .ok (.getfield 79, 3) := by decide +kernel
theorem dX5_undo_7 : decode cX5_undo 7 = .ok (.ifCond .gt 6, 3) := by decide +kernel
theorem dX5_undo_10 : decode cX5_undo 10 = .ok (.bipush (-2), 2) := by decide +kernel
theorem dX5_undo_12 : decode cX5_undo 12 = .ok (.ireturn, 1) := by decide +kernel
theorem dX5_undo_13 : decode cX5_undo 13 = .ok (.aload_n 0, 1) := by decide +kernel
theorem dX5_undo_14 : decode cX5_undo 14 = .ok (.getfield 29, 3) := by decide +kernel
theorem dX5_undo_17 : decode cX5_undo 17 = .ok (.aload_n 0, 1) := by decide +kernel
theorem dX5_undo_18 : decode cX5_undo 18 = .ok (.getfield 12, 3) := by decide +kernel
theorem dX5_undo_21 : decode cX5_undo 21 = .ok (.invokevirtual 140, 3) := by decide +kernel
theorem dX5_undo_24 : decode cX5_undo 24 = .ok (.aload_n 0, 1) := by decide +kernel
theorem dX5_undo_25 : decode cX5_undo 25 = .ok (.getfield 29, 3) := by decide +kernel
theorem dX5_undo_28 : decode cX5_undo 28 = .ok (.getfield 79, 3) := by decide +kernel
theorem dX5_undo_31 : decode cX5_undo 31 = .ok (.ireturn, 1) := by decide +kernel
theorem dX5_lit_0 : decode cX5_lit 0 = .ok (.aload_n 0, 1) := by decide +kernel
theorem dX5_lit_1 : decode cX5_lit 1 = .ok (.getfield 12, 3) := by decide +kernel
theorem dX5_lit_4 : decode cX5_lit 4 = .ok (.iload_n 1, 1) := by decide +kernel
theorem dX5_lit_5 : decode cX5_lit 5 = .ok (.invokevirtual 93, 3) := by decide +kernel
theorem dX5_lit_8 : decode cX5_lit 8 = .ok (.ifCond .eq 15, 3) := by decide +kernel
theorem dX5_lit_11 : decode cX5_lit 11 = .ok (.aload_n 0, 1) := by decide +kernel
theorem dX5_lit_12 : decode cX5_lit 12 = .ok (.getfield 12, 3) := by decide +kernel
theorem dX5_lit_15 : decode cX5_lit 15 = .ok (.iload_n 2, 1) := by decide +kernel
theorem dX5_lit_16 : decode cX5_lit 16 = .ok (.iload_n 3, 1) := by decide +kernel
theorem dX5_lit_17 : decode cX5_lit 17 = .ok (.invokevirtual 99, 3) := by decide +kernel
theorem dX5_lit_20 : decode cX5_lit 20 = .ok (.ifCond .ne 5, 3) := by decide +kernel
theorem dX5_lit_23 : decode cX5_lit 23 = .ok (.iconst (-1), 1) := by decide +kernel
theorem dX5_lit_24 : decode cX5_lit 24 = .ok (.ireturn, 1) := by decide +kernel
theorem dX5_lit_25 : decode cX5_lit 25 = .ok (.aload_n 0, 1) := by decide +kernel
theorem dX5_lit_26 : decode cX5_lit 26 = .ok (.getfield 12, 3) := by decide +kernel
theorem dX5_lit_29 : decode cX5_lit 29 = .ok (.iload_n 1, 1) := by decide +kernel
theorem dX5_lit_30 : decode cX5_lit 30 = .ok (.iload_n 2, 1) := by decide +kernel
theorem dX5_lit_31 : decode cX5_lit 31 = .ok (.iload_n 3, 1) := by decide +kernel
theorem dX5_lit_32 : decode cX5_lit 32 = .ok (.bipush (-9), 2) := by decide +kernel
theorem dX5_lit_34 : decode cX5_lit 34 = .ok (.invokestatic 143, 3) := by decide +kernel
theorem dX5_lit_37 : decode cX5_lit 37 = .ok (.ifCond .eq 7, 3) := by decide +kernel
theorem dX5_lit_40 : decode cX5_lit 40 = .ok (.iconst 1, 1) := by decide +kernel
theorem dX5_lit_41 : decode cX5_lit 41 = .ok (.goto 4, 3) := by decide +kernel
theorem dX5_lit_44 : decode cX5_lit 44 = .ok (.iconst 0, 1) := by decide +kernel
theorem dX5_lit_45 : decode cX5_lit 45 = .ok (.ireturn, 1) := by decide +kernel
theorem dX5_by_0 : decode cX5_by 0 = .ok (.aload_n 0, 1) := by decide +kernel
theorem dX5_by_1 : decode cX5_by 1 = .ok (.getfield 12, 3) := by decide +kernel
theorem dX5_by_4 : decode cX5_by 4 = .ok (.iload_n 1, 1) := by decide +kernel
theorem dX5_by_5 : decode cX5_by 5 = .ok (.iload_n 2, 1) := by decide +kernel
theorem dX5_by_6 : decode cX5_by 6 = .ok (.invokevirtual 99, 3) := by decide +kernel
theorem dX5_by_9 : decode cX5_by 9 = .ok (.ifCond .ne 5, 3) := by decide +kernel
theorem dX5_by_12 : decode cX5_by 12 = .ok (.iconst (-1), 1) := by decide +kernel
theorem dX5_by_13 : decode cX5_by 13 = .ok (.ireturn, 1) := by decide +kernel
theorem dX5_by_14 : decode cX5_by 14 = .ok (.aload_n 0, 1) := by decide +kernel
theorem dX5_by_15 : decode cX5_by 15 = .ok (.getfield 12, 3) := by decide +kernel
theorem dX5_by_18 : decode cX5_by 18 = .ok (.iload_n 1, 1) := by decide +kernel
theorem dX5_by_19 : decode cX5_by 19 = .ok (.iload_n 2, 1) := by decide +kernel
theorem dX5_by_20 : decode cX5_by 20 = .ok (.invokestatic 147, 3) := by decide +kernel
theorem dX5_by_23 : decode cX5_by 23 = .ok (.ireturn, 1) := by decide +kernel
theorem dX5_lights_0 : decode cX5_lights 0 = .ok (.aload_n 0, 1) := by decide +kernel
theorem dX5_lights_1 : decode cX5_lights 1 = .ok (.getfield 12, 3) := by decide +kernel
theorem dX5_lights_4 : decode cX5_lights 4 = .ok (.iload_n 1, 1) := by decide +kernel
theorem dX5_lights_5 : decode cX5_lights 5 = .ok (.invokevirtual 93, 3) := by decide +kernel
theorem dX5_lights_8 : decode cX5_lights 8 = .ok (.ifCond .ne 5, 3) := by decide +kernel
theorem dX5_lights_11 : decode cX5_lights 11 = .ok (.iconst (-1), 1) := by decide +kernel
theorem dX5_lights_12 : decode cX5_lights 12 = .ok (.ireturn, 1) := by decide +kernel
theorem dX5_lights_13 : decode cX5_lights 13 = .ok (.aload_n 0, 1) := by decide +kernel
theorem dX5_lights_14 : decode cX5_lights 14 = .ok (.getfield 36, 3) := by decide +kernel
theorem dX5_lights_17 : decode cX5_lights 17 = .ok (.aload_n 0, 1) := by decide +kernel
theorem dX5_lights_18 : decode cX5_lights 18 = .ok (.getfield 12, 3) := by decide +kernel
theorem dX5_lights_21 : decode cX5_lights 21 = .ok (.iconst 1, 1) := by decide +kernel
theorem dX5_lights_22 : decode cX5_lights 22 = .ok (.iload_n 1, 1) := by decide +kernel
theorem dX5_lights_23 : decode cX5_lights 23 = .ok (.ishl, 1) := by decide +kernel
theorem dX5_lights_24 : decode cX5_lights 24 = .ok (.bipush (-9), 2) := by decide +kernel
theorem dX5_lights_26 : decode cX5_lights 26 = .ok (.invokevirtual 151, 3) := by decide +kernel
theorem dX5_lights_29 : decode cX5_lights 29 = .ok (.ireturn, 1) := by decide +kernel
theorem dX5_all_0 : decode cX5_all 0 = .ok (.aload_n 0, 1) := by decide +kernel
theorem dX5_all_1 : decode cX5_all 1 = .ok (.getfield 36, 3) := by decide +kernel
theorem dX5_all_4 : decode cX5_all 4 = .ok (.aload_n 0, 1) := by decide +kernel
theorem dX5_all_5 : decode cX5_all 5 = .ok (.getfield 12, 3) := by decide +kernel
theorem dX5_all_8 : decode cX5_all 8 = .ok (.aload_n 0, 1) := by decide +kernel
theorem dX5_all_9 : decode cX5_all 9 = .ok (.getfield 12, 3) := by decide +kernel
theorem dX5_all_12 : decode cX5_all 12 = .ok (.invokevirtual 154, 3) := by decide +kernel
theorem dX5_all_15 : decode cX5_all 15 = .ok (.bipush (-9), 2) := by decide +kernel
theorem dX5_all_17 : decode cX5_all 17 = .ok (.invokevirtual 151, 3) := by decide +kernel
theorem dX5_all_20 : decode cX5_all 20 = .ok (.ireturn, 1) := by decide +kernel
theorem dX5_events_0 : decode cX5_events 0 = .ok (.aload_n 0, 1) := by decide +kernel
theorem dX5_events_1 : decode cX5_events 1 = .ok (.getfield 12, 3) := by decide +kernel
theorem dX5_events_4 : decode cX5_events 4 = .ok (.iload_n 1, 1) := by decide +kernel
theorem dX5_events_5 : decode cX5_events 5 = .ok (.invokevirtual 93, 3) := by decide +kernel
theorem dX5_events_8 : decode cX5_events 8 = .ok (.ifCond .ne 5, 3) := by decide +kernel
theorem dX5_events_11 : decode cX5_events 11 = .ok (.iconst (-1), 1) := by decide +kernel
theorem dX5_events_12 : decode cX5_events 12 = .ok (.ireturn, 1) := by decide +kernel
theorem dX5_events_13 : decode cX5_events 13 = .ok (.aload_n 0, 1) := by decide +kernel
theorem dX5_events_14 : decode cX5_events 14 = .ok (.getfield 43, 3) := by decide +kernel
theorem dX5_events_17 : decode cX5_events 17 = .ok (.aload_n 0, 1) := by decide +kernel
theorem dX5_events_18 : decode cX5_events 18 = .ok (.getfield 12, 3) := by decide +kernel
theorem dX5_events_21 : decode cX5_events 21 = .ok (.iload_n 1, 1) := by decide +kernel
theorem dX5_events_22 : decode cX5_events 22 = .ok (.invokevirtual 158, 3) := by decide +kernel
theorem dX5_events_25 : decode cX5_events 25 = .ok (.aload_n 0, 1) := by decide +kernel
theorem dX5_events_26 : decode cX5_events 26 = .ok (.getfield 43, 3) := by decide +kernel
theorem dX5_events_29 : decode cX5_events 29 = .ok (.getfield 162, 3) := by decide +kernel
theorem dX5_events_32 : decode cX5_events 32 = .ok (.ireturn, 1) := by decide +kernel
theorem dX5_event_0 : decode cX5_event 0 = .ok (.aload_n 0, 1) := by decide +kernel
theorem dX5_event_1 : decode cX5_event 1 = .ok (.getfield 12, 3) := by decide +kernel
theorem dX5_event_4 : decode cX5_event 4 = .ok (.iload_n 1, 1) := by decide +kernel
theorem dX5_event_5 : decode cX5_event 5 = .ok (.invokevirtual 93, 3) := by decide +kernel
theorem dX5_event_8 : decode cX5_event 8 = .ok (.ifCond .eq 16, 3) := by decide +kernel
theorem dX5_event_11 : decode cX5_event 11 = .ok (.iload_n 2, 1) := by decide +kernel
theorem dX5_event_12 : decode cX5_event 12 = .ok (.ifCond .lt 12, 3) := by decide +kernel
theorem dX5_event_15 : decode cX5_event 15 = .ok (.iload_n 3, 1) := by decide +kernel
theorem dX5_event_16 : decode cX5_event 16 = .ok (.ifCond .lt 8, 3) := by decide +kernel
theorem dX5_event_19 : decode cX5_event 19 = .ok (.iload_n 3, 1) := by decide +kernel
theorem dX5_event_20 : decode cX5_event 20 = .ok (.iconst 1, 1) := by decide +kernel
theorem dX5_event_21 : decode cX5_event 21 = .ok (.if_icmp .le 7, 3) := by decide +kernel
theorem dX5_event_24 : decode cX5_event 24 = .ok (.sipush (-1000), 3) := by decide +kernel
theorem dX5_event_27 : decode cX5_event 27 = .ok (.ireturn, 1) := by decide +kernel
theorem dX5_event_28 : decode cX5_event 28 = .ok (.aload_n 0, 1) := by decide +kernel
theorem dX5_event_29 : decode cX5_event 29 = .ok (.getfield 43, 3) := by decide +kernel
theorem dX5_event_32 : decode cX5_event 32 = .ok (.aload_n 0, 1) := by decide +kernel
theorem dX5_event_33 : decode cX5_event 33 = .ok (.getfield 12, 3) := by decide +kernel
theorem dX5_event_36 : decode cX5_event 36 = .ok (.iload_n 1, 1) := by decide +kernel
theorem dX5_event_37 : decode cX5_event 37 = .ok (.invokevirtual 158, 3) := by decide +kernel
theorem dX5_event_40 : decode cX5_event 40 = .ok (.iload_n 2, 1) := by decide +kernel
theorem dX5_event_41 : decode cX5_event 41 = .ok (.aload_n 0, 1) := by decide +kernel
theorem dX5_event_42 : decode cX5_event 42 = .ok (.getfield 43, 3) := by decide +kernel
theorem dX5_event_45 : decode cX5_event 45 = .ok (.getfield 162, 3) := by decide +kernel
theorem dX5_event_48 : decode cX5_event 48 = .ok (.if_icmp .lt 7, 3) := by decide +kernel
theorem dX5_event_51 : decode cX5_event 51 = .ok (.sipush (-1000), 3) := by decide +kernel
theorem dX5_event_54 : decode cX5_event 54 = .ok (.ireturn, 1) := by decide +kernel
theorem dX5_event_55 : decode cX5_event 55 = .ok (.iload_n 3, 1) := by decide +kernel
theorem dX5_event_56 : decode cX5_event 56 = .ok (.ifCond .ne 15, 3) := by decide +kernel
theorem dX5_event_59 : decode cX5_event 59 = .ok (.aload_n 0, 1) := by decide +kernel
theorem dX5_event_60 : decode cX5_event 60 = .ok (.getfield 43, 3) := by decide +kernel
theorem dX5_event_63 : decode cX5_event 63 = .ok (.getfield 163, 3) := by decide +kernel
theorem dX5_event_66 : decode cX5_event 66 = .ok (.iload_n 2, 1) := by decide +kernel
theorem dX5_event_67 : decode cX5_event 67 = .ok (.iaload, 1) := by decide +kernel
theorem dX5_event_68 : decode cX5_event 68 = .ok (.goto 12, 3) := by decide +kernel
theorem dX5_event_71 : decode cX5_event 71 = .ok (.aload_n 0, 1) := by decide +kernel
theorem dX5_event_72 : decode cX5_event 72 = .ok (.getfield 43, 3) := by decide +kernel
theorem dX5_event_75 : decode cX5_event 75 = .ok (.getfield 166, 3) := by decide +kernel
theorem dX5_event_78 : decode cX5_event 78 = .ok (.iload_n 2, 1) := by decide +kernel
theorem dX5_event_79 : decode cX5_event 79 = .ok (.iaload, 1) := by decide +kernel
theorem dX5_event_80 : decode cX5_event 80 = .ok (.ireturn, 1) := by decide +kernel
theorem dX5_sector_0 : decode cX5_sector 0 = .ok (.aload_n 0, 1) := by decide +kernel
theorem dX5_sector_1 : decode cX5_sector 1 = .ok (.getfield 12, 3) := by decide +kernel
theorem dX5_sector_4 : decode cX5_sector 4 = .ok (.iload_n 1, 1) := by decide +kernel
theorem dX5_sector_5 : decode cX5_sector 5 = .ok (.invokevirtual 93, 3) := by decide +kernel
theorem dX5_sector_8 : decode cX5_sector 8 = .ok (.ifCond .eq 16, 3) := by decide +kernel
theorem dX5_sector_11 : decode cX5_sector 11 = .ok (.iload_n 2, 1) := by decide +kernel
theorem dX5_sector_12 : decode cX5_sector 12 = .ok (.ifCond .lt 12, 3) := by decide +kernel
theorem dX5_sector_15 : decode cX5_sector 15 = .ok (.iload_n 3, 1) := by decide +kernel
theorem dX5_sector_16 : decode cX5_sector 16 = .ok (.ifCond .lt 8, 3) := by decide +kernel
theorem dX5_sector_19 : decode cX5_sector 19 = .ok (.iload_n 3, 1) := by decide +kernel
theorem dX5_sector_20 : decode cX5_sector 20 = .ok (.iconst 2, 1) := by decide +kernel
theorem dX5_sector_21 : decode cX5_sector 21 = .ok (.if_icmp .le 5, 3) := by decide +kernel
theorem dX5_sector_24 : decode cX5_sector 24 = .ok (.iconst (-1), 1) := by decide +kernel
theorem dX5_sector_25 : decode cX5_sector 25 = .ok (.ireturn, 1) := by decide +kernel
theorem dX5_sector_26 : decode cX5_sector 26 = .ok (.aload_n 0, 1) := by decide +kernel
theorem dX5_sector_27 : decode cX5_sector 27 = .ok (.getfield 43, 3) := by decide +kernel
theorem dX5_sector_30 : decode cX5_sector 30 = .ok (.aload_n 0, 1) := by decide +kernel
theorem dX5_sector_31 : decode cX5_sector 31 = .ok (.getfield 12, 3) := by decide +kernel
theorem dX5_sector_34 : decode cX5_sector 34 = .ok (.iload_n 1, 1) := by decide +kernel
theorem dX5_sector_35 : decode cX5_sector 35 = .ok (.invokevirtual 158, 3) := by decide +kernel
theorem dX5_sector_38 : decode cX5_sector 38 = .ok (.iload_n 2, 1) := by decide +kernel
theorem dX5_sector_39 : decode cX5_sector 39 = .ok (.aload_n 0, 1) := by decide +kernel
theorem dX5_sector_40 : decode cX5_sector 40 = .ok (.getfield 43, 3) := by decide +kernel
theorem dX5_sector_43 : decode cX5_sector 43 = .ok (.getfield 162, 3) := by decide +kernel
theorem dX5_sector_46 : decode cX5_sector 46 = .ok (.if_icmp .lt 6, 3) := by decide +kernel
theorem dX5_sector_49 : decode cX5_sector 49 = .ok (.bipush (-9), 2) := by decide +kernel
theorem dX5_sector_51 : decode cX5_sector 51 = .ok (.ireturn, 1) := by decide +kernel
theorem dX5_sector_52 : decode cX5_sector 52 = .ok (.aload_n 0, 1) := by decide +kernel
theorem dX5_sector_53 : decode cX5_sector 53 = .ok (.getfield 43, 3) := by decide +kernel
theorem dX5_sector_56 : decode cX5_sector 56 = .ok (.aload_n 0, 1) := by decide +kernel
theorem dX5_sector_57 : decode cX5_sector 57 = .ok (.getfield 12, 3) := by decide +kernel
theorem dX5_sector_60 : decode cX5_sector 60 = .ok (.iload_n 2, 1) := by decide +kernel
theorem dX5_sector_61 : decode cX5_sector 61 = .ok (.invokevirtual 169, 3) := by decide +kernel
theorem dX5_sector_64 : decode cX5_sector 64 = .ok (.istore 4, 2) := by decide +kernel
theorem dX5_sector_66 : decode cX5_sector 66 = .ok (.iload_n 3, 1) := by decide +kernel
theorem dX5_sector_67 : decode cX5_sector 67 = .ok (.ifCond .eq 8, 3) := by decide +kernel
theorem dX5_sector_70 : decode cX5_sector 70 = .ok (.iload 4, 2) := by decide +kernel
theorem dX5_sector_72 : decode cX5_sector 72 = .ok (.ifCond .ge 6, 3) := by decide +kernel
theorem dX5_sector_75 : decode cX5_sector 75 = .ok (.iload 4, 2) := by decide +kernel
theorem dX5_sector_77 : decode cX5_sector 77 = .ok (.ireturn, 1) := by decide +kernel
theorem dX5_sector_78 : decode cX5_sector 78 = .ok (.aload_n 0, 1) := by decide +kernel
theorem dX5_sector_79 : decode cX5_sector 79 = .ok (.getfield 43, 3) := by decide +kernel
theorem dX5_sector_82 : decode cX5_sector 82 = .ok (.aload_n 0, 1) := by decide +kernel
theorem dX5_sector_83 : decode cX5_sector 83 = .ok (.getfield 12, 3) := by decide +kernel
theorem dX5_sector_86 : decode cX5_sector 86 = .ok (.iload_n 2, 1) := by decide +kernel
theorem dX5_sector_87 : decode cX5_sector 87 = .ok (.iload 4, 2) := by decide +kernel
theorem dX5_sector_89 : decode cX5_sector 89 = .ok (.invokevirtual 173, 3) := by decide +kernel
theorem dX5_sector_92 : decode cX5_sector 92 = .ok (.iload_n 3, 1) := by decide +kernel
theorem dX5_sector_93 : decode cX5_sector 93 = .ok (.iconst 1, 1) := by decide +kernel
theorem dX5_sector_94 : decode cX5_sector 94 = .ok (.if_icmp .ne 13, 3) := by decide +kernel
theorem dX5_sector_97 : decode cX5_sector 97 = .ok (.aload_n 0, 1) := by decide +kernel
theorem dX5_sector_98 : decode cX5_sector 98 = .ok (.getfield 43, 3) := by decide +kernel
theorem dX5_sector_101 : decode cX5_sector 101 = .ok (.getfield 177, 3) := by decide +kernel
theorem dX5_sector_104 : decode cX5_sector 104 = .ok (.goto 10, 3) := by decide +kernel
theorem dX5_sector_107 : decode cX5_sector 107 = .ok (.aload_n 0, 1) := by decide +kernel
theorem dX5_sector_108 : decode cX5_sector 108 = .ok (.getfield 43, 3) := by decide +kernel
theorem dX5_sector_111 : decode cX5_sector 111 = .ok (.getfield 180, 3) := by decide +kernel
theorem dX5_sector_114 : decode cX5_sector 114 = .ok (.ireturn, 1) := by decide +kernel
theorem dX5_walls_0 : decode cX5_walls 0 = .ok (.aload_n 0, 1) := by decide +kernel
theorem dX5_walls_1 : decode cX5_walls 1 = .ok (.getfield 12, 3) := by decide +kernel
theorem dX5_walls_4 : decode cX5_walls 4 = .ok (.iload_n 1, 1) := by decide +kernel
theorem dX5_walls_5 : decode cX5_walls 5 = .ok (.invokevirtual 93, 3) := by decide +kernel
theorem dX5_walls_8 : decode cX5_walls 8 = .ok (.ifCond .ne 5, 3) := by decide +kernel
theorem dX5_walls_11 : decode cX5_walls 11 = .ok (.iconst (-1), 1) := by decide +kernel
theorem dX5_walls_12 : decode cX5_walls 12 = .ok (.ireturn, 1) := by decide +kernel
theorem dX5_walls_13 : decode cX5_walls 13 = .ok (.aload_n 0, 1) := by decide +kernel
theorem dX5_walls_14 : decode cX5_walls 14 = .ok (.getfield 43, 3) := by decide +kernel
theorem dX5_walls_17 : decode cX5_walls 17 = .ok (.aload_n 0, 1) := by decide +kernel
theorem dX5_walls_18 : decode cX5_walls 18 = .ok (.getfield 12, 3) := by decide +kernel
theorem dX5_walls_21 : decode cX5_walls 21 = .ok (.iload_n 1, 1) := by decide +kernel
theorem dX5_walls_22 : decode cX5_walls 22 = .ok (.invokevirtual 158, 3) := by decide +kernel
theorem dX5_walls_25 : decode cX5_walls 25 = .ok (.iconst 0, 1) := by decide +kernel
theorem dX5_walls_26 : decode cX5_walls 26 = .ok (.istore_n 2, 1) := by decide +kernel
theorem dX5_walls_27 : decode cX5_walls 27 = .ok (.iconst 0, 1) := by decide +kernel
theorem dX5_walls_28 : decode cX5_walls 28 = .ok (.istore_n 3, 1) := by decide +kernel
theorem dX5_walls_29 : decode cX5_walls 29 = .ok (.iload_n 3, 1) := by decide +kernel
theorem dX5_walls_30 : decode cX5_walls 30 = .ok (.aload_n 0, 1) := by decide +kernel
theorem dX5_walls_31 : decode cX5_walls 31 = .ok (.getfield 43, 3) := by decide +kernel
theorem dX5_walls_34 : decode cX5_walls 34 = .ok (.getfield 162, 3) := by decide +kernel
theorem dX5_walls_37 : decode cX5_walls 37 = .ok (.if_icmp .ge 35, 3) := by decide +kernel
theorem dX5_walls_40 : decode cX5_walls 40 = .ok (.aload_n 0, 1) := by decide +kernel
theorem dX5_walls_41 : decode cX5_walls 41 = .ok (.getfield 43, 3) := by decide +kernel
theorem dX5_walls_44 : decode cX5_walls 44 = .ok (.aload_n 0, 1) := by decide +kernel
theorem dX5_walls_45 : decode cX5_walls 45 = .ok (.getfield 12, 3) := by decide +kernel
theorem dX5_walls_48 : decode cX5_walls 48 = .ok (.iload_n 3, 1) := by decide +kernel
theorem dX5_walls_49 : decode cX5_walls 49 = .ok (.invokevirtual 169, 3) := by decide +kernel
theorem dX5_walls_52 : decode cX5_walls 52 = .ok (.istore 4, 2) := by decide +kernel
theorem dX5_walls_54 : decode cX5_walls 54 = .ok (.iload 4, 2) := by decide +kernel
theorem dX5_walls_56 : decode cX5_walls 56 = .ok (.ifCond .lt 10, 3) := by decide +kernel
theorem dX5_walls_59 : decode cX5_walls 59 = .ok (.iload_n 2, 1) := by decide +kernel
theorem dX5_walls_60 : decode cX5_walls 60 = .ok (.iconst 1, 1) := by decide +kernel
theorem dX5_walls_61 : decode cX5_walls 61 = .ok (.iload 4, 2) := by decide +kernel
theorem dX5_walls_63 : decode cX5_walls 63 = .ok (.ishl, 1) := by decide +kernel
theorem dX5_walls_64 : decode cX5_walls 64 = .ok (.ior, 1) := by decide +kernel
theorem dX5_walls_65 : decode cX5_walls 65 = .ok (.istore_n 2, 1) := by decide +kernel
theorem dX5_walls_66 : decode cX5_walls 66 = .ok (.iinc 3 1, 3) := by decide +kernel
theorem dX5_walls_69 : decode cX5_walls 69 = .ok (.goto (-40), 3) := by decide +kernel
theorem dX5_walls_72 : decode cX5_walls 72 = .ok (.iload_n 2, 1) := by decide +kernel
theorem dX5_walls_73 : decode cX5_walls 73 = .ok (.ireturn, 1) := by decide +kernel
theorem dX5_fewest_0 : decode cX5_fewest 0 = .ok (.iconst 1, 1) := by decide +kernel
theorem dX5_fewest_1 : decode cX5_fewest 1 = .ok (.aload_n 0, 1) := by decide +kernel
theorem dX5_fewest_2 : decode cX5_fewest 2 = .ok (.getfield 12, 3) := by decide +kernel
theorem dX5_fewest_5 : decode cX5_fewest 5 = .ok (.getfield 106, 3) := by decide +kernel
theorem dX5_fewest_8 : decode cX5_fewest 8 = .ok (.ishl, 1) := by decide +kernel
theorem dX5_fewest_9 : decode cX5_fewest 9 = .ok (.iconst 1, 1) := by decide +kernel
theorem dX5_fewest_10 : decode cX5_fewest 10 = .ok (.isub, 1) := by decide +kernel
theorem dX5_fewest_11 : decode cX5_fewest 11 = .ok (.istore_n 1, 1) := by decide +kernel
theorem dX5_fewest_12 : decode cX5_fewest 12 = .ok (.aload_n 0, 1) := by decide +kernel
theorem dX5_fewest_13 : decode cX5_fewest 13 = .ok (.getfield 36, 3) := by decide +kernel
theorem dX5_fewest_16 : decode cX5_fewest 16 = .ok (.aload_n 0, 1) := by decide +kernel
theorem dX5_fewest_17 : decode cX5_fewest 17 = .ok (.getfield 12, 3) := by decide +kernel
theorem dX5_fewest_20 : decode cX5_fewest 20 = .ok (.iload_n 1, 1) := by decide +kernel
theorem dX5_fewest_21 : decode cX5_fewest 21 = .ok (.bipush (-9), 2) := by decide +kernel
theorem dX5_fewest_23 : decode cX5_fewest 23 = .ok (.invokevirtual 183, 3) := by decide +kernel
theorem dX5_fewest_26 : decode cX5_fewest 26 = .ok (.iload_n 1, 1) := by decide +kernel
theorem dX5_fewest_27 : decode cX5_fewest 27 = .ok (.istore_n 2, 1) := by decide +kernel
theorem dX5_fewest_28 : decode cX5_fewest 28 = .ok (.iconst 0, 1) := by decide +kernel
theorem dX5_fewest_29 : decode cX5_fewest 29 = .ok (.istore_n 3, 1) := by decide +kernel
theorem dX5_fewest_30 : decode cX5_fewest 30 = .ok (.iload_n 3, 1) := by decide +kernel
theorem dX5_fewest_31 : decode cX5_fewest 31 = .ok (.iload_n 1, 1) := by decide +kernel
theorem dX5_fewest_32 : decode cX5_fewest 32 = .ok (.if_icmp .ge 37, 3) := by decide +kernel
theorem dX5_fewest_35 : decode cX5_fewest 35 = .ok (.iload_n 3, 1) := by decide +kernel
theorem dX5_fewest_36 : decode cX5_fewest 36 = .ok (.invokestatic 186, 3) := by decide +kernel
theorem dX5_fewest_39 : decode cX5_fewest 39 = .ok (.iload_n 2, 1) := by decide +kernel
theorem dX5_fewest_40 : decode cX5_fewest 40 = .ok (.invokestatic 186, 3) := by decide +kernel
theorem dX5_fewest_43 : decode cX5_fewest 43 = .ok (.if_icmp .ge 20, 3) := by decide +kernel
theorem dX5_fewest_46 : decode cX5_fewest 46 = .ok (.aload_n 0, 1) := by decide +kernel
theorem dX5_fewest_47 : decode cX5_fewest 47 = .ok (.getfield 36, 3) := by decide +kernel
theorem dX5_fewest_50 : decode cX5_fewest 50 = .ok (.aload_n 0, 1) := by decide +kernel
theorem dX5_fewest_51 : decode cX5_fewest 51 = .ok (.getfield 12, 3) := by decide +kernel
theorem dX5_fewest_54 : decode cX5_fewest 54 = .ok (.iload_n 3, 1) := by decide +kernel
theorem dX5_fewest_55 : decode cX5_fewest 55 = .ok (.invokevirtual 191, 3) := by decide +kernel
theorem dX5_fewest_58 : decode cX5_fewest 58 = .ok (.ifCond .eq 5, 3) := by decide +kernel
theorem dX5_fewest_61 : decode cX5_fewest 61 = .ok (.iload_n 3, 1) := by decide +kernel
theorem dX5_fewest_62 : decode cX5_fewest 62 = .ok (.istore_n 2, 1) := by decide +kernel
theorem dX5_fewest_63 : decode cX5_fewest 63 = .ok (.iinc 3 1, 3) := by decide +kernel
theorem dX5_fewest_66 : decode cX5_fewest 66 = .ok (.goto (-36), 3) := by decide +kernel
theorem dX5_fewest_69 : decode cX5_fewest 69 = .ok (.iload_n 2, 1) := by decide +kernel
theorem dX5_fewest_70 : decode cX5_fewest 70 = .ok (.ireturn, 1) := by decide +kernel
theorem dX5_best_0 : decode cX5_best 0 = .ok (.iload_n 1, 1) := by decide +kernel
theorem dX5_best_1 : decode cX5_best 1 = .ok (.ifCond .lt 8, 3) := by decide +kernel
theorem dX5_best_4 : decode cX5_best 4 = .ok (.iload_n 1, 1) := by decide +kernel
theorem dX5_best_5 : decode cX5_best 5 = .ok (.iconst 2, 1) := by decide +kernel
theorem dX5_best_6 : decode cX5_best 6 = .ok (.if_icmp .le 5, 3) := by decide +kernel
theorem dX5_best_9 : decode cX5_best 9 = .ok (.iconst (-1), 1) := by decide +kernel
theorem dX5_best_10 : decode cX5_best 10 = .ok (.ireturn, 1) := by decide +kernel
theorem dX5_best_11 : decode cX5_best 11 = .ok (.aload_n 0, 1) := by decide +kernel
theorem dX5_best_12 : decode cX5_best 12 = .ok (.getfield 36, 3) := by decide +kernel
theorem dX5_best_15 : decode cX5_best 15 = .ok (.aload_n 0, 1) := by decide +kernel
theorem dX5_best_16 : decode cX5_best 16 = .ok (.getfield 12, 3) := by decide +kernel
theorem dX5_best_19 : decode cX5_best 19 = .ok (.aload_n 0, 1) := by decide +kernel
theorem dX5_best_20 : decode cX5_best 20 = .ok (.getfield 12, 3) := by decide +kernel
theorem dX5_best_23 : decode cX5_best 23 = .ok (.invokevirtual 154, 3) := by decide +kernel
theorem dX5_best_26 : decode cX5_best 26 = .ok (.bipush (-9), 2) := by decide +kernel
theorem dX5_best_28 : decode cX5_best 28 = .ok (.invokevirtual 183, 3) := by decide +kernel
theorem dX5_best_31 : decode cX5_best 31 = .ok (.bipush (-9), 2) := by decide +kernel
theorem dX5_best_33 : decode cX5_best 33 = .ok (.istore_n 2, 1) := by decide +kernel
theorem dX5_best_34 : decode cX5_best 34 = .ok (.bipush (-9), 2) := by decide +kernel
theorem dX5_best_36 : decode cX5_best 36 = .ok (.istore_n 3, 1) := by decide +kernel
theorem dX5_best_37 : decode cX5_best 37 = .ok (.bipush (-9), 2) := by decide +kernel
theorem dX5_best_39 : decode cX5_best 39 = .ok (.istore 4, 2) := by decide +kernel
theorem dX5_best_41 : decode cX5_best 41 = .ok (.iconst 0, 1) := by decide +kernel
theorem dX5_best_42 : decode cX5_best 42 = .ok (.istore 5, 2) := by decide +kernel
theorem dX5_best_44 : decode cX5_best 44 = .ok (.iload 5, 2) := by decide +kernel
theorem dX5_best_46 : decode cX5_best 46 = .ok (.aload_n 0, 1) := by decide +kernel
theorem dX5_best_47 : decode cX5_best 47 = .ok (.getfield 12, 3) := by decide +kernel
theorem dX5_best_50 : decode cX5_best 50 = .ok (.getfield 195, 3) := by decide +kernel
theorem dX5_best_53 : decode cX5_best 53 = .ok (.if_icmp .ge 83, 3) := by decide +kernel
theorem dX5_best_56 : decode cX5_best 56 = .ok (.iconst 0, 1) := by decide +kernel
theorem dX5_best_57 : decode cX5_best 57 = .ok (.istore 6, 2) := by decide +kernel
theorem dX5_best_59 : decode cX5_best 59 = .ok (.iload 6, 2) := by decide +kernel
theorem dX5_best_61 : decode cX5_best 61 = .ok (.aload_n 0, 1) := by decide +kernel
theorem dX5_best_62 : decode cX5_best 62 = .ok (.getfield 12, 3) := by decide +kernel
theorem dX5_best_65 : decode cX5_best 65 = .ok (.getfield 198, 3) := by decide +kernel
theorem dX5_best_68 : decode cX5_best 68 = .ok (.if_icmp .ge 62, 3) := by decide +kernel
theorem dX5_best_71 : decode cX5_best 71 = .ok (.aload_n 0, 1) := by decide +kernel
theorem dX5_best_72 : decode cX5_best 72 = .ok (.getfield 12, 3) := by decide +kernel
theorem dX5_best_75 : decode cX5_best 75 = .ok (.iload 6, 2) := by decide +kernel
theorem dX5_best_77 : decode cX5_best 77 = .ok (.iload 5, 2) := by decide +kernel
theorem dX5_best_79 : decode cX5_best 79 = .ok (.invokevirtual 103, 3) := by decide +kernel
theorem dX5_best_82 : decode cX5_best 82 = .ok (.ifCond .eq 8, 3) := by decide +kernel
theorem dX5_best_85 : decode cX5_best 85 = .ok (.bipush (-9), 2) := by decide +kernel
theorem dX5_best_87 : decode cX5_best 87 = .ok (.goto 18, 3) := by decide +kernel
theorem dX5_best_90 : decode cX5_best 90 = .ok (.aload_n 0, 1) := by decide +kernel
theorem dX5_best_91 : decode cX5_best 91 = .ok (.getfield 36, 3) := by decide +kernel
theorem dX5_best_94 : decode cX5_best 94 = .ok (.aload_n 0, 1) := by decide +kernel
theorem dX5_best_95 : decode cX5_best 95 = .ok (.getfield 12, 3) := by decide +kernel
theorem dX5_best_98 : decode cX5_best 98 = .ok (.iload 6, 2) := by decide +kernel
theorem dX5_best_100 : decode cX5_best 100 = .ok (.iload 5, 2) := by decide +kernel
theorem dX5_best_102 : decode cX5_best 102 = .ok (.invokevirtual 201, 3) := by decide +kernel
theorem dX5_best_105 : decode cX5_best 105 = .ok (.istore 7, 2) := by decide +kernel
theorem dX5_best_107 : decode cX5_best 107 = .ok (.iload 7, 2) := by decide +kernel
theorem dX5_best_109 : decode cX5_best 109 = .ok (.iload 4, 2) := by decide +kernel
theorem dX5_best_111 : decode cX5_best 111 = .ok (.if_icmp .le 13, 3) := by decide +kernel
theorem dX5_best_114 : decode cX5_best 114 = .ok (.iload 6, 2) := by decide +kernel
theorem dX5_best_116 : decode cX5_best 116 = .ok (.istore_n 2, 1) := by decide +kernel
theorem dX5_best_117 : decode cX5_best 117 = .ok (.iload 5, 2) := by decide +kernel
theorem dX5_best_119 : decode cX5_best 119 = .ok (.istore_n 3, 1) := by decide +kernel
theorem dX5_best_120 : decode cX5_best 120 = .ok (.iload 7, 2) := by decide +kernel
theorem dX5_best_122 : decode cX5_best 122 = .ok (.istore 4, 2) := by decide +kernel
theorem dX5_best_124 : decode cX5_best 124 = .ok (.iinc 6 1, 3) := by decide +kernel
theorem dX5_best_127 : decode cX5_best 127 = .ok (.goto (-68), 3) := by decide +kernel
theorem dX5_best_130 : decode cX5_best 130 = .ok (.iinc 5 1, 3) := by decide +kernel
theorem dX5_best_133 : decode cX5_best 133 = .ok (.goto (-89), 3) := by decide +kernel
theorem dX5_best_136 : decode cX5_best 136 = .ok (.iload_n 1, 1) := by decide +kernel
theorem dX5_best_137 : decode cX5_best 137 = .ok (.ifCond .ne 7, 3) := by decide +kernel
theorem dX5_best_140 : decode cX5_best 140 = .ok (.iload_n 2, 1) := by decide +kernel
theorem dX5_best_141 : decode cX5_best 141 = .ok (.goto 14, 3) := by decide +kernel
theorem dX5_best_144 : decode cX5_best 144 = .ok (.iload_n 1, 1) := by decide +kernel
theorem dX5_best_145 : decode cX5_best 145 = .ok (.iconst 1, 1) := by decide +kernel
theorem dX5_best_146 : decode cX5_best 146 = .ok (.if_icmp .ne 7, 3) := by decide +kernel
theorem dX5_best_149 : decode cX5_best 149 = .ok (.iload_n 3, 1) := by decide +kernel
theorem dX5_best_150 : decode cX5_best 150 = .ok (.goto 5, 3) := by decide +kernel
theorem dX5_best_153 : decode cX5_best 153 = .ok (.iload 4, 2) := by decide +kernel
theorem dX5_best_155 : decode cX5_best 155 = .ok (.ireturn, 1) := by decide +kernel
theorem dX5_gain_0 : decode cX5_gain 0 = .ok (.aload_n 0, 1) := by decide +kernel
theorem dX5_gain_1 : decode cX5_gain 1 = .ok (.getfield 12, 3) := by decide +kernel
theorem dX5_gain_4 : decode cX5_gain 4 = .ok (.iload_n 1, 1) := by decide +kernel
theorem dX5_gain_5 : decode cX5_gain 5 = .ok (.invokevirtual 134, 3) := by decide +kernel
theorem dX5_gain_8 : decode cX5_gain 8 = .ok (.ifCond .ne 5, 3) := by decide +kernel
theorem dX5_gain_11 : decode cX5_gain 11 = .ok (.iconst (-1), 1) := by decide +kernel
theorem dX5_gain_12 : decode cX5_gain 12 = .ok (.ireturn, 1) := by decide +kernel
theorem dX5_gain_13 : decode cX5_gain 13 = .ok (.aload_n 0, 1) := by decide +kernel
theorem dX5_gain_14 : decode cX5_gain 14 = .ok (.iload_n 1, 1) := by decide +kernel
theorem dX5_gain_15 : decode cX5_gain 15 = .ok (.invokevirtual 204, 3) := by decide +kernel
theorem dX5_gain_18 : decode cX5_gain 18 = .ok (.aload_n 0, 1) := by decide +kernel
theorem dX5_gain_19 : decode cX5_gain 19 = .ok (.bipush (-9), 2) := by decide +kernel
theorem dX5_gain_21 : decode cX5_gain 21 = .ok (.invokevirtual 204, 3) := by decide +kernel
theorem dX5_gain_24 : decode cX5_gain 24 = .ok (.isub, 1) := by decide +kernel
theorem dX5_gain_25 : decode cX5_gain 25 = .ok (.ireturn, 1) := by decide +kernel
theorem dX5_worst_0 : decode cX5_worst 0 = .ok (.bipush (-9), 2) := by decide +kernel
theorem dX5_worst_2 : decode cX5_worst 2 = .ok (.istore_n 1, 1) := by decide +kernel
theorem dX5_worst_3 : decode cX5_worst 3 = .ok (.iconst 0, 1) := by decide +kernel
theorem dX5_worst_4 : decode cX5_worst 4 = .ok (.istore_n 2, 1) := by decide +kernel
theorem dX5_worst_5 : decode cX5_worst 5 = .ok (.iconst 4, 1) := by decide +kernel
theorem dX5_worst_6 : decode cX5_worst 6 = .ok (.istore_n 3, 1) := by decide +kernel
theorem dX5_worst_7 : decode cX5_worst 7 = .ok (.iload_n 3, 1) := by decide +kernel
theorem dX5_worst_8 : decode cX5_worst 8 = .ok (.aload_n 0, 1) := by decide +kernel
theorem dX5_worst_9 : decode cX5_worst 9 = .ok (.getfield 12, 3) := by decide +kernel
theorem dX5_worst_12 : decode cX5_worst 12 = .ok (.getfield 127, 3) := by decide +kernel
theorem dX5_worst_15 : decode cX5_worst 15 = .ok (.if_icmp .ge 33, 3) := by decide +kernel
theorem dX5_worst_18 : decode cX5_worst 18 = .ok (.aload_n 0, 1) := by decide +kernel
theorem dX5_worst_19 : decode cX5_worst 19 = .ok (.iload_n 3, 1) := by decide +kernel
theorem dX5_worst_20 : decode cX5_worst 20 = .ok (.invokevirtual 204, 3) := by decide +kernel
theorem dX5_worst_23 : decode cX5_worst 23 = .ok (.istore 4, 2) := by decide +kernel
theorem dX5_worst_25 : decode cX5_worst 25 = .ok (.iload_n 1, 1) := by decide +kernel
theorem dX5_worst_26 : decode cX5_worst 26 = .ok (.bipush (-9), 2) := by decide +kernel
theorem dX5_worst_28 : decode cX5_worst 28 = .ok (.if_icmp .eq 9, 3) := by decide +kernel
theorem dX5_worst_31 : decode cX5_worst 31 = .ok (.iload 4, 2) := by decide +kernel
theorem dX5_worst_33 : decode cX5_worst 33 = .ok (.iload_n 2, 1) := by decide +kernel
theorem dX5_worst_34 : decode cX5_worst 34 = .ok (.if_icmp .le 8, 3) := by decide +kernel
theorem dX5_worst_37 : decode cX5_worst 37 = .ok (.iload_n 3, 1) := by decide +kernel
theorem dX5_worst_38 : decode cX5_worst 38 = .ok (.istore_n 1, 1) := by decide +kernel
theorem dX5_worst_39 : decode cX5_worst 39 = .ok (.iload 4, 2) := by decide +kernel
theorem dX5_worst_41 : decode cX5_worst 41 = .ok (.istore_n 2, 1) := by decide +kernel
theorem dX5_worst_42 : decode cX5_worst 42 = .ok (.iinc 3 1, 3) := by decide +kernel
theorem dX5_worst_45 : decode cX5_worst 45 = .ok (.goto (-38), 3) := by decide +kernel
theorem dX5_worst_48 : decode cX5_worst 48 = .ok (.iload_n 1, 1) := by decide +kernel
theorem dX5_worst_49 : decode cX5_worst 49 = .ok (.ireturn, 1) := by decide +kernel
theorem dX5_litWithout_0 : decode cX5_litWithout 0 = .ok (.aload_n 0, 1) := by decide +kernel
theorem dX5_litWithout_1 : decode cX5_litWithout 1 = .ok (.getfield 36, 3) := by decide +kernel
theorem dX5_litWithout_4 : decode cX5_litWithout 4 = .ok (.aload_n 0, 1) := by decide +kernel
theorem dX5_litWithout_5 : decode cX5_litWithout 5 = .ok (.getfield 12, 3) := by decide +kernel
theorem dX5_litWithout_8 : decode cX5_litWithout 8 = .ok (.aload_n 0, 1) := by decide +kernel
theorem dX5_litWithout_9 : decode cX5_litWithout 9 = .ok (.getfield 12, 3) := by decide +kernel
theorem dX5_litWithout_12 : decode cX5_litWithout 12 = .ok (.invokevirtual 154, 3) := by decide +kernel
theorem dX5_litWithout_15 : decode cX5_litWithout 15 = .ok (.iload_n 1, 1) := by decide +kernel
theorem dX5_litWithout_16 : decode cX5_litWithout 16 = .ok (.invokevirtual 151, 3) := by decide +kernel
theorem dX5_litWithout_19 : decode cX5_litWithout 19 = .ok (.ireturn, 1) := by decide +kernel
theorem dX5_sees_0 : decode cX5_sees 0 = .ok (.aload_n 0, 1) := by decide +kernel
theorem dX5_sees_1 : decode cX5_sees 1 = .ok (.getfield 12, 3) := by decide +kernel
theorem dX5_sees_4 : decode cX5_sees 4 = .ok (.iload_n 1, 1) := by decide +kernel
theorem dX5_sees_5 : decode cX5_sees 5 = .ok (.iload_n 2, 1) := by decide +kernel
theorem dX5_sees_6 : decode cX5_sees 6 = .ok (.invokevirtual 99, 3) := by decide +kernel
theorem dX5_sees_9 : decode cX5_sees 9 = .ok (.ifCond .eq 12, 3) := by decide +kernel
theorem dX5_sees_12 : decode cX5_sees 12 = .ok (.iload_n 3, 1) := by decide +kernel
theorem dX5_sees_13 : decode cX5_sees 13 = .ok (.ifCond .lt 8, 3) := by decide +kernel
theorem dX5_sees_16 : decode cX5_sees 16 = .ok (.iload_n 3, 1) := by decide +kernel
theorem dX5_sees_17 : decode cX5_sees 17 = .ok (.iconst 1, 1) := by decide +kernel
theorem dX5_sees_18 : decode cX5_sees 18 = .ok (.if_icmp .le 5, 3) := by decide +kernel
theorem dX5_sees_21 : decode cX5_sees 21 = .ok (.iconst (-1), 1) := by decide +kernel
theorem dX5_sees_22 : decode cX5_sees 22 = .ok (.ireturn, 1) := by decide +kernel
theorem dX5_sees_23 : decode cX5_sees 23 = .ok (.aload_n 0, 1) := by decide +kernel
theorem dX5_sees_24 : decode cX5_sees 24 = .ok (.getfield 82, 3) := by decide +kernel
theorem dX5_sees_27 : decode cX5_sees 27 = .ok (.bipush 6, 2) := by decide +kernel
theorem dX5_sees_29 : decode cX5_sees 29 = .ok (.if_icmp .lt 6, 3) := by decide +kernel
theorem dX5_sees_32 : decode cX5_sees 32 = .ok (.bipush (-3), 2) := by decide +kernel
theorem dX5_sees_34 : decode cX5_sees 34 = .ok (.ireturn, 1) := by decide +kernel
theorem dX5_sees_35 : decode cX5_sees 35 = .ok (.aload_n 0, 1) := by decide +kernel
theorem dX5_sees_36 : decode cX5_sees 36 = .ok (.getfield 82, 3) := by decide +kernel
theorem dX5_sees_39 : decode cX5_sees 39 = .ok (.iconst 3, 1) := by decide +kernel
theorem dX5_sees_40 : decode cX5_sees 40 = .ok (.imul, 1) := by decide +kernel
theorem dX5_sees_41 : decode cX5_sees 41 = .ok (.istore 4, 2) := by decide +kernel
theorem dX5_sees_43 : decode cX5_sees 43 = .ok (.aload_n 0, 1) := by decide +kernel
theorem dX5_sees_44 : decode cX5_sees 44 = .ok (.getfield 55, 3) := by decide +kernel
theorem dX5_sees_47 : decode cX5_sees 47 = .ok (.iload 4, 2) := by decide +kernel
theorem dX5_sees_49 : decode cX5_sees 49 = .ok (.iconst 0, 1) := by decide +kernel
theorem dX5_sees_50 : decode cX5_sees 50 = .ok (.iadd, 1) := by decide +kernel
theorem dX5_sees_51 : decode cX5_sees 51 = .ok (.iload_n 1, 1) := by decide +kernel
theorem dX5_sees_52 : decode cX5_sees 52 = .ok (.iastore, 1) := by decide +kernel
theorem dX5_sees_53 : decode cX5_sees 53 = .ok (.aload_n 0, 1) := by decide +kernel
theorem dX5_sees_54 : decode cX5_sees 54 = .ok (.getfield 55, 3) := by decide +kernel
theorem dX5_sees_57 : decode cX5_sees 57 = .ok (.iload 4, 2) := by decide +kernel
theorem dX5_sees_59 : decode cX5_sees 59 = .ok (.iconst 1, 1) := by decide +kernel
theorem dX5_sees_60 : decode cX5_sees 60 = .ok (.iadd, 1) := by decide +kernel
theorem dX5_sees_61 : decode cX5_sees 61 = .ok (.iload_n 2, 1) := by decide +kernel
theorem dX5_sees_62 : decode cX5_sees 62 = .ok (.iastore, 1) := by decide +kernel
theorem dX5_sees_63 : decode cX5_sees 63 = .ok (.aload_n 0, 1) := by decide +kernel
theorem dX5_sees_64 : decode cX5_sees 64 = .ok (.getfield 55, 3) := by decide +kernel
theorem dX5_sees_67 : decode cX5_sees 67 = .ok (.iload 4, 2) := by decide +kernel
theorem dX5_sees_69 : decode cX5_sees 69 = .ok (.iconst 2, 1) := by decide +kernel
theorem dX5_sees_70 : decode cX5_sees 70 = .ok (.iadd, 1) := by decide +kernel
theorem dX5_sees_71 : decode cX5_sees 71 = .ok (.iload_n 3, 1) := by decide +kernel
theorem dX5_sees_72 : decode cX5_sees 72 = .ok (.iastore, 1) := by decide +kernel
theorem dX5_sees_73 : decode cX5_sees 73 = .ok (.aload_n 0, 1) := by decide +kernel
theorem dX5_sees_74 : decode cX5_sees 74 = .ok (.dup, 1) := by decide +kernel
theorem dX5_sees_75 : decode cX5_sees 75 = .ok (.getfield 82, 3) := by decide +kernel
theorem dX5_sees_78 : decode cX5_sees 78 = .ok (.iconst 1, 1) := by decide +kernel
theorem dX5_sees_79 : decode cX5_sees 79 = .ok (.iadd, 1) := by decide +kernel
theorem dX5_sees_80 : decode cX5_sees 80 = .ok (.putfield 82, 3) := by decide +kernel
theorem dX5_sees_83 : decode cX5_sees 83 = .ok (.aload_n 0, 1) := by decide +kernel
theorem dX5_sees_84 : decode cX5_sees 84 = .ok (.getfield 82, 3) := by decide +kernel
theorem dX5_sees_87 : decode cX5_sees 87 = .ok (.ireturn, 1) := by decide +kernel
theorem dX5_forget_0 : decode cX5_forget 0 = .ok (.aload_n 0, 1) := by decide +kernel
theorem dX5_forget_1 : decode cX5_forget 1 = .ok (.getfield 82, 3) := by decide +kernel
theorem dX5_forget_4 : decode cX5_forget 4 = .ok (.istore_n 1, 1) := by decide +kernel
theorem dX5_forget_5 : decode cX5_forget 5 = .ok (.aload_n 0, 1) := by decide +kernel
theorem dX5_forget_6 : decode cX5_forget 6 = .ok (.iconst 0, 1) := by decide +kernel
theorem dX5_forget_7 : decode cX5_forget 7 = .ok (.putfield 82, 3) := by decide +kernel
theorem dX5_forget_10 : decode cX5_forget 10 = .ok (.iload_n 1, 1) := by decide +kernel
theorem dX5_forget_11 : decode cX5_forget 11 = .ok (.ireturn, 1) := by decide +kernel
theorem dX5_unseen_0 : decode cX5_unseen 0 = .ok (.aload_n 0, 1) := by decide +kernel
theorem dX5_unseen_1 : decode cX5_unseen 1 = .ok (.getfield 12, 3) := by decide +kernel
theorem dX5_unseen_4 : decode cX5_unseen 4 = .ok (.invokevirtual 154, 3) := by decide +kernel
theorem dX5_unseen_7 : decode cX5_unseen 7 = .ok (.istore_n 1, 1) := by decide +kernel
theorem dX5_unseen_8 : decode cX5_unseen 8 = .ok (.iconst 0, 1) := by decide +kernel
theorem dX5_unseen_9 : decode cX5_unseen 9 = .ok (.istore_n 2, 1) := by decide +kernel
theorem dX5_unseen_10 : decode cX5_unseen 10 = .ok (.iload_n 2, 1) := by decide +kernel
theorem dX5_unseen_11 : decode cX5_unseen 11 = .ok (.aload_n 0, 1) := by decide +kernel
theorem dX5_unseen_12 : decode cX5_unseen 12 = .ok (.getfield 82, 3) := by decide +kernel
theorem dX5_unseen_15 : decode cX5_unseen 15 = .ok (.if_icmp .ge 19, 3) := by decide +kernel
theorem dX5_unseen_18 : decode cX5_unseen 18 = .ok (.iload_n 1, 1) := by decide +kernel
theorem dX5_unseen_19 : decode cX5_unseen 19 = .ok (.aload_n 0, 1) := by decide +kernel
theorem dX5_unseen_20 : decode cX5_unseen 20 = .ok (.iload_n 2, 1) := by decide +kernel
theorem dX5_unseen_21 : decode cX5_unseen 21 = .ok (.iconst 3, 1) := by decide +kernel
theorem dX5_unseen_22 : decode cX5_unseen 22 = .ok (.imul, 1) := by decide +kernel
theorem dX5_unseen_23 : decode cX5_unseen 23 = .ok (.invokevirtual 207, 3) := by decide +kernel
theorem dX5_unseen_26 : decode cX5_unseen 26 = .ok (.iand, 1) := by decide +kernel
theorem dX5_unseen_27 : decode cX5_unseen 27 = .ok (.istore_n 1, 1) := by decide +kernel
theorem dX5_unseen_28 : decode cX5_unseen 28 = .ok (.iinc 2 1, 3) := by decide +kernel
theorem dX5_unseen_31 : decode cX5_unseen 31 = .ok (.goto (-21), 3) := by decide +kernel
theorem dX5_unseen_34 : decode cX5_unseen 34 = .ok (.iload_n 1, 1) := by decide +kernel
theorem dX5_unseen_35 : decode cX5_unseen 35 = .ok (.ireturn, 1) := by decide +kernel
theorem dX5_lampsThatMayBeOut_0 : decode cX5_lampsThatMayBeOut 0 = .ok (.aload_n 0, 1) := by decide +kernel
theorem dX5_lampsThatMayBeOut_1 : decode cX5_lampsThatMayBeOut 1 = .ok (.getfield 12, 3) := by decide +kernel
theorem dX5_lampsThatMayBeOut_4 : decode cX5_lampsThatMayBeOut 4 = .ok (.aload_n 0, 1) := by decide +kernel
theorem dX5_lampsThatMayBeOut_5 : decode cX5_lampsThatMayBeOut 5 = .ok (.getfield 55, 3) := by decide +kernel
theorem dX5_lampsThatMayBeOut_8 : decode cX5_lampsThatMayBeOut 8 = .ok (.iload_n 1, 1) := by decide +kernel
theorem dX5_lampsThatMayBeOut_9 : decode cX5_lampsThatMayBeOut 9 = .ok (.iconst 0, 1) := by decide +kernel
theorem dX5_lampsThatMayBeOut_10 : decode cX5_lampsThatMayBeOut 10 = .ok (.iadd, 1) := by decide +kernel
theorem dX5_lampsThatMayBeOut_11 : decode cX5_lampsThatMayBeOut 11 = .ok (.iaload, 1) := by decide +kernel
theorem dX5_lampsThatMayBeOut_12 : decode cX5_lampsThatMayBeOut 12 = .ok (.aload_n 0, 1) := by decide +kernel
theorem dX5_lampsThatMayBeOut_13 : decode cX5_lampsThatMayBeOut 13 = .ok (.getfield 55, 3) := by decide +kernel
theorem dX5_lampsThatMayBeOut_16 : decode cX5_lampsThatMayBeOut 16 = .ok (.iload_n 1, 1) := by decide +kernel
theorem dX5_lampsThatMayBeOut_17 : decode cX5_lampsThatMayBeOut 17 = .ok (.iconst 1, 1) := by decide +kernel
theorem dX5_lampsThatMayBeOut_18 : decode cX5_lampsThatMayBeOut 18 = .ok (.iadd, 1) := by decide +kernel
theorem dX5_lampsThatMayBeOut_19 : decode cX5_lampsThatMayBeOut 19 = .ok (.iaload, 1) := by decide +kernel
theorem dX5_lampsThatMayBeOut_20 : decode cX5_lampsThatMayBeOut 20 = .ok (.invokestatic 147, 3) := by decide +kernel
theorem dX5_lampsThatMayBeOut_23 : decode cX5_lampsThatMayBeOut 23 = .ok (.istore_n 2, 1) := by decide +kernel
theorem dX5_lampsThatMayBeOut_24 : decode cX5_lampsThatMayBeOut 24 = .ok (.iconst 0, 1) := by decide +kernel
theorem dX5_lampsThatMayBeOut_25 : decode cX5_lampsThatMayBeOut 25 = .ok (.istore_n 3, 1) := by decide +kernel
theorem dX5_lampsThatMayBeOut_26 : decode cX5_lampsThatMayBeOut 26 = .ok (.iconst 0, 1) := by decide +kernel
theorem dX5_lampsThatMayBeOut_27 : decode cX5_lampsThatMayBeOut 27 = .ok (.istore 4, 2) := by decide +kernel
theorem dX5_lampsThatMayBeOut_29 : decode cX5_lampsThatMayBeOut 29 = .ok (.iload 4, 2) := by decide +kernel
theorem dX5_lampsThatMayBeOut_31 : decode cX5_lampsThatMayBeOut 31 = .ok (.aload_n 0, 1) := by decide +kernel
theorem dX5_lampsThatMayBeOut_32 : decode cX5_lampsThatMayBeOut 32 = .ok (.getfield 12, 3) := by decide +kernel
theorem dX5_lampsThatMayBeOut_35 : decode cX5_lampsThatMayBeOut 35 = .ok (.getfield 106, 3) := by decide +kernel
theorem dX5_lampsThatMayBeOut_38 : decode cX5_lampsThatMayBeOut 38 = .ok (.if_icmp .ge 47, 3) := by decide +kernel
theorem dX5_lampsThatMayBeOut_41 : decode cX5_lampsThatMayBeOut 41 = .ok (.iload_n 2, 1) := by decide +kernel
theorem dX5_lampsThatMayBeOut_42 : decode cX5_lampsThatMayBeOut 42 = .ok (.iconst 1, 1) := by decide +kernel
theorem dX5_lampsThatMayBeOut_43 : decode cX5_lampsThatMayBeOut 43 = .ok (.iload 4, 2) := by decide +kernel
theorem dX5_lampsThatMayBeOut_45 : decode cX5_lampsThatMayBeOut 45 = .ok (.ishl, 1) := by decide +kernel
theorem dX5_lampsThatMayBeOut_46 : decode cX5_lampsThatMayBeOut 46 = .ok (.iconst (-1), 1) := by decide +kernel
theorem dX5_lampsThatMayBeOut_47 : decode cX5_lampsThatMayBeOut 47 = .ok (.ixor, 1) := by decide +kernel
theorem dX5_lampsThatMayBeOut_48 : decode cX5_lampsThatMayBeOut 48 = .ok (.iand, 1) := by decide +kernel
theorem dX5_lampsThatMayBeOut_49 : decode cX5_lampsThatMayBeOut 49 = .ok (.ifCond .eq 7, 3) := by decide +kernel
theorem dX5_lampsThatMayBeOut_52 : decode cX5_lampsThatMayBeOut 52 = .ok (.iconst 1, 1) := by decide +kernel
theorem dX5_lampsThatMayBeOut_53 : decode cX5_lampsThatMayBeOut 53 = .ok (.goto 4, 3) := by decide +kernel
theorem dX5_lampsThatMayBeOut_56 : decode cX5_lampsThatMayBeOut 56 = .ok (.iconst 0, 1) := by decide +kernel
theorem dX5_lampsThatMayBeOut_57 : decode cX5_lampsThatMayBeOut 57 = .ok (.istore 5, 2) := by decide +kernel
theorem dX5_lampsThatMayBeOut_59 : decode cX5_lampsThatMayBeOut 59 = .ok (.iload 5, 2) := by decide +kernel
theorem dX5_lampsThatMayBeOut_61 : decode cX5_lampsThatMayBeOut 61 = .ok (.aload_n 0, 1) := by decide +kernel
theorem dX5_lampsThatMayBeOut_62 : decode cX5_lampsThatMayBeOut 62 = .ok (.getfield 55, 3) := by decide +kernel
theorem dX5_lampsThatMayBeOut_65 : decode cX5_lampsThatMayBeOut 65 = .ok (.iload_n 1, 1) := by decide +kernel
theorem dX5_lampsThatMayBeOut_66 : decode cX5_lampsThatMayBeOut 66 = .ok (.iconst 2, 1) := by decide +kernel
theorem dX5_lampsThatMayBeOut_67 : decode cX5_lampsThatMayBeOut 67 = .ok (.iadd, 1) := by decide +kernel
theorem dX5_lampsThatMayBeOut_68 : decode cX5_lampsThatMayBeOut 68 = .ok (.iaload, 1) := by decide +kernel
theorem dX5_lampsThatMayBeOut_69 : decode cX5_lampsThatMayBeOut 69 = .ok (.if_icmp .ne 10, 3) := by decide +kernel
theorem dX5_lampsThatMayBeOut_72 : decode cX5_lampsThatMayBeOut 72 = .ok (.iload_n 3, 1) := by decide +kernel
theorem dX5_lampsThatMayBeOut_73 : decode cX5_lampsThatMayBeOut 73 = .ok (.iconst 1, 1) := by decide +kernel
theorem dX5_lampsThatMayBeOut_74 : decode cX5_lampsThatMayBeOut 74 = .ok (.iload 4, 2) := by decide +kernel
theorem dX5_lampsThatMayBeOut_76 : decode cX5_lampsThatMayBeOut 76 = .ok (.ishl, 1) := by decide +kernel
theorem dX5_lampsThatMayBeOut_77 : decode cX5_lampsThatMayBeOut 77 = .ok (.ior, 1) := by decide +kernel
theorem dX5_lampsThatMayBeOut_78 : decode cX5_lampsThatMayBeOut 78 = .ok (.istore_n 3, 1) := by decide +kernel
theorem dX5_lampsThatMayBeOut_79 : decode cX5_lampsThatMayBeOut 79 = .ok (.iinc 4 1, 3) := by decide +kernel
theorem dX5_lampsThatMayBeOut_82 : decode cX5_lampsThatMayBeOut 82 = .ok (.goto (-53), 3) := by decide +kernel
theorem dX5_lampsThatMayBeOut_85 : decode cX5_lampsThatMayBeOut 85 = .ok (.iload_n 3, 1) := by decide +kernel
theorem dX5_lampsThatMayBeOut_86 : decode cX5_lampsThatMayBeOut 86 = .ok (.ireturn, 1) := by decide +kernel
theorem dX5_keep_0 : decode cX5_keep 0 = .ok (.iload_n 1, 1) := by decide +kernel
theorem dX5_keep_1 : decode cX5_keep 1 = .ok (.ifCond .lt 8, 3) := by decide +kernel
theorem dX5_keep_4 : decode cX5_keep 4 = .ok (.iload_n 1, 1) := by decide +kernel
theorem dX5_keep_5 : decode cX5_keep 5 = .ok (.iconst 2, 1) := by decide +kernel
theorem dX5_keep_6 : decode cX5_keep 6 = .ok (.if_icmp .lt 5, 3) := by decide +kernel
theorem dX5_keep_9 : decode cX5_keep 9 = .ok (.iconst (-1), 1) := by decide +kernel
theorem dX5_keep_10 : decode cX5_keep 10 = .ok (.ireturn, 1) := by decide +kernel
theorem dX5_keep_11 : decode cX5_keep 11 = .ok (.aload_n 0, 1) := by decide +kernel
theorem dX5_keep_12 : decode cX5_keep 12 = .ok (.getfield 47, 3) := by decide +kernel
theorem dX5_keep_15 : decode cX5_keep 15 = .ok (.iload_n 1, 1) := by decide +kernel
theorem dX5_keep_16 : decode cX5_keep 16 = .ok (.aaload, 1) := by decide +kernel
theorem dX5_keep_17 : decode cX5_keep 17 = .ok (.aload_n 0, 1) := by decide +kernel
theorem dX5_keep_18 : decode cX5_keep 18 = .ok (.getfield 12, 3) := by decide +kernel
theorem dX5_keep_21 : decode cX5_keep 21 = .ok (.invokevirtual 75, 3) := by decide +kernel
theorem dX5_keep_24 : decode cX5_keep 24 = .ok (.aload_n 0, 1) := by decide +kernel
theorem dX5_keep_25 : decode cX5_keep 25 = .ok (.getfield 51, 3) := by decide +kernel
theorem dX5_keep_28 : decode cX5_keep 28 = .ok (.iload_n 1, 1) := by decide +kernel
theorem dX5_keep_29 : decode cX5_keep 29 = .ok (.iconst 1, 1) := by decide +kernel
theorem dX5_keep_30 : decode cX5_keep 30 = .ok (.bastore, 1) := by decide +kernel
theorem dX5_keep_31 : decode cX5_keep 31 = .ok (.aload_n 0, 1) := by decide +kernel
theorem dX5_keep_32 : decode cX5_keep 32 = .ok (.getfield 12, 3) := by decide +kernel
theorem dX5_keep_35 : decode cX5_keep 35 = .ok (.getfield 106, 3) := by decide +kernel
theorem dX5_keep_38 : decode cX5_keep 38 = .ok (.ireturn, 1) := by decide +kernel
theorem dX5_back_0 : decode cX5_back 0 = .ok (.iload_n 1, 1) := by decide +kernel
theorem dX5_back_1 : decode cX5_back 1 = .ok (.ifCond .lt 8, 3) := by decide +kernel
theorem dX5_back_4 : decode cX5_back 4 = .ok (.iload_n 1, 1) := by decide +kernel
theorem dX5_back_5 : decode cX5_back 5 = .ok (.iconst 2, 1) := by decide +kernel
theorem dX5_back_6 : decode cX5_back 6 = .ok (.if_icmp .lt 5, 3) := by decide +kernel
theorem dX5_back_9 : decode cX5_back 9 = .ok (.iconst (-1), 1) := by decide +kernel
theorem dX5_back_10 : decode cX5_back 10 = .ok (.ireturn, 1) := by decide +kernel
theorem dX5_back_11 : decode cX5_back 11 = .ok (.aload_n 0, 1) := by decide +kernel
theorem dX5_back_12 : decode cX5_back 12 = .ok (.getfield 51, 3) := by decide +kernel
theorem dX5_back_15 : decode cX5_back 15 = .ok (.iload_n 1, 1) := by decide +kernel
theorem dX5_back_16 : decode cX5_back 16 = .ok (.baload, 1) := by decide +kernel
theorem dX5_back_17 : decode cX5_back 17 = .ok (.ifCond .ne 6, 3) := by decide +kernel
theorem dX5_back_20 : decode cX5_back 20 = .ok (.bipush (-2), 2) := by decide +kernel
theorem dX5_back_22 : decode cX5_back 22 = .ok (.ireturn, 1) := by decide +kernel
theorem dX5_back_23 : decode cX5_back 23 = .ok (.aload_n 0, 1) := by decide +kernel
theorem dX5_back_24 : decode cX5_back 24 = .ok (.getfield 12, 3) := by decide +kernel
theorem dX5_back_27 : decode cX5_back 27 = .ok (.aload_n 0, 1) := by decide +kernel
theorem dX5_back_28 : decode cX5_back 28 = .ok (.getfield 47, 3) := by decide +kernel
theorem dX5_back_31 : decode cX5_back 31 = .ok (.iload_n 1, 1) := by decide +kernel
theorem dX5_back_32 : decode cX5_back 32 = .ok (.aaload, 1) := by decide +kernel
theorem dX5_back_33 : decode cX5_back 33 = .ok (.invokevirtual 75, 3) := by decide +kernel
theorem dX5_back_36 : decode cX5_back 36 = .ok (.aload_n 0, 1) := by decide +kernel
theorem dX5_back_37 : decode cX5_back 37 = .ok (.getfield 29, 3) := by decide +kernel
theorem dX5_back_40 : decode cX5_back 40 = .ok (.iconst 0, 1) := by decide +kernel
theorem dX5_back_41 : decode cX5_back 41 = .ok (.putfield 79, 3) := by decide +kernel
theorem dX5_back_44 : decode cX5_back 44 = .ok (.aload_n 0, 1) := by decide +kernel
theorem dX5_back_45 : decode cX5_back 45 = .ok (.getfield 12, 3) := by decide +kernel
theorem dX5_back_48 : decode cX5_back 48 = .ok (.getfield 106, 3) := by decide +kernel
theorem dX5_back_51 : decode cX5_back 51 = .ok (.ireturn, 1) := by decide +kernel
theorem dX5_count_0 : decode cX5_count 0 = .ok (.iload_n 1, 1) := by decide +kernel
theorem dX5_count_1 : decode cX5_count 1 = .ok (.tableswitch 96 0 6 #[43, 51, 59, 67, 75, 80, 88], 43) := by decide +kernel
theorem dX5_count_44 : decode cX5_count 44 = .ok (.aload_n 0, 1) := by decide +kernel
theorem dX5_count_45 : decode cX5_count 45 = .ok (.getfield 12, 3) := by decide +kernel
theorem dX5_count_48 : decode cX5_count 48 = .ok (.getfield 198, 3) := by decide +kernel
theorem dX5_count_51 : decode cX5_count 51 = .ok (.ireturn, 1) := by decide +kernel
theorem dX5_count_52 : decode cX5_count 52 = .ok (.aload_n 0, 1) := by decide +kernel
theorem dX5_count_53 : decode cX5_count 53 = .ok (.getfield 12, 3) := by decide +kernel
theorem dX5_count_56 : decode cX5_count 56 = .ok (.getfield 195, 3) := by decide +kernel
theorem dX5_count_59 : decode cX5_count 59 = .ok (.ireturn, 1) := by decide +kernel
theorem dX5_count_60 : decode cX5_count 60 = .ok (.aload_n 0, 1) := by decide +kernel
theorem dX5_count_61 : decode cX5_count 61 = .ok (.getfield 12, 3) := by decide +kernel
theorem dX5_count_64 : decode cX5_count 64 = .ok (.getfield 127, 3) := by decide +kernel
theorem dX5_count_67 : decode cX5_count 67 = .ok (.ireturn, 1) := by decide +kernel
theorem dX5_count_68 : decode cX5_count 68 = .ok (.aload_n 0, 1) := by decide +kernel
theorem dX5_count_69 : decode cX5_count 69 = .ok (.getfield 12, 3) := by decide +kernel
theorem dX5_count_72 : decode cX5_count 72 = .ok (.getfield 106, 3) := by decide +kernel
theorem dX5_count_75 : decode cX5_count 75 = .ok (.ireturn, 1) := by decide +kernel
theorem dX5_count_76 : decode cX5_count 76 = .ok (.aload_n 0, 1) := by decide +kernel
theorem dX5_count_77 : decode cX5_count 77 = .ok (.getfield 82, 3) := by decide +kernel
theorem dX5_count_80 : decode cX5_count 80 = .ok (.ireturn, 1) := by decide +kernel
theorem dX5_count_81 : decode cX5_count 81 = .ok (.aload_n 0, 1) := by decide +kernel
theorem dX5_count_82 : decode cX5_count 82 = .ok (.getfield 22, 3) := by decide +kernel
theorem dX5_count_85 : decode cX5_count 85 = .ok (.getfield 63, 3) := by decide +kernel
theorem dX5_count_88 : decode cX5_count 88 = .ok (.ireturn, 1) := by decide +kernel
theorem dX5_count_89 : decode cX5_count 89 = .ok (.aload_n 0, 1) := by decide +kernel
theorem dX5_count_90 : decode cX5_count 90 = .ok (.getfield 29, 3) := by decide +kernel
theorem dX5_count_93 : decode cX5_count 93 = .ok (.getfield 79, 3) := by decide +kernel
theorem dX5_count_96 : decode cX5_count 96 = .ok (.ireturn, 1) := by decide +kernel
theorem dX5_count_97 : decode cX5_count 97 = .ok (.iconst (-1), 1) := by decide +kernel
theorem dX5_count_98 : decode cX5_count 98 = .ok (.ireturn, 1) := by decide +kernel
theorem dX6_init_0 : decode cX6_init 0 = .ok (.aload_n 0, 1) := by decide +kernel
theorem dX6_init_1 : decode cX6_init 1 = .ok (.invokespecial 1, 3) := by decide +kernel
theorem dX6_init_4 : decode cX6_init 4 = .ok (.aload_n 0, 1) := by decide +kernel
theorem dX6_init_5 : decode cX6_init 5 = .ok (.bipush 82, 2) := by decide +kernel
theorem dX6_init_7 : decode cX6_init 7 = .ok (.newarray .int, 2) := by decide +kernel
theorem dX6_init_9 : decode cX6_init 9 = .ok (.putfield 7, 3) := by decide +kernel
theorem dX6_init_12 : decode cX6_init 12 = .ok (.aload_n 0, 1) := by decide +kernel
theorem dX6_init_13 : decode cX6_init 13 = .ok (.sipush 820, 3) := by decide +kernel
theorem dX6_init_16 : decode cX6_init 16 = .ok (.newarray .int, 2) := by decide +kernel
theorem dX6_init_18 : decode cX6_init 18 = .ok (.putfield 13, 3) := by decide +kernel
theorem dX6_init_21 : decode cX6_init 21 = .ok (.aload_n 0, 1) := by decide +kernel
theorem dX6_init_22 : decode cX6_init 22 = .ok (.sipush 164, 3) := by decide +kernel
theorem dX6_init_25 : decode cX6_init 25 = .ok (.newarray .int, 2) := by decide +kernel
theorem dX6_init_27 : decode cX6_init 27 = .ok (.putfield 16, 3) := by decide +kernel
theorem dX6_init_30 : decode cX6_init 30 = .ok (.aload_n 0, 1) := by decide +kernel
theorem dX6_init_31 : decode cX6_init 31 = .ok (.iconst 2, 1) := by decide +kernel
theorem dX6_init_32 : decode cX6_init 32 = .ok (.newarray .boolean, 2) := by decide +kernel
theorem dX6_init_34 : decode cX6_init 34 = .ok (.putfield 19, 3) := by decide +kernel
theorem dX6_init_37 : decode cX6_init 37 = .ok (.aload_n 0, 1) := by decide +kernel
theorem dX6_init_38 : decode cX6_init 38 = .ok (.bipush 6, 2) := by decide +kernel
theorem dX6_init_40 : decode cX6_init 40 = .ok (.newarray .int, 2) := by decide +kernel
theorem dX6_init_42 : decode cX6_init 42 = .ok (.putfield 23, 3) := by decide +kernel
theorem dX6_init_45 : decode cX6_init 45 = .ok (.aload_n 0, 1) := by decide +kernel
theorem dX6_init_46 : decode cX6_init 46 = .ok (.bipush 6, 2) := by decide +kernel
theorem dX6_init_48 : decode cX6_init 48 = .ok (.newarray .int, 2) := by decide +kernel
theorem dX6_init_50 : decode cX6_init 50 = .ok (.putfield 26, 3) := by decide +kernel
theorem dX6_init_53 : decode cX6_init 53 = .ok (.aload_n 0, 1) := by decide +kernel
theorem dX6_init_54 : decode cX6_init 54 = .ok (.bipush 6, 2) := by decide +kernel
theorem dX6_init_56 : decode cX6_init 56 = .ok (.newarray .int, 2) := by decide +kernel
theorem dX6_init_58 : decode cX6_init 58 = .ok (.putfield 29, 3) := by decide +kernel
theorem dX6_init_61 : decode cX6_init 61 = .ok (.aload_n 0, 1) := by decide +kernel
theorem dX6_init_62 : decode cX6_init 62 = .ok (.bipush 120, 2) := by decide +kernel
theorem dX6_init_64 : decode cX6_init 64 = .ok (.newarray .int, 2) := by decide +kernel
theorem dX6_init_66 : decode cX6_init 66 = .ok (.putfield 32, 3) := by decide +kernel
theorem dX6_init_69 : decode cX6_init 69 = .ok (.aload_n 0, 1) := by decide +kernel
theorem dX6_init_70 : decode cX6_init 70 = .ok (.bipush 56, 2) := by decide +kernel
theorem dX6_init_72 : decode cX6_init 72 = .ok (.newarray .int, 2) := by decide +kernel
theorem dX6_init_74 : decode cX6_init 74 = .ok (.putfield 35, 3) := by decide +kernel
theorem dX6_init_77 : decode cX6_init 77 = .ok (.aload_n 0, 1) := by decide +kernel
theorem dX6_init_78 : decode cX6_init 78 = .ok (.bipush 16, 2) := by decide +kernel
theorem dX6_init_80 : decode cX6_init 80 = .ok (.newarray .int, 2) := by decide +kernel
theorem dX6_init_82 : decode cX6_init 82 = .ok (.putfield 38, 3) := by decide +kernel
theorem dX6_init_85 : decode cX6_init 85 = .ok (.aload_n 0, 1) := by decide +kernel
theorem dX6_init_86 : decode cX6_init 86 = .ok (.sipush 128, 3) := by decide +kernel
theorem dX6_init_89 : decode cX6_init 89 = .ok (.newarray .int, 2) := by decide +kernel
theorem dX6_init_91 : decode cX6_init 91 = .ok (.putfield 41, 3) := by decide +kernel
theorem dX6_init_94 : decode cX6_init 94 = .ok (.aload_n 0, 1) := by decide +kernel
theorem dX6_init_95 : decode cX6_init 95 = .ok (.sipush 128, 3) := by decide +kernel
theorem dX6_init_98 : decode cX6_init 98 = .ok (.newarray .int, 2) := by decide +kernel
theorem dX6_init_100 : decode cX6_init 100 = .ok (.putfield 44, 3) := by decide +kernel
theorem dX6_init_103 : decode cX6_init 103 = .ok (.aload_n 0, 1) := by decide +kernel
theorem dX6_init_104 : decode cX6_init 104 = .ok (.bipush 81, 2) := by decide +kernel
theorem dX6_init_106 : decode cX6_init 106 = .ok (.newarray .int, 2) := by decide +kernel
theorem dX6_init_108 : decode cX6_init 108 = .ok (.putfield 47, 3) := by decide +kernel
theorem dX6_init_111 : decode cX6_init 111 = .ok (.aload_n 0, 1) := by decide +kernel
theorem dX6_init_112 : decode cX6_init 112 = .ok (.invokevirtual 50, 3) := by decide +kernel
theorem dX6_init_115 : decode cX6_init 115 = .ok (.aload_n 0, 1) := by decide +kernel
theorem dX6_init_116 : decode cX6_init 116 = .ok (.invokevirtual 53, 3) := by decide +kernel
theorem dX6_init_119 : decode cX6_init 119 = .ok (.return_, 1) := by decide +kernel
theorem dX6_in_0 : decode cX6_in 0 = .ok (.iload_n 0, 1) := by decide +kernel
theorem dX6_in_1 : decode cX6_in 1 = .ok (.iload_n 1, 1) := by decide +kernel
theorem dX6_in_2 : decode cX6_in 2 = .ok (.if_icmp .lt 12, 3) := by decide +kernel
theorem dX6_in_5 : decode cX6_in 5 = .ok (.iload_n 0, 1) := by decide +kernel
theorem dX6_in_6 : decode cX6_in 6 = .ok (.iload_n 2, 1) := by decide +kernel
theorem dX6_in_7 : decode cX6_in 7 = .ok (.if_icmp .gt 7, 3) := by decide +kernel
theorem dX6_in_10 : decode cX6_in 10 = .ok (.iconst 1, 1) := by decide +kernel
theorem dX6_in_11 : decode cX6_in 11 = .ok (.goto 4, 3) := by decide +kernel
theorem dX6_in_14 : decode cX6_in 14 = .ok (.iconst 0, 1) := by decide +kernel
theorem dX6_in_15 : decode cX6_in 15 = .ok (.ireturn, 1) := by decide +kernel
theorem dX6_size_0 : decode cX6_size 0 = .ok (.iload_n 0, 1) := by decide +kernel
theorem dX6_size_1 : decode cX6_size 1 = .ok (.ifCond .ge 8, 3) := by decide +kernel
theorem dX6_size_4 : decode cX6_size 4 = .ok (.iload_n 0, 1) := by decide +kernel
theorem dX6_size_5 : decode cX6_size 5 = .ok (.ineg, 1) := by decide +kernel
theorem dX6_size_6 : decode cX6_size 6 = .ok (.goto 4, 3) := by decide +kernel
theorem dX6_size_9 : decode cX6_size 9 = .ok (.iload_n 0, 1) := by decide +kernel
theorem dX6_size_10 : decode cX6_size 10 = .ok (.ireturn, 1) := by decide +kernel
theorem dX6_isSpot_0 : decode cX6_isSpot 0 = .ok (.iload_n 1, 1) := by decide +kernel
theorem dX6_isSpot_1 : decode cX6_isSpot 1 = .ok (.iconst 0, 1) := by decide +kernel
theorem dX6_isSpot_2 : decode cX6_isSpot 2 = .ok (.aload_n 0, 1) := by decide +kernel
theorem dX6_isSpot_3 : decode cX6_isSpot 3 = .ok (.getfield 60, 3) := by decide +kernel
theorem dX6_isSpot_6 : decode cX6_isSpot 6 = .ok (.iconst 1, 1) := by decide +kernel
theorem dX6_isSpot_7 : decode cX6_isSpot 7 = .ok (.isub, 1) := by decide +kernel
theorem dX6_isSpot_8 : decode cX6_isSpot 8 = .ok (.invokestatic 63, 3) := by decide +kernel
theorem dX6_isSpot_11 : decode cX6_isSpot 11 = .ok (.ifCond .eq 21, 3) := by decide +kernel
theorem dX6_isSpot_14 : decode cX6_isSpot 14 = .ok (.iload_n 2, 1) := by decide +kernel
theorem dX6_isSpot_15 : decode cX6_isSpot 15 = .ok (.iconst 0, 1) := by decide +kernel
theorem dX6_isSpot_16 : decode cX6_isSpot 16 = .ok (.aload_n 0, 1) := by decide +kernel
theorem dX6_isSpot_17 : decode cX6_isSpot 17 = .ok (.getfield 67, 3) := by decide +kernel
theorem dX6_isSpot_20 : decode cX6_isSpot 20 = .ok (.iconst 1, 1) := by decide +kernel
theorem dX6_isSpot_21 : decode cX6_isSpot 21 = .ok (.isub, 1) := by decide +kernel
theorem dX6_isSpot_22 : decode cX6_isSpot 22 = .ok (.invokestatic 63, 3) := by decide +kernel
theorem dX6_isSpot_25 : decode cX6_isSpot 25 = .ok (.ifCond .eq 7, 3) := by decide +kernel
theorem dX6_isSpot_28 : decode cX6_isSpot 28 = .ok (.iconst 1, 1) := by decide +kernel
theorem dX6_isSpot_29 : decode cX6_isSpot 29 = .ok (.goto 4, 3) := by decide +kernel
theorem dX6_isSpot_32 : decode cX6_isSpot 32 = .ok (.iconst 0, 1) := by decide +kernel
theorem dX6_isSpot_33 : decode cX6_isSpot 33 = .ok (.ireturn, 1) := by decide +kernel
theorem dX6_isLamp_0 : decode cX6_isLamp 0 = .ok (.iload_n 1, 1) := by decide +kernel
theorem dX6_isLamp_1 : decode cX6_isLamp 1 = .ok (.iconst 0, 1) := by decide +kernel
theorem dX6_isLamp_2 : decode cX6_isLamp 2 = .ok (.aload_n 0, 1) := by decide +kernel
theorem dX6_isLamp_3 : decode cX6_isLamp 3 = .ok (.getfield 7, 3) := by decide +kernel
theorem dX6_isLamp_6 : decode cX6_isLamp 6 = .ok (.iconst 0, 1) := by decide +kernel
theorem dX6_isLamp_7 : decode cX6_isLamp 7 = .ok (.iaload, 1) := by decide +kernel
theorem dX6_isLamp_8 : decode cX6_isLamp 8 = .ok (.iconst 1, 1) := by decide +kernel
theorem dX6_isLamp_9 : decode cX6_isLamp 9 = .ok (.isub, 1) := by decide +kernel
theorem dX6_isLamp_10 : decode cX6_isLamp 10 = .ok (.invokestatic 63, 3) := by decide +kernel
theorem dX6_isLamp_13 : decode cX6_isLamp 13 = .ok (.ireturn, 1) := by decide +kernel
theorem dX6_isWall_0 : decode cX6_isWall 0 = .ok (.iload_n 1, 1) := by decide +kernel
theorem dX6_isWall_1 : decode cX6_isWall 1 = .ok (.iconst 0, 1) := by decide +kernel
theorem dX6_isWall_2 : decode cX6_isWall 2 = .ok (.aload_n 0, 1) := by decide +kernel
theorem dX6_isWall_3 : decode cX6_isWall 3 = .ok (.getfield 7, 3) := by decide +kernel
theorem dX6_isWall_6 : decode cX6_isWall 6 = .ok (.iconst 1, 1) := by decide +kernel
theorem dX6_isWall_7 : decode cX6_isWall 7 = .ok (.iaload, 1) := by decide +kernel
theorem dX6_isWall_8 : decode cX6_isWall 8 = .ok (.iconst 1, 1) := by decide +kernel
theorem dX6_isWall_9 : decode cX6_isWall 9 = .ok (.isub, 1) := by decide +kernel
theorem dX6_isWall_10 : decode cX6_isWall 10 = .ok (.invokestatic 63, 3) := by decide +kernel
theorem dX6_isWall_13 : decode cX6_isWall 13 = .ok (.ireturn, 1) := by decide +kernel
theorem dX6_ofLamp_0 : decode cX6_ofLamp 0 = .ok (.aload_n 0, 1) := by decide +kernel
theorem dX6_ofLamp_1 : decode cX6_ofLamp 1 = .ok (.getfield 7, 3) := by decide +kernel
theorem dX6_ofLamp_4 : decode cX6_ofLamp 4 = .ok (.iconst 2, 1) := by decide +kernel
theorem dX6_ofLamp_5 : decode cX6_ofLamp 5 = .ok (.iconst 3, 1) := by decide +kernel
theorem dX6_ofLamp_6 : decode cX6_ofLamp 6 = .ok (.iload_n 1, 1) := by decide +kernel
theorem dX6_ofLamp_7 : decode cX6_ofLamp 7 = .ok (.imul, 1) := by decide +kernel
theorem dX6_ofLamp_8 : decode cX6_ofLamp 8 = .ok (.iadd, 1) := by decide +kernel
theorem dX6_ofLamp_9 : decode cX6_ofLamp 9 = .ok (.iload_n 2, 1) := by decide +kernel
theorem dX6_ofLamp_10 : decode cX6_ofLamp 10 = .ok (.iadd, 1) := by decide +kernel
theorem dX6_ofLamp_11 : decode cX6_ofLamp 11 = .ok (.iaload, 1) := by decide +kernel
theorem dX6_ofLamp_12 : decode cX6_ofLamp 12 = .ok (.ireturn, 1) := by decide +kernel
theorem dX6_ofWall_0 : decode cX6_ofWall 0 = .ok (.aload_n 0, 1) := by decide +kernel
theorem dX6_ofWall_1 : decode cX6_ofWall 1 = .ok (.getfield 7, 3) := by decide +kernel
theorem dX6_ofWall_4 : decode cX6_ofWall 4 = .ok (.bipush 26, 2) := by decide +kernel
theorem dX6_ofWall_6 : decode cX6_ofWall 6 = .ok (.iconst 4, 1) := by decide +kernel
theorem dX6_ofWall_7 : decode cX6_ofWall 7 = .ok (.iload_n 1, 1) := by decide +kernel
theorem dX6_ofWall_8 : decode cX6_ofWall 8 = .ok (.imul, 1) := by decide +kernel
theorem dX6_ofWall_9 : decode cX6_ofWall 9 = .ok (.iadd, 1) := by decide +kernel
theorem dX6_ofWall_10 : decode cX6_ofWall 10 = .ok (.iload_n 2, 1) := by decide +kernel
theorem dX6_ofWall_11 : decode cX6_ofWall 11 = .ok (.iadd, 1) := by decide +kernel
theorem dX6_ofWall_12 : decode cX6_ofWall 12 = .ok (.iaload, 1) := by decide +kernel
theorem dX6_ofWall_13 : decode cX6_ofWall 13 = .ok (.ireturn, 1) := by decide +kernel
theorem dX6_lampAt_0 : decode cX6_lampAt 0 = .ok (.iconst 0, 1) := by decide +kernel
theorem dX6_lampAt_1 : decode cX6_lampAt 1 = .ok (.istore_n 3, 1) := by decide +kernel
theorem dX6_lampAt_2 : decode cX6_lampAt 2 = .ok (.iload_n 3, 1) := by decide +kernel
theorem dX6_lampAt_3 : decode cX6_lampAt 3 = .ok (.aload_n 0, 1) := by decide +kernel
theorem dX6_lampAt_4 : decode cX6_lampAt 4 = .ok (.getfield 7, 3) := by decide +kernel
theorem dX6_lampAt_7 : decode cX6_lampAt 7 = .ok (.iconst 0, 1) := by decide +kernel
theorem dX6_lampAt_8 : decode cX6_lampAt 8 = .ok (.iaload, 1) := by decide +kernel
theorem dX6_lampAt_9 : decode cX6_lampAt 9 = .ok (.if_icmp .ge 31, 3) := by decide +kernel
theorem dX6_lampAt_12 : decode cX6_lampAt 12 = .ok (.aload_n 0, 1) := by decide +kernel
theorem dX6_lampAt_13 : decode cX6_lampAt 13 = .ok (.iload_n 3, 1) := by decide +kernel
theorem dX6_lampAt_14 : decode cX6_lampAt 14 = .ok (.iconst 0, 1) := by decide +kernel
theorem dX6_lampAt_15 : decode cX6_lampAt 15 = .ok (.invokevirtual 70, 3) := by decide +kernel
theorem dX6_lampAt_18 : decode cX6_lampAt 18 = .ok (.iload_n 1, 1) := by decide +kernel
theorem dX6_lampAt_19 : decode cX6_lampAt 19 = .ok (.if_icmp .ne 15, 3) := by decide +kernel
theorem dX6_lampAt_22 : decode cX6_lampAt 22 = .ok (.aload_n 0, 1) := by decide +kernel
theorem dX6_lampAt_23 : decode cX6_lampAt 23 = .ok (.iload_n 3, 1) := by decide +kernel
theorem dX6_lampAt_24 : decode cX6_lampAt 24 = .ok (.iconst 1, 1) := by decide +kernel
theorem dX6_lampAt_25 : decode cX6_lampAt 25 = .ok (.invokevirtual 70, 3) := by decide +kernel
theorem dX6_lampAt_28 : decode cX6_lampAt 28 = .ok (.iload_n 2, 1) := by decide +kernel
theorem dX6_lampAt_29 : decode cX6_lampAt 29 = .ok (.if_icmp .ne 5, 3) := by decide +kernel
theorem dX6_lampAt_32 : decode cX6_lampAt 32 = .ok (.iload_n 3, 1) := by decide +kernel
theorem dX6_lampAt_33 : decode cX6_lampAt 33 = .ok (.ireturn, 1) := by decide +kernel
theorem dX6_lampAt_34 : decode cX6_lampAt 34 = .ok (.iinc 3 1, 3) := by decide +kernel
theorem dX6_lampAt_37 : decode cX6_lampAt 37 = .ok (.goto (-35), 3) := by decide +kernel
theorem dX6_lampAt_40 : decode cX6_lampAt 40 = .ok (.bipush (-9), 2) := by decide +kernel
theorem dX6_lampAt_42 : decode cX6_lampAt 42 = .ok (.ireturn, 1) := by decide +kernel
theorem dX6_type_0 : decode cX6_type 0 = .ok (.aload_n 0, 1) := by decide +kernel
theorem dX6_type_1 : decode cX6_type 1 = .ok (.iconst 0, 1) := by decide +kernel
theorem dX6_type_2 : decode cX6_type 2 = .ok (.putfield 56, 3) := by decide +kernel
theorem dX6_type_5 : decode cX6_type 5 = .ok (.iload_n 1, 1) := by decide +kernel
theorem dX6_type_6 : decode cX6_type 6 = .ok (.iconst 0, 1) := by decide +kernel
theorem dX6_type_7 : decode cX6_type 7 = .ok (.sipush 255, 3) := by decide +kernel
theorem dX6_type_10 : decode cX6_type 10 = .ok (.invokestatic 63, 3) := by decide +kernel
theorem dX6_type_13 : decode cX6_type 13 = .ok (.ifCond .ne 5, 3) := by decide +kernel
theorem dX6_type_16 : decode cX6_type 16 = .ok (.iconst (-1), 1) := by decide +kernel
theorem dX6_type_17 : decode cX6_type 17 = .ok (.ireturn, 1) := by decide +kernel
theorem dX6_type_18 : decode cX6_type 18 = .ok (.aload_n 0, 1) := by decide +kernel
theorem dX6_type_19 : decode cX6_type 19 = .ok (.getfield 74, 3) := by decide +kernel
theorem dX6_type_22 : decode cX6_type 22 = .ok (.bipush 120, 2) := by decide +kernel
theorem dX6_type_24 : decode cX6_type 24 = .ok (.if_icmp .ne 6, 3) := by decide +kernel
theorem dX6_type_27 : decode cX6_type 27 = .ok (.bipush (-3), 2) := by decide +kernel
theorem dX6_type_29 : decode cX6_type 29 = .ok (.ireturn, 1) := by decide +kernel
theorem dX6_type_30 : decode cX6_type 30 = .ok (.aload_n 0, 1) := by decide +kernel
theorem dX6_type_31 : decode cX6_type 31 = .ok (.getfield 32, 3) := by decide +kernel
theorem dX6_type_34 : decode cX6_type 34 = .ok (.aload_n 0, 1) := by decide +kernel
theorem dX6_type_35 : decode cX6_type 35 = .ok (.getfield 74, 3) := by decide +kernel
theorem dX6_type_38 : decode cX6_type 38 = .ok (.iload_n 1, 1) := by decide +kernel
theorem dX6_type_39 : decode cX6_type 39 = .ok (.iastore, 1) := by decide +kernel
theorem dX6_type_40 : decode cX6_type 40 = .ok (.aload_n 0, 1) := by decide +kernel
theorem dX6_type_41 : decode cX6_type 41 = .ok (.dup, 1) := by decide +kernel
theorem dX6_type_42 : decode cX6_type 42 = .ok (.getfield 74, 3) := by decide +kernel
theorem dX6_type_45 : decode cX6_type 45 = .ok (.iconst 1, 1) := by decide +kernel
theorem dX6_type_46 : decode cX6_type 46 = .ok (.iadd, 1) := by decide +kernel
theorem dX6_type_47 : decode cX6_type 47 = .ok (.putfield 74, 3) := by decide +kernel
theorem dX6_type_50 : decode cX6_type 50 = .ok (.aload_n 0, 1) := by decide +kernel
theorem dX6_type_51 : decode cX6_type 51 = .ok (.getfield 74, 3) := by decide +kernel
theorem dX6_type_54 : decode cX6_type 54 = .ok (.ireturn, 1) := by decide +kernel
theorem dX6_clear_0 : decode cX6_clear 0 = .ok (.aload_n 0, 1) := by decide +kernel
theorem dX6_clear_1 : decode cX6_clear 1 = .ok (.iconst 0, 1) := by decide +kernel
theorem dX6_clear_2 : decode cX6_clear 2 = .ok (.putfield 56, 3) := by decide +kernel
theorem dX6_clear_5 : decode cX6_clear 5 = .ok (.aload_n 0, 1) := by decide +kernel
theorem dX6_clear_6 : decode cX6_clear 6 = .ok (.getfield 74, 3) := by decide +kernel
theorem dX6_clear_9 : decode cX6_clear 9 = .ok (.istore_n 1, 1) := by decide +kernel
theorem dX6_clear_10 : decode cX6_clear 10 = .ok (.aload_n 0, 1) := by decide +kernel
theorem dX6_clear_11 : decode cX6_clear 11 = .ok (.iconst 0, 1) := by decide +kernel
theorem dX6_clear_12 : decode cX6_clear 12 = .ok (.putfield 74, 3) := by decide +kernel
theorem dX6_clear_15 : decode cX6_clear 15 = .ok (.iload_n 1, 1) := by decide +kernel
theorem dX6_clear_16 : decode cX6_clear 16 = .ok (.ireturn, 1) := by decide +kernel
theorem dX6_isFigure_0 : decode cX6_isFigure 0 = .ok (.iload_n 1, 1) := by decide +kernel
theorem dX6_isFigure_1 : decode cX6_isFigure 1 = .ok (.aload_n 0, 1) := by decide +kernel
theorem dX6_isFigure_2 : decode cX6_isFigure 2 = .ok (.getfield 74, 3) := by decide +kernel
theorem dX6_isFigure_5 : decode cX6_isFigure 5 = .ok (.if_icmp .ge 23, 3) := by decide +kernel
theorem dX6_isFigure_8 : decode cX6_isFigure 8 = .ok (.aload_n 0, 1) := by decide +kernel
theorem dX6_isFigure_9 : decode cX6_isFigure 9 = .ok (.getfield 32, 3) := by decide +kernel
theorem dX6_isFigure_12 : decode cX6_isFigure 12 = .ok (.iload_n 1, 1) := by decide +kernel
theorem dX6_isFigure_13 : decode cX6_isFigure 13 = .ok (.iaload, 1) := by decide +kernel
theorem dX6_isFigure_14 : decode cX6_isFigure 14 = .ok (.bipush 48, 2) := by decide +kernel
theorem dX6_isFigure_16 : decode cX6_isFigure 16 = .ok (.bipush 57, 2) := by decide +kernel
theorem dX6_isFigure_18 : decode cX6_isFigure 18 = .ok (.invokestatic 63, 3) := by decide +kernel
theorem dX6_isFigure_21 : decode cX6_isFigure 21 = .ok (.ifCond .eq 7, 3) := by decide +kernel
theorem dX6_isFigure_24 : decode cX6_isFigure 24 = .ok (.iconst 1, 1) := by decide +kernel
theorem dX6_isFigure_25 : decode cX6_isFigure 25 = .ok (.goto 4, 3) := by decide +kernel
theorem dX6_isFigure_28 : decode cX6_isFigure 28 = .ok (.iconst 0, 1) := by decide +kernel
theorem dX6_isFigure_29 : decode cX6_isFigure 29 = .ok (.ireturn, 1) := by decide +kernel
theorem dX6_steps_0 : decode cX6_steps 0 = .ok (.aload_n 0, 1) := by decide +kernel
theorem dX6_steps_1 : decode cX6_steps 1 = .ok (.getfield 77, 3) := by decide +kernel
theorem dX6_steps_4 : decode cX6_steps 4 = .ok (.aload_n 0, 1) := by decide +kernel
theorem dX6_steps_5 : decode cX6_steps 5 = .ok (.getfield 74, 3) := by decide +kernel
theorem dX6_steps_8 : decode cX6_steps 8 = .ok (.if_icmp .ge 30, 3) := by decide +kernel
theorem dX6_steps_11 : decode cX6_steps 11 = .ok (.aload_n 0, 1) := by decide +kernel
theorem dX6_steps_12 : decode cX6_steps 12 = .ok (.getfield 32, 3) := by decide +kernel
theorem dX6_steps_15 : decode cX6_steps 15 = .ok (.aload_n 0, 1) := by decide +kernel
theorem dX6_steps_16 : decode cX6_steps 16 = .ok (.getfield 77, 3) := by decide +kernel
theorem dX6_steps_19 : decode cX6_steps 19 = .ok (.iaload, 1) := by decide +kernel
theorem dX6_steps_20 : decode cX6_steps 20 = .ok (.bipush 32, 2) := by decide +kernel
theorem dX6_steps_22 : decode cX6_steps 22 = .ok (.if_icmp .ne 16, 3) := by decide +kernel
theorem dX6_steps_25 : decode cX6_steps 25 = .ok (.aload_n 0, 1) := by decide +kernel
theorem dX6_steps_26 : decode cX6_steps 26 = .ok (.dup, 1) := by decide +kernel
theorem dX6_steps_27 : decode cX6_steps 27 = .ok (.getfield 77, 3) := by decide +kernel
theorem dX6_steps_30 : decode cX6_steps 30 = .ok (.iconst 1, 1) := by decide +kernel
theorem dX6_steps_31 : decode cX6_steps 31 = .ok (.iadd, 1) := by decide +kernel
theorem dX6_steps_32 : decode cX6_steps 32 = .ok (.putfield 77, 3) := by decide +kernel
theorem dX6_steps_35 : decode cX6_steps 35 = .ok (.goto (-35), 3) := by decide +kernel
theorem dX6_steps_38 : decode cX6_steps 38 = .ok (.aload_n 0, 1) := by decide +kernel
theorem dX6_steps_39 : decode cX6_steps 39 = .ok (.aload_n 0, 1) := by decide +kernel
theorem dX6_steps_40 : decode cX6_steps 40 = .ok (.getfield 77, 3) := by decide +kernel
theorem dX6_steps_43 : decode cX6_steps 43 = .ok (.putfield 80, 3) := by decide +kernel
theorem dX6_steps_46 : decode cX6_steps 46 = .ok (.aload_n 0, 1) := by decide +kernel
theorem dX6_steps_47 : decode cX6_steps 47 = .ok (.aload_n 0, 1) := by decide +kernel
theorem dX6_steps_48 : decode cX6_steps 48 = .ok (.getfield 77, 3) := by decide +kernel
theorem dX6_steps_51 : decode cX6_steps 51 = .ok (.aload_n 0, 1) := by decide +kernel
theorem dX6_steps_52 : decode cX6_steps 52 = .ok (.getfield 74, 3) := by decide +kernel
theorem dX6_steps_55 : decode cX6_steps 55 = .ok (.if_icmp .ge 15, 3) := by decide +kernel
theorem dX6_steps_58 : decode cX6_steps 58 = .ok (.aload_n 0, 1) := by decide +kernel
theorem dX6_steps_59 : decode cX6_steps 59 = .ok (.getfield 32, 3) := by decide +kernel
theorem dX6_steps_62 : decode cX6_steps 62 = .ok (.aload_n 0, 1) := by decide +kernel
theorem dX6_steps_63 : decode cX6_steps 63 = .ok (.getfield 77, 3) := by decide +kernel
theorem dX6_steps_66 : decode cX6_steps 66 = .ok (.iaload, 1) := by decide +kernel
theorem dX6_steps_67 : decode cX6_steps 67 = .ok (.goto 4, 3) := by decide +kernel
theorem dX6_steps_70 : decode cX6_steps 70 = .ok (.iconst (-1), 1) := by decide +kernel
theorem dX6_steps_71 : decode cX6_steps 71 = .ok (.putfield 83, 3) := by decide +kernel
theorem dX6_steps_74 : decode cX6_steps 74 = .ok (.aload_n 0, 1) := by decide +kernel
theorem dX6_steps_75 : decode cX6_steps 75 = .ok (.aload_n 0, 1) := by decide +kernel
theorem dX6_steps_76 : decode cX6_steps 76 = .ok (.getfield 77, 3) := by decide +kernel
theorem dX6_steps_79 : decode cX6_steps 79 = .ok (.invokevirtual 86, 3) := by decide +kernel
theorem dX6_steps_82 : decode cX6_steps 82 = .ok (.ifCond .ne 29, 3) := by decide +kernel
theorem dX6_steps_85 : decode cX6_steps 85 = .ok (.aload_n 0, 1) := by decide +kernel
theorem dX6_steps_86 : decode cX6_steps 86 = .ok (.dup, 1) := by decide +kernel
theorem dX6_steps_87 : decode cX6_steps 87 = .ok (.getfield 77, 3) := by decide +kernel
theorem dX6_steps_90 : decode cX6_steps 90 = .ok (.aload_n 0, 1) := by decide +kernel
theorem dX6_steps_91 : decode cX6_steps 91 = .ok (.getfield 77, 3) := by decide +kernel
theorem dX6_steps_94 : decode cX6_steps 94 = .ok (.aload_n 0, 1) := by decide +kernel
theorem dX6_steps_95 : decode cX6_steps 95 = .ok (.getfield 74, 3) := by decide +kernel
theorem dX6_steps_98 : decode cX6_steps 98 = .ok (.if_icmp .ge 7, 3) := by decide +kernel
theorem dX6_steps_101 : decode cX6_steps 101 = .ok (.iconst 1, 1) := by decide +kernel
theorem dX6_steps_102 : decode cX6_steps 102 = .ok (.goto 4, 3) := by decide +kernel
theorem dX6_steps_105 : decode cX6_steps 105 = .ok (.iconst 0, 1) := by decide +kernel
theorem dX6_steps_106 : decode cX6_steps 106 = .ok (.iadd, 1) := by decide +kernel
theorem dX6_steps_107 : decode cX6_steps 107 = .ok (.putfield 77, 3) := by decide +kernel
theorem dX6_steps_110 : decode cX6_steps 110 = .ok (.return_, 1) := by decide +kernel
theorem dX6_steps_111 : decode cX6_steps 111 = .ok (.aload_n 0, 1) := by decide +kernel
theorem dX6_steps_112 : decode cX6_steps 112 = .ok (.aload_n 0, 1) := by decide +kernel
theorem dX6_steps_113 : decode cX6_steps 113 = .ok (.getfield 77, 3) := by decide +kernel
theorem dX6_steps_116 : decode cX6_steps 116 = .ok (.invokevirtual 86, 3) := by decide +kernel
theorem dX6_steps_119 : decode cX6_steps 119 = .ok (.ifCond .eq 16, 3) := by decide +kernel
theorem dX6_steps_122 : decode cX6_steps 122 = .ok (.aload_n 0, 1) := by decide +kernel
theorem dX6_steps_123 : decode cX6_steps 123 = .ok (.dup, 1) := by decide +kernel
theorem dX6_steps_124 : decode cX6_steps 124 = .ok (.getfield 77, 3) := by decide +kernel
theorem dX6_steps_127 : decode cX6_steps 127 = .ok (.iconst 1, 1) := by decide +kernel
theorem dX6_steps_128 : decode cX6_steps 128 = .ok (.iadd, 1) := by decide +kernel
theorem dX6_steps_129 : decode cX6_steps 129 = .ok (.putfield 77, 3) := by decide +kernel
theorem dX6_steps_132 : decode cX6_steps 132 = .ok (.goto (-21), 3) := by decide +kernel
theorem dX6_steps_135 : decode cX6_steps 135 = .ok (.aload_n 0, 1) := by decide +kernel
theorem dX6_steps_136 : decode cX6_steps 136 = .ok (.aload_n 0, 1) := by decide +kernel
theorem dX6_steps_137 : decode cX6_steps 137 = .ok (.getfield 77, 3) := by decide +kernel
theorem dX6_steps_140 : decode cX6_steps 140 = .ok (.aload_n 0, 1) := by decide +kernel
theorem dX6_steps_141 : decode cX6_steps 141 = .ok (.getfield 80, 3) := by decide +kernel
theorem dX6_steps_144 : decode cX6_steps 144 = .ok (.iconst 1, 1) := by decide +kernel
theorem dX6_steps_145 : decode cX6_steps 145 = .ok (.iadd, 1) := by decide +kernel
theorem dX6_steps_146 : decode cX6_steps 146 = .ok (.if_icmp .le 9, 3) := by decide +kernel
theorem dX6_steps_149 : decode cX6_steps 149 = .ok (.sipush 2000, 3) := by decide +kernel
theorem dX6_steps_152 : decode cX6_steps 152 = .ok (.goto 19, 3) := by decide +kernel
theorem dX6_steps_155 : decode cX6_steps 155 = .ok (.sipush 1000, 3) := by decide +kernel
theorem dX6_steps_158 : decode cX6_steps 158 = .ok (.aload_n 0, 1) := by decide +kernel
theorem dX6_steps_159 : decode cX6_steps 159 = .ok (.getfield 32, 3) := by decide +kernel
theorem dX6_steps_162 : decode cX6_steps 162 = .ok (.aload_n 0, 1) := by decide +kernel
theorem dX6_steps_163 : decode cX6_steps 163 = .ok (.getfield 80, 3) := by decide +kernel
theorem dX6_steps_166 : decode cX6_steps 166 = .ok (.iaload, 1) := by decide +kernel
theorem dX6_steps_167 : decode cX6_steps 167 = .ok (.iadd, 1) := by decide +kernel
theorem dX6_steps_168 : decode cX6_steps 168 = .ok (.bipush 48, 2) := by decide +kernel
theorem dX6_steps_170 : decode cX6_steps 170 = .ok (.isub, 1) := by decide +kernel
theorem dX6_steps_171 : decode cX6_steps 171 = .ok (.putfield 83, 3) := by decide +kernel
theorem dX6_steps_174 : decode cX6_steps 174 = .ok (.return_, 1) := by decide +kernel
theorem dX6_reads_0 : decode cX6_reads 0 = .ok (.aload_n 0, 1) := by decide +kernel
theorem dX6_reads_1 : decode cX6_reads 1 = .ok (.invokevirtual 90, 3) := by decide +kernel
theorem dX6_reads_4 : decode cX6_reads 4 = .ok (.aload_n 0, 1) := by decide +kernel
theorem dX6_reads_5 : decode cX6_reads 5 = .ok (.aload_n 0, 1) := by decide +kernel
theorem dX6_reads_6 : decode cX6_reads 6 = .ok (.getfield 83, 3) := by decide +kernel
theorem dX6_reads_9 : decode cX6_reads 9 = .ok (.sipush 1000, 3) := by decide +kernel
theorem dX6_reads_12 : decode cX6_reads 12 = .ok (.isub, 1) := by decide +kernel
theorem dX6_reads_13 : decode cX6_reads 13 = .ok (.putfield 93, 3) := by decide +kernel
theorem dX6_reads_16 : decode cX6_reads 16 = .ok (.aload_n 0, 1) := by decide +kernel
theorem dX6_reads_17 : decode cX6_reads 17 = .ok (.getfield 93, 3) := by decide +kernel
theorem dX6_reads_20 : decode cX6_reads 20 = .ok (.iload_n 1, 1) := by decide +kernel
theorem dX6_reads_21 : decode cX6_reads 21 = .ok (.iload_n 2, 1) := by decide +kernel
theorem dX6_reads_22 : decode cX6_reads 22 = .ok (.invokestatic 63, 3) := by decide +kernel
theorem dX6_reads_25 : decode cX6_reads 25 = .ok (.ireturn, 1) := by decide +kernel
theorem dX6_readsPlan_0 : decode cX6_readsPlan 0 = .ok (.iload_n 1, 1) := by decide +kernel
theorem dX6_readsPlan_1 : decode cX6_readsPlan 1 = .ok (.ifCond .gt 13, 3) := by decide +kernel
theorem dX6_readsPlan_4 : decode cX6_readsPlan 4 = .ok (.aload_n 0, 1) := by decide +kernel
theorem dX6_readsPlan_5 : decode cX6_readsPlan 5 = .ok (.iconst 2, 1) := by decide +kernel
theorem dX6_readsPlan_6 : decode cX6_readsPlan 6 = .ok (.bipush 9, 2) := by decide +kernel
theorem dX6_readsPlan_8 : decode cX6_readsPlan 8 = .ok (.invokevirtual 96, 3) := by decide +kernel
theorem dX6_readsPlan_11 : decode cX6_readsPlan 11 = .ok (.ifCond .ne 5, 3) := by decide +kernel
theorem dX6_readsPlan_14 : decode cX6_readsPlan 14 = .ok (.iconst 0, 1) := by decide +kernel
theorem dX6_readsPlan_15 : decode cX6_readsPlan 15 = .ok (.ireturn, 1) := by decide +kernel
theorem dX6_readsPlan_16 : decode cX6_readsPlan 16 = .ok (.aload_n 0, 1) := by decide +kernel
theorem dX6_readsPlan_17 : decode cX6_readsPlan 17 = .ok (.aload_n 0, 1) := by decide +kernel
theorem dX6_readsPlan_18 : decode cX6_readsPlan 18 = .ok (.getfield 93, 3) := by decide +kernel
theorem dX6_readsPlan_21 : decode cX6_readsPlan 21 = .ok (.putfield 100, 3) := by decide +kernel
theorem dX6_readsPlan_24 : decode cX6_readsPlan 24 = .ok (.aload_n 0, 1) := by decide +kernel
theorem dX6_readsPlan_25 : decode cX6_readsPlan 25 = .ok (.iconst 2, 1) := by decide +kernel
theorem dX6_readsPlan_26 : decode cX6_readsPlan 26 = .ok (.bipush 9, 2) := by decide +kernel
theorem dX6_readsPlan_28 : decode cX6_readsPlan 28 = .ok (.invokevirtual 96, 3) := by decide +kernel
theorem dX6_readsPlan_31 : decode cX6_readsPlan 31 = .ok (.istore_n 2, 1) := by decide +kernel
theorem dX6_readsPlan_32 : decode cX6_readsPlan 32 = .ok (.aload_n 0, 1) := by decide +kernel
theorem dX6_readsPlan_33 : decode cX6_readsPlan 33 = .ok (.aload_n 0, 1) := by decide +kernel
theorem dX6_readsPlan_34 : decode cX6_readsPlan 34 = .ok (.getfield 93, 3) := by decide +kernel
theorem dX6_readsPlan_37 : decode cX6_readsPlan 37 = .ok (.putfield 103, 3) := by decide +kernel
theorem dX6_readsPlan_40 : decode cX6_readsPlan 40 = .ok (.iload_n 2, 1) := by decide +kernel
theorem dX6_readsPlan_41 : decode cX6_readsPlan 41 = .ok (.ireturn, 1) := by decide +kernel
theorem dX6_readsWall_0 : decode cX6_readsWall 0 = .ok (.aload_n 0, 1) := by decide +kernel
theorem dX6_readsWall_1 : decode cX6_readsWall 1 = .ok (.getfield 106, 3) := by decide +kernel
theorem dX6_readsWall_4 : decode cX6_readsWall 4 = .ok (.bipush 10, 2) := by decide +kernel
theorem dX6_readsWall_6 : decode cX6_readsWall 6 = .ok (.if_icmp .eq 19, 3) := by decide +kernel
theorem dX6_readsWall_9 : decode cX6_readsWall 9 = .ok (.aload_n 0, 1) := by decide +kernel
theorem dX6_readsWall_10 : decode cX6_readsWall 10 = .ok (.iconst 0, 1) := by decide +kernel
theorem dX6_readsWall_11 : decode cX6_readsWall 11 = .ok (.aload_n 0, 1) := by decide +kernel
theorem dX6_readsWall_12 : decode cX6_readsWall 12 = .ok (.getfield 100, 3) := by decide +kernel
theorem dX6_readsWall_15 : decode cX6_readsWall 15 = .ok (.iconst 1, 1) := by decide +kernel
theorem dX6_readsWall_16 : decode cX6_readsWall 16 = .ok (.isub, 1) := by decide +kernel
theorem dX6_readsWall_17 : decode cX6_readsWall 17 = .ok (.iload_n 1, 1) := by decide +kernel
theorem dX6_readsWall_18 : decode cX6_readsWall 18 = .ok (.iadd, 1) := by decide +kernel
theorem dX6_readsWall_19 : decode cX6_readsWall 19 = .ok (.invokevirtual 96, 3) := by decide +kernel
theorem dX6_readsWall_22 : decode cX6_readsWall 22 = .ok (.ifCond .ne 5, 3) := by decide +kernel
theorem dX6_readsWall_25 : decode cX6_readsWall 25 = .ok (.iconst 0, 1) := by decide +kernel
theorem dX6_readsWall_26 : decode cX6_readsWall 26 = .ok (.ireturn, 1) := by decide +kernel
theorem dX6_readsWall_27 : decode cX6_readsWall 27 = .ok (.iconst 4, 1) := by decide +kernel
theorem dX6_readsWall_28 : decode cX6_readsWall 28 = .ok (.aload_n 0, 1) := by decide +kernel
theorem dX6_readsWall_29 : decode cX6_readsWall 29 = .ok (.getfield 106, 3) := by decide +kernel
theorem dX6_readsWall_32 : decode cX6_readsWall 32 = .ok (.imul, 1) := by decide +kernel
theorem dX6_readsWall_33 : decode cX6_readsWall 33 = .ok (.istore_n 2, 1) := by decide +kernel
theorem dX6_readsWall_34 : decode cX6_readsWall 34 = .ok (.aload_n 0, 1) := by decide +kernel
theorem dX6_readsWall_35 : decode cX6_readsWall 35 = .ok (.getfield 35, 3) := by decide +kernel
theorem dX6_readsWall_38 : decode cX6_readsWall 38 = .ok (.iload_n 2, 1) := by decide +kernel
theorem dX6_readsWall_39 : decode cX6_readsWall 39 = .ok (.aload_n 0, 1) := by decide +kernel
theorem dX6_readsWall_40 : decode cX6_readsWall 40 = .ok (.getfield 93, 3) := by decide +kernel
theorem dX6_readsWall_43 : decode cX6_readsWall 43 = .ok (.iastore, 1) := by decide +kernel
theorem dX6_readsWall_44 : decode cX6_readsWall 44 = .ok (.aload_n 0, 1) := by decide +kernel
theorem dX6_readsWall_45 : decode cX6_readsWall 45 = .ok (.iconst 0, 1) := by decide +kernel
theorem dX6_readsWall_46 : decode cX6_readsWall 46 = .ok (.aload_n 0, 1) := by decide +kernel
theorem dX6_readsWall_47 : decode cX6_readsWall 47 = .ok (.getfield 103, 3) := by decide +kernel
theorem dX6_readsWall_50 : decode cX6_readsWall 50 = .ok (.iload_n 1, 1) := by decide +kernel
theorem dX6_readsWall_51 : decode cX6_readsWall 51 = .ok (.isub, 1) := by decide +kernel
theorem dX6_readsWall_52 : decode cX6_readsWall 52 = .ok (.invokevirtual 96, 3) := by decide +kernel
theorem dX6_readsWall_55 : decode cX6_readsWall 55 = .ok (.ifCond .ne 5, 3) := by decide +kernel
theorem dX6_readsWall_58 : decode cX6_readsWall 58 = .ok (.iconst 0, 1) := by decide +kernel
theorem dX6_readsWall_59 : decode cX6_readsWall 59 = .ok (.ireturn, 1) := by decide +kernel
theorem dX6_readsWall_60 : decode cX6_readsWall 60 = .ok (.aload_n 0, 1) := by decide +kernel
theorem dX6_readsWall_61 : decode cX6_readsWall 61 = .ok (.getfield 35, 3) := by decide +kernel
theorem dX6_readsWall_64 : decode cX6_readsWall 64 = .ok (.iload_n 2, 1) := by decide +kernel
theorem dX6_readsWall_65 : decode cX6_readsWall 65 = .ok (.iconst 1, 1) := by decide +kernel
theorem dX6_readsWall_66 : decode cX6_readsWall 66 = .ok (.iadd, 1) := by decide +kernel
theorem dX6_readsWall_67 : decode cX6_readsWall 67 = .ok (.aload_n 0, 1) := by decide +kernel
theorem dX6_readsWall_68 : decode cX6_readsWall 68 = .ok (.getfield 93, 3) := by decide +kernel
theorem dX6_readsWall_71 : decode cX6_readsWall 71 = .ok (.iastore, 1) := by decide +kernel
theorem dX6_readsWall_72 : decode cX6_readsWall 72 = .ok (.aload_n 0, 1) := by decide +kernel
theorem dX6_readsWall_73 : decode cX6_readsWall 73 = .ok (.iconst 1, 1) := by decide +kernel
theorem dX6_readsWall_74 : decode cX6_readsWall 74 = .ok (.iload_n 1, 1) := by decide +kernel
theorem dX6_readsWall_75 : decode cX6_readsWall 75 = .ok (.ifCond .ne 17, 3) := by decide +kernel
theorem dX6_readsWall_78 : decode cX6_readsWall 78 = .ok (.aload_n 0, 1) := by decide +kernel
theorem dX6_readsWall_79 : decode cX6_readsWall 79 = .ok (.getfield 100, 3) := by decide +kernel
theorem dX6_readsWall_82 : decode cX6_readsWall 82 = .ok (.aload_n 0, 1) := by decide +kernel
theorem dX6_readsWall_83 : decode cX6_readsWall 83 = .ok (.getfield 35, 3) := by decide +kernel
theorem dX6_readsWall_86 : decode cX6_readsWall 86 = .ok (.iload_n 2, 1) := by decide +kernel
theorem dX6_readsWall_87 : decode cX6_readsWall 87 = .ok (.iaload, 1) := by decide +kernel
theorem dX6_readsWall_88 : decode cX6_readsWall 88 = .ok (.isub, 1) := by decide +kernel
theorem dX6_readsWall_89 : decode cX6_readsWall 89 = .ok (.goto 16, 3) := by decide +kernel
theorem dX6_readsWall_92 : decode cX6_readsWall 92 = .ok (.aload_n 0, 1) := by decide +kernel
theorem dX6_readsWall_93 : decode cX6_readsWall 93 = .ok (.getfield 103, 3) := by decide +kernel
theorem dX6_readsWall_96 : decode cX6_readsWall 96 = .ok (.aload_n 0, 1) := by decide +kernel
theorem dX6_readsWall_97 : decode cX6_readsWall 97 = .ok (.getfield 35, 3) := by decide +kernel
theorem dX6_readsWall_100 : decode cX6_readsWall 100 = .ok (.iload_n 2, 1) := by decide +kernel
theorem dX6_readsWall_101 : decode cX6_readsWall 101 = .ok (.iconst 1, 1) := by decide +kernel
theorem dX6_readsWall_102 : decode cX6_readsWall 102 = .ok (.iadd, 1) := by decide +kernel
theorem dX6_readsWall_103 : decode cX6_readsWall 103 = .ok (.iaload, 1) := by decide +kernel
theorem dX6_readsWall_104 : decode cX6_readsWall 104 = .ok (.isub, 1) := by decide +kernel
theorem dX6_readsWall_105 : decode cX6_readsWall 105 = .ok (.invokevirtual 96, 3) := by decide +kernel
theorem dX6_readsWall_108 : decode cX6_readsWall 108 = .ok (.ifCond .ne 5, 3) := by decide +kernel
theorem dX6_readsWall_111 : decode cX6_readsWall 111 = .ok (.iconst 0, 1) := by decide +kernel
theorem dX6_readsWall_112 : decode cX6_readsWall 112 = .ok (.ireturn, 1) := by decide +kernel
theorem dX6_readsWall_113 : decode cX6_readsWall 113 = .ok (.aload_n 0, 1) := by decide +kernel
theorem dX6_readsWall_114 : decode cX6_readsWall 114 = .ok (.getfield 35, 3) := by decide +kernel
theorem dX6_readsWall_117 : decode cX6_readsWall 117 = .ok (.iload_n 2, 1) := by decide +kernel
theorem dX6_readsWall_118 : decode cX6_readsWall 118 = .ok (.iconst 2, 1) := by decide +kernel
theorem dX6_readsWall_119 : decode cX6_readsWall 119 = .ok (.iadd, 1) := by decide +kernel
theorem dX6_readsWall_120 : decode cX6_readsWall 120 = .ok (.aload_n 0, 1) := by decide +kernel
theorem dX6_readsWall_121 : decode cX6_readsWall 121 = .ok (.getfield 93, 3) := by decide +kernel
theorem dX6_readsWall_124 : decode cX6_readsWall 124 = .ok (.iastore, 1) := by decide +kernel
theorem dX6_readsWall_125 : decode cX6_readsWall 125 = .ok (.aload_n 0, 1) := by decide +kernel
theorem dX6_readsWall_126 : decode cX6_readsWall 126 = .ok (.getfield 35, 3) := by decide +kernel
theorem dX6_readsWall_129 : decode cX6_readsWall 129 = .ok (.iload_n 2, 1) := by decide +kernel
theorem dX6_readsWall_130 : decode cX6_readsWall 130 = .ok (.iconst 3, 1) := by decide +kernel
theorem dX6_readsWall_131 : decode cX6_readsWall 131 = .ok (.iadd, 1) := by decide +kernel
theorem dX6_readsWall_132 : decode cX6_readsWall 132 = .ok (.iload_n 1, 1) := by decide +kernel
theorem dX6_readsWall_133 : decode cX6_readsWall 133 = .ok (.iastore, 1) := by decide +kernel
theorem dX6_readsWall_134 : decode cX6_readsWall 134 = .ok (.aload_n 0, 1) := by decide +kernel
theorem dX6_readsWall_135 : decode cX6_readsWall 135 = .ok (.dup, 1) := by decide +kernel
theorem dX6_readsWall_136 : decode cX6_readsWall 136 = .ok (.getfield 106, 3) := by decide +kernel
theorem dX6_readsWall_139 : decode cX6_readsWall 139 = .ok (.iconst 1, 1) := by decide +kernel
theorem dX6_readsWall_140 : decode cX6_readsWall 140 = .ok (.iadd, 1) := by decide +kernel
theorem dX6_readsWall_141 : decode cX6_readsWall 141 = .ok (.putfield 106, 3) := by decide +kernel
theorem dX6_readsWall_144 : decode cX6_readsWall 144 = .ok (.iconst 1, 1) := by decide +kernel
theorem dX6_readsWall_145 : decode cX6_readsWall 145 = .ok (.ireturn, 1) := by decide +kernel
theorem dX6_readsLamp_0 : decode cX6_readsLamp 0 = .ok (.aload_n 0, 1) := by decide +kernel
theorem dX6_readsLamp_1 : decode cX6_readsLamp 1 = .ok (.getfield 109, 3) := by decide +kernel
theorem dX6_readsLamp_4 : decode cX6_readsLamp 4 = .ok (.bipush 8, 2) := by decide +kernel
theorem dX6_readsLamp_6 : decode cX6_readsLamp 6 = .ok (.if_icmp .eq 17, 3) := by decide +kernel
theorem dX6_readsLamp_9 : decode cX6_readsLamp 9 = .ok (.aload_n 0, 1) := by decide +kernel
theorem dX6_readsLamp_10 : decode cX6_readsLamp 10 = .ok (.iconst 0, 1) := by decide +kernel
theorem dX6_readsLamp_11 : decode cX6_readsLamp 11 = .ok (.aload_n 0, 1) := by decide +kernel
theorem dX6_readsLamp_12 : decode cX6_readsLamp 12 = .ok (.getfield 100, 3) := by decide +kernel
theorem dX6_readsLamp_15 : decode cX6_readsLamp 15 = .ok (.iconst 1, 1) := by decide +kernel
theorem dX6_readsLamp_16 : decode cX6_readsLamp 16 = .ok (.isub, 1) := by decide +kernel
theorem dX6_readsLamp_17 : decode cX6_readsLamp 17 = .ok (.invokevirtual 96, 3) := by decide +kernel
theorem dX6_readsLamp_20 : decode cX6_readsLamp 20 = .ok (.ifCond .ne 5, 3) := by decide +kernel
theorem dX6_readsLamp_23 : decode cX6_readsLamp 23 = .ok (.iconst 0, 1) := by decide +kernel
theorem dX6_readsLamp_24 : decode cX6_readsLamp 24 = .ok (.ireturn, 1) := by decide +kernel
theorem dX6_readsLamp_25 : decode cX6_readsLamp 25 = .ok (.iconst 2, 1) := by decide +kernel
theorem dX6_readsLamp_26 : decode cX6_readsLamp 26 = .ok (.aload_n 0, 1) := by decide +kernel
theorem dX6_readsLamp_27 : decode cX6_readsLamp 27 = .ok (.getfield 109, 3) := by decide +kernel
theorem dX6_readsLamp_30 : decode cX6_readsLamp 30 = .ok (.imul, 1) := by decide +kernel
theorem dX6_readsLamp_31 : decode cX6_readsLamp 31 = .ok (.istore_n 1, 1) := by decide +kernel
theorem dX6_readsLamp_32 : decode cX6_readsLamp 32 = .ok (.aload_n 0, 1) := by decide +kernel
theorem dX6_readsLamp_33 : decode cX6_readsLamp 33 = .ok (.getfield 38, 3) := by decide +kernel
theorem dX6_readsLamp_36 : decode cX6_readsLamp 36 = .ok (.iload_n 1, 1) := by decide +kernel
theorem dX6_readsLamp_37 : decode cX6_readsLamp 37 = .ok (.aload_n 0, 1) := by decide +kernel
theorem dX6_readsLamp_38 : decode cX6_readsLamp 38 = .ok (.getfield 93, 3) := by decide +kernel
theorem dX6_readsLamp_41 : decode cX6_readsLamp 41 = .ok (.iastore, 1) := by decide +kernel
theorem dX6_readsLamp_42 : decode cX6_readsLamp 42 = .ok (.aload_n 0, 1) := by decide +kernel
theorem dX6_readsLamp_43 : decode cX6_readsLamp 43 = .ok (.iconst 0, 1) := by decide +kernel
theorem dX6_readsLamp_44 : decode cX6_readsLamp 44 = .ok (.aload_n 0, 1) := by decide +kernel
theorem dX6_readsLamp_45 : decode cX6_readsLamp 45 = .ok (.getfield 103, 3) := by decide +kernel
theorem dX6_readsLamp_48 : decode cX6_readsLamp 48 = .ok (.iconst 1, 1) := by decide +kernel
end
section
theorem dX6_readsLamp_49 : decode cX6_readsLamp 49 = .ok (.isub, 1) := by decide +kernel
theorem dX6_readsLamp_50 : decode cX6_readsLamp 50 = .ok (.invokevirtual 96, 3) := by decide +kernel
theorem dX6_readsLamp_53 : decode cX6_readsLamp 53 = .ok (.ifCond .ne 5, 3) := by decide +kernel
theorem dX6_readsLamp_56 : decode cX6_readsLamp 56 = .ok (.iconst 0, 1) := by decide +kernel
theorem dX6_readsLamp_57 : decode cX6_readsLamp 57 = .ok (.ireturn, 1) := by decide +kernel
theorem dX6_readsLamp_58 : decode cX6_readsLamp 58 = .ok (.aload_n 0, 1) := by decide +kernel
theorem dX6_readsLamp_59 : decode cX6_readsLamp 59 = .ok (.getfield 38, 3) := by decide +kernel
theorem dX6_readsLamp_62 : decode cX6_readsLamp 62 = .ok (.iload_n 1, 1) := by decide +kernel
theorem dX6_readsLamp_63 : decode cX6_readsLamp 63 = .ok (.iconst 1, 1) := by decide +kernel
theorem dX6_readsLamp_64 : decode cX6_readsLamp 64 = .ok (.iadd, 1) := by decide +kernel
theorem dX6_readsLamp_65 : decode cX6_readsLamp 65 = .ok (.aload_n 0, 1) := by decide +kernel
theorem dX6_readsLamp_66 : decode cX6_readsLamp 66 = .ok (.getfield 93, 3) := by decide +kernel
theorem dX6_readsLamp_69 : decode cX6_readsLamp 69 = .ok (.iastore, 1) := by decide +kernel
theorem dX6_readsLamp_70 : decode cX6_readsLamp 70 = .ok (.iconst 0, 1) := by decide +kernel
theorem dX6_readsLamp_71 : decode cX6_readsLamp 71 = .ok (.istore_n 2, 1) := by decide +kernel
theorem dX6_readsLamp_72 : decode cX6_readsLamp 72 = .ok (.iload_n 2, 1) := by decide +kernel
theorem dX6_readsLamp_73 : decode cX6_readsLamp 73 = .ok (.aload_n 0, 1) := by decide +kernel
theorem dX6_readsLamp_74 : decode cX6_readsLamp 74 = .ok (.getfield 109, 3) := by decide +kernel
theorem dX6_readsLamp_77 : decode cX6_readsLamp 77 = .ok (.if_icmp .ge 49, 3) := by decide +kernel
theorem dX6_readsLamp_80 : decode cX6_readsLamp 80 = .ok (.aload_n 0, 1) := by decide +kernel
theorem dX6_readsLamp_81 : decode cX6_readsLamp 81 = .ok (.getfield 38, 3) := by decide +kernel
theorem dX6_readsLamp_84 : decode cX6_readsLamp 84 = .ok (.iconst 2, 1) := by decide +kernel
theorem dX6_readsLamp_85 : decode cX6_readsLamp 85 = .ok (.iload_n 2, 1) := by decide +kernel
theorem dX6_readsLamp_86 : decode cX6_readsLamp 86 = .ok (.imul, 1) := by decide +kernel
theorem dX6_readsLamp_87 : decode cX6_readsLamp 87 = .ok (.iaload, 1) := by decide +kernel
theorem dX6_readsLamp_88 : decode cX6_readsLamp 88 = .ok (.aload_n 0, 1) := by decide +kernel
theorem dX6_readsLamp_89 : decode cX6_readsLamp 89 = .ok (.getfield 38, 3) := by decide +kernel
theorem dX6_readsLamp_92 : decode cX6_readsLamp 92 = .ok (.iload_n 1, 1) := by decide +kernel
theorem dX6_readsLamp_93 : decode cX6_readsLamp 93 = .ok (.iaload, 1) := by decide +kernel
theorem dX6_readsLamp_94 : decode cX6_readsLamp 94 = .ok (.if_icmp .ne 26, 3) := by decide +kernel
theorem dX6_readsLamp_97 : decode cX6_readsLamp 97 = .ok (.aload_n 0, 1) := by decide +kernel
theorem dX6_readsLamp_98 : decode cX6_readsLamp 98 = .ok (.getfield 38, 3) := by decide +kernel
theorem dX6_readsLamp_101 : decode cX6_readsLamp 101 = .ok (.iconst 2, 1) := by decide +kernel
theorem dX6_readsLamp_102 : decode cX6_readsLamp 102 = .ok (.iload_n 2, 1) := by decide +kernel
theorem dX6_readsLamp_103 : decode cX6_readsLamp 103 = .ok (.imul, 1) := by decide +kernel
theorem dX6_readsLamp_104 : decode cX6_readsLamp 104 = .ok (.iconst 1, 1) := by decide +kernel
theorem dX6_readsLamp_105 : decode cX6_readsLamp 105 = .ok (.iadd, 1) := by decide +kernel
theorem dX6_readsLamp_106 : decode cX6_readsLamp 106 = .ok (.iaload, 1) := by decide +kernel
theorem dX6_readsLamp_107 : decode cX6_readsLamp 107 = .ok (.aload_n 0, 1) := by decide +kernel
theorem dX6_readsLamp_108 : decode cX6_readsLamp 108 = .ok (.getfield 38, 3) := by decide +kernel
theorem dX6_readsLamp_111 : decode cX6_readsLamp 111 = .ok (.iload_n 1, 1) := by decide +kernel
theorem dX6_readsLamp_112 : decode cX6_readsLamp 112 = .ok (.iconst 1, 1) := by decide +kernel
theorem dX6_readsLamp_113 : decode cX6_readsLamp 113 = .ok (.iadd, 1) := by decide +kernel
theorem dX6_readsLamp_114 : decode cX6_readsLamp 114 = .ok (.iaload, 1) := by decide +kernel
theorem dX6_readsLamp_115 : decode cX6_readsLamp 115 = .ok (.if_icmp .ne 5, 3) := by decide +kernel
theorem dX6_readsLamp_118 : decode cX6_readsLamp 118 = .ok (.iconst 0, 1) := by decide +kernel
theorem dX6_readsLamp_119 : decode cX6_readsLamp 119 = .ok (.ireturn, 1) := by decide +kernel
theorem dX6_readsLamp_120 : decode cX6_readsLamp 120 = .ok (.iinc 2 1, 3) := by decide +kernel
theorem dX6_readsLamp_123 : decode cX6_readsLamp 123 = .ok (.goto (-51), 3) := by decide +kernel
theorem dX6_readsLamp_126 : decode cX6_readsLamp 126 = .ok (.aload_n 0, 1) := by decide +kernel
theorem dX6_readsLamp_127 : decode cX6_readsLamp 127 = .ok (.dup, 1) := by decide +kernel
theorem dX6_readsLamp_128 : decode cX6_readsLamp 128 = .ok (.getfield 109, 3) := by decide +kernel
theorem dX6_readsLamp_131 : decode cX6_readsLamp 131 = .ok (.iconst 1, 1) := by decide +kernel
theorem dX6_readsLamp_132 : decode cX6_readsLamp 132 = .ok (.iadd, 1) := by decide +kernel
theorem dX6_readsLamp_133 : decode cX6_readsLamp 133 = .ok (.putfield 109, 3) := by decide +kernel
theorem dX6_readsLamp_136 : decode cX6_readsLamp 136 = .ok (.iconst 1, 1) := by decide +kernel
theorem dX6_readsLamp_137 : decode cX6_readsLamp 137 = .ok (.ireturn, 1) := by decide +kernel
theorem dX6_item_0 : decode cX6_item 0 = .ok (.aload_n 0, 1) := by decide +kernel
theorem dX6_item_1 : decode cX6_item 1 = .ok (.getfield 83, 3) := by decide +kernel
theorem dX6_item_4 : decode cX6_item 4 = .ok (.lookupswitch 67 #[(98, 44), (108, 62), (114, 50), (117, 56)], 44) := by decide +kernel
theorem dX6_item_48 : decode cX6_item 48 = .ok (.aload_n 0, 1) := by decide +kernel
theorem dX6_item_49 : decode cX6_item 49 = .ok (.iload_n 1, 1) := by decide +kernel
theorem dX6_item_50 : decode cX6_item 50 = .ok (.invokevirtual 112, 3) := by decide +kernel
theorem dX6_item_53 : decode cX6_item 53 = .ok (.ireturn, 1) := by decide +kernel
theorem dX6_item_54 : decode cX6_item 54 = .ok (.aload_n 0, 1) := by decide +kernel
theorem dX6_item_55 : decode cX6_item 55 = .ok (.iconst 0, 1) := by decide +kernel
theorem dX6_item_56 : decode cX6_item 56 = .ok (.invokevirtual 115, 3) := by decide +kernel
theorem dX6_item_59 : decode cX6_item 59 = .ok (.ireturn, 1) := by decide +kernel
theorem dX6_item_60 : decode cX6_item 60 = .ok (.aload_n 0, 1) := by decide +kernel
theorem dX6_item_61 : decode cX6_item 61 = .ok (.iconst 1, 1) := by decide +kernel
theorem dX6_item_62 : decode cX6_item 62 = .ok (.invokevirtual 115, 3) := by decide +kernel
theorem dX6_item_65 : decode cX6_item 65 = .ok (.ireturn, 1) := by decide +kernel
theorem dX6_item_66 : decode cX6_item 66 = .ok (.aload_n 0, 1) := by decide +kernel
theorem dX6_item_67 : decode cX6_item 67 = .ok (.invokevirtual 118, 3) := by decide +kernel
theorem dX6_item_70 : decode cX6_item 70 = .ok (.ireturn, 1) := by decide +kernel
theorem dX6_item_71 : decode cX6_item 71 = .ok (.iconst 0, 1) := by decide +kernel
theorem dX6_item_72 : decode cX6_item 72 = .ok (.ireturn, 1) := by decide +kernel
theorem dX6_begins_0 : decode cX6_begins 0 = .ok (.aload_n 0, 1) := by decide +kernel
theorem dX6_begins_1 : decode cX6_begins 1 = .ok (.bipush 6, 2) := by decide +kernel
theorem dX6_begins_3 : decode cX6_begins 3 = .ok (.putfield 100, 3) := by decide +kernel
theorem dX6_begins_6 : decode cX6_begins 6 = .ok (.aload_n 0, 1) := by decide +kernel
theorem dX6_begins_7 : decode cX6_begins 7 = .ok (.bipush 6, 2) := by decide +kernel
theorem dX6_begins_9 : decode cX6_begins 9 = .ok (.putfield 103, 3) := by decide +kernel
theorem dX6_begins_12 : decode cX6_begins 12 = .ok (.aload_n 0, 1) := by decide +kernel
theorem dX6_begins_13 : decode cX6_begins 13 = .ok (.iconst 0, 1) := by decide +kernel
theorem dX6_begins_14 : decode cX6_begins 14 = .ok (.putfield 106, 3) := by decide +kernel
theorem dX6_begins_17 : decode cX6_begins 17 = .ok (.aload_n 0, 1) := by decide +kernel
theorem dX6_begins_18 : decode cX6_begins 18 = .ok (.iconst 0, 1) := by decide +kernel
theorem dX6_begins_19 : decode cX6_begins 19 = .ok (.putfield 109, 3) := by decide +kernel
theorem dX6_begins_22 : decode cX6_begins 22 = .ok (.return_, 1) := by decide +kernel
theorem dX6_setsWall_0 : decode cX6_setsWall 0 = .ok (.aload_n 0, 1) := by decide +kernel
theorem dX6_setsWall_1 : decode cX6_setsWall 1 = .ok (.getfield 7, 3) := by decide +kernel
theorem dX6_setsWall_4 : decode cX6_setsWall 4 = .ok (.bipush 26, 2) := by decide +kernel
theorem dX6_setsWall_6 : decode cX6_setsWall 6 = .ok (.iconst 4, 1) := by decide +kernel
theorem dX6_setsWall_7 : decode cX6_setsWall 7 = .ok (.iload_n 1, 1) := by decide +kernel
theorem dX6_setsWall_8 : decode cX6_setsWall 8 = .ok (.imul, 1) := by decide +kernel
theorem dX6_setsWall_9 : decode cX6_setsWall 9 = .ok (.iadd, 1) := by decide +kernel
theorem dX6_setsWall_10 : decode cX6_setsWall 10 = .ok (.iload_n 2, 1) := by decide +kernel
theorem dX6_setsWall_11 : decode cX6_setsWall 11 = .ok (.iastore, 1) := by decide +kernel
theorem dX6_setsWall_12 : decode cX6_setsWall 12 = .ok (.aload_n 0, 1) := by decide +kernel
theorem dX6_setsWall_13 : decode cX6_setsWall 13 = .ok (.getfield 7, 3) := by decide +kernel
theorem dX6_setsWall_16 : decode cX6_setsWall 16 = .ok (.bipush 26, 2) := by decide +kernel
theorem dX6_setsWall_18 : decode cX6_setsWall 18 = .ok (.iconst 4, 1) := by decide +kernel
theorem dX6_setsWall_19 : decode cX6_setsWall 19 = .ok (.iload_n 1, 1) := by decide +kernel
theorem dX6_setsWall_20 : decode cX6_setsWall 20 = .ok (.imul, 1) := by decide +kernel
theorem dX6_setsWall_21 : decode cX6_setsWall 21 = .ok (.iadd, 1) := by decide +kernel
theorem dX6_setsWall_22 : decode cX6_setsWall 22 = .ok (.iconst 1, 1) := by decide +kernel
theorem dX6_setsWall_23 : decode cX6_setsWall 23 = .ok (.iadd, 1) := by decide +kernel
theorem dX6_setsWall_24 : decode cX6_setsWall 24 = .ok (.iload_n 3, 1) := by decide +kernel
theorem dX6_setsWall_25 : decode cX6_setsWall 25 = .ok (.iastore, 1) := by decide +kernel
theorem dX6_setsWall_26 : decode cX6_setsWall 26 = .ok (.aload_n 0, 1) := by decide +kernel
theorem dX6_setsWall_27 : decode cX6_setsWall 27 = .ok (.getfield 7, 3) := by decide +kernel
theorem dX6_setsWall_30 : decode cX6_setsWall 30 = .ok (.bipush 26, 2) := by decide +kernel
theorem dX6_setsWall_32 : decode cX6_setsWall 32 = .ok (.iconst 4, 1) := by decide +kernel
theorem dX6_setsWall_33 : decode cX6_setsWall 33 = .ok (.iload_n 1, 1) := by decide +kernel
theorem dX6_setsWall_34 : decode cX6_setsWall 34 = .ok (.imul, 1) := by decide +kernel
theorem dX6_setsWall_35 : decode cX6_setsWall 35 = .ok (.iadd, 1) := by decide +kernel
theorem dX6_setsWall_36 : decode cX6_setsWall 36 = .ok (.iconst 2, 1) := by decide +kernel
theorem dX6_setsWall_37 : decode cX6_setsWall 37 = .ok (.iadd, 1) := by decide +kernel
theorem dX6_setsWall_38 : decode cX6_setsWall 38 = .ok (.iload 4, 2) := by decide +kernel
theorem dX6_setsWall_40 : decode cX6_setsWall 40 = .ok (.iastore, 1) := by decide +kernel
theorem dX6_setsWall_41 : decode cX6_setsWall 41 = .ok (.aload_n 0, 1) := by decide +kernel
theorem dX6_setsWall_42 : decode cX6_setsWall 42 = .ok (.getfield 7, 3) := by decide +kernel
theorem dX6_setsWall_45 : decode cX6_setsWall 45 = .ok (.bipush 26, 2) := by decide +kernel
theorem dX6_setsWall_47 : decode cX6_setsWall 47 = .ok (.iconst 4, 1) := by decide +kernel
theorem dX6_setsWall_48 : decode cX6_setsWall 48 = .ok (.iload_n 1, 1) := by decide +kernel
theorem dX6_setsWall_49 : decode cX6_setsWall 49 = .ok (.imul, 1) := by decide +kernel
theorem dX6_setsWall_50 : decode cX6_setsWall 50 = .ok (.iadd, 1) := by decide +kernel
theorem dX6_setsWall_51 : decode cX6_setsWall 51 = .ok (.iconst 3, 1) := by decide +kernel
theorem dX6_setsWall_52 : decode cX6_setsWall 52 = .ok (.iadd, 1) := by decide +kernel
theorem dX6_setsWall_53 : decode cX6_setsWall 53 = .ok (.iload 5, 2) := by decide +kernel
theorem dX6_setsWall_55 : decode cX6_setsWall 55 = .ok (.iastore, 1) := by decide +kernel
theorem dX6_setsWall_56 : decode cX6_setsWall 56 = .ok (.return_, 1) := by decide +kernel
theorem dX6_becomes_0 : decode cX6_becomes 0 = .ok (.aload_n 0, 1) := by decide +kernel
theorem dX6_becomes_1 : decode cX6_becomes 1 = .ok (.aload_n 0, 1) := by decide +kernel
theorem dX6_becomes_2 : decode cX6_becomes 2 = .ok (.getfield 100, 3) := by decide +kernel
theorem dX6_becomes_5 : decode cX6_becomes 5 = .ok (.putfield 60, 3) := by decide +kernel
theorem dX6_becomes_8 : decode cX6_becomes 8 = .ok (.aload_n 0, 1) := by decide +kernel
theorem dX6_becomes_9 : decode cX6_becomes 9 = .ok (.aload_n 0, 1) := by decide +kernel
theorem dX6_becomes_10 : decode cX6_becomes 10 = .ok (.getfield 103, 3) := by decide +kernel
theorem dX6_becomes_13 : decode cX6_becomes 13 = .ok (.putfield 67, 3) := by decide +kernel
theorem dX6_becomes_16 : decode cX6_becomes 16 = .ok (.aload_n 0, 1) := by decide +kernel
theorem dX6_becomes_17 : decode cX6_becomes 17 = .ok (.iconst 0, 1) := by decide +kernel
theorem dX6_becomes_18 : decode cX6_becomes 18 = .ok (.iconst 0, 1) := by decide +kernel
theorem dX6_becomes_19 : decode cX6_becomes 19 = .ok (.iconst 0, 1) := by decide +kernel
theorem dX6_becomes_20 : decode cX6_becomes 20 = .ok (.aload_n 0, 1) := by decide +kernel
theorem dX6_becomes_21 : decode cX6_becomes 21 = .ok (.getfield 60, 3) := by decide +kernel
theorem dX6_becomes_24 : decode cX6_becomes 24 = .ok (.iconst 0, 1) := by decide +kernel
theorem dX6_becomes_25 : decode cX6_becomes 25 = .ok (.invokevirtual 122, 3) := by decide +kernel
theorem dX6_becomes_28 : decode cX6_becomes 28 = .ok (.aload_n 0, 1) := by decide +kernel
theorem dX6_becomes_29 : decode cX6_becomes 29 = .ok (.iconst 1, 1) := by decide +kernel
theorem dX6_becomes_30 : decode cX6_becomes 30 = .ok (.aload_n 0, 1) := by decide +kernel
theorem dX6_becomes_31 : decode cX6_becomes 31 = .ok (.getfield 60, 3) := by decide +kernel
theorem dX6_becomes_34 : decode cX6_becomes 34 = .ok (.iconst 0, 1) := by decide +kernel
theorem dX6_becomes_35 : decode cX6_becomes 35 = .ok (.aload_n 0, 1) := by decide +kernel
theorem dX6_becomes_36 : decode cX6_becomes 36 = .ok (.getfield 67, 3) := by decide +kernel
theorem dX6_becomes_39 : decode cX6_becomes 39 = .ok (.iconst 1, 1) := by decide +kernel
theorem dX6_becomes_40 : decode cX6_becomes 40 = .ok (.invokevirtual 122, 3) := by decide +kernel
theorem dX6_becomes_43 : decode cX6_becomes 43 = .ok (.aload_n 0, 1) := by decide +kernel
theorem dX6_becomes_44 : decode cX6_becomes 44 = .ok (.iconst 2, 1) := by decide +kernel
theorem dX6_becomes_45 : decode cX6_becomes 45 = .ok (.iconst 0, 1) := by decide +kernel
theorem dX6_becomes_46 : decode cX6_becomes 46 = .ok (.aload_n 0, 1) := by decide +kernel
theorem dX6_becomes_47 : decode cX6_becomes 47 = .ok (.getfield 67, 3) := by decide +kernel
theorem dX6_becomes_50 : decode cX6_becomes 50 = .ok (.aload_n 0, 1) := by decide +kernel
theorem dX6_becomes_51 : decode cX6_becomes 51 = .ok (.getfield 60, 3) := by decide +kernel
theorem dX6_becomes_54 : decode cX6_becomes 54 = .ok (.iconst 0, 1) := by decide +kernel
theorem dX6_becomes_55 : decode cX6_becomes 55 = .ok (.invokevirtual 122, 3) := by decide +kernel
theorem dX6_becomes_58 : decode cX6_becomes 58 = .ok (.aload_n 0, 1) := by decide +kernel
theorem dX6_becomes_59 : decode cX6_becomes 59 = .ok (.iconst 3, 1) := by decide +kernel
theorem dX6_becomes_60 : decode cX6_becomes 60 = .ok (.iconst 0, 1) := by decide +kernel
theorem dX6_becomes_61 : decode cX6_becomes 61 = .ok (.iconst 0, 1) := by decide +kernel
theorem dX6_becomes_62 : decode cX6_becomes 62 = .ok (.aload_n 0, 1) := by decide +kernel
theorem dX6_becomes_63 : decode cX6_becomes 63 = .ok (.getfield 67, 3) := by decide +kernel
theorem dX6_becomes_66 : decode cX6_becomes 66 = .ok (.iconst 1, 1) := by decide +kernel
theorem dX6_becomes_67 : decode cX6_becomes 67 = .ok (.invokevirtual 122, 3) := by decide +kernel
theorem dX6_becomes_70 : decode cX6_becomes 70 = .ok (.iconst 0, 1) := by decide +kernel
theorem dX6_becomes_71 : decode cX6_becomes 71 = .ok (.istore_n 1, 1) := by decide +kernel
theorem dX6_becomes_72 : decode cX6_becomes 72 = .ok (.iload_n 1, 1) := by decide +kernel
theorem dX6_becomes_73 : decode cX6_becomes 73 = .ok (.aload_n 0, 1) := by decide +kernel
theorem dX6_becomes_74 : decode cX6_becomes 74 = .ok (.getfield 106, 3) := by decide +kernel
theorem dX6_becomes_77 : decode cX6_becomes 77 = .ok (.if_icmp .ge 54, 3) := by decide +kernel
theorem dX6_becomes_80 : decode cX6_becomes 80 = .ok (.aload_n 0, 1) := by decide +kernel
theorem dX6_becomes_81 : decode cX6_becomes 81 = .ok (.iload_n 1, 1) := by decide +kernel
theorem dX6_becomes_82 : decode cX6_becomes 82 = .ok (.iconst 4, 1) := by decide +kernel
theorem dX6_becomes_83 : decode cX6_becomes 83 = .ok (.iadd, 1) := by decide +kernel
theorem dX6_becomes_84 : decode cX6_becomes 84 = .ok (.aload_n 0, 1) := by decide +kernel
theorem dX6_becomes_85 : decode cX6_becomes 85 = .ok (.getfield 35, 3) := by decide +kernel
theorem dX6_becomes_88 : decode cX6_becomes 88 = .ok (.iconst 4, 1) := by decide +kernel
theorem dX6_becomes_89 : decode cX6_becomes 89 = .ok (.iload_n 1, 1) := by decide +kernel
theorem dX6_becomes_90 : decode cX6_becomes 90 = .ok (.imul, 1) := by decide +kernel
theorem dX6_becomes_91 : decode cX6_becomes 91 = .ok (.iaload, 1) := by decide +kernel
theorem dX6_becomes_92 : decode cX6_becomes 92 = .ok (.aload_n 0, 1) := by decide +kernel
theorem dX6_becomes_93 : decode cX6_becomes 93 = .ok (.getfield 35, 3) := by decide +kernel
theorem dX6_becomes_96 : decode cX6_becomes 96 = .ok (.iconst 4, 1) := by decide +kernel
theorem dX6_becomes_97 : decode cX6_becomes 97 = .ok (.iload_n 1, 1) := by decide +kernel
theorem dX6_becomes_98 : decode cX6_becomes 98 = .ok (.imul, 1) := by decide +kernel
theorem dX6_becomes_99 : decode cX6_becomes 99 = .ok (.iconst 1, 1) := by decide +kernel
theorem dX6_becomes_100 : decode cX6_becomes 100 = .ok (.iadd, 1) := by decide +kernel
theorem dX6_becomes_101 : decode cX6_becomes 101 = .ok (.iaload, 1) := by decide +kernel
theorem dX6_becomes_102 : decode cX6_becomes 102 = .ok (.aload_n 0, 1) := by decide +kernel
theorem dX6_becomes_103 : decode cX6_becomes 103 = .ok (.getfield 35, 3) := by decide +kernel
theorem dX6_becomes_106 : decode cX6_becomes 106 = .ok (.iconst 4, 1) := by decide +kernel
theorem dX6_becomes_107 : decode cX6_becomes 107 = .ok (.iload_n 1, 1) := by decide +kernel
theorem dX6_becomes_108 : decode cX6_becomes 108 = .ok (.imul, 1) := by decide +kernel
theorem dX6_becomes_109 : decode cX6_becomes 109 = .ok (.iconst 2, 1) := by decide +kernel
theorem dX6_becomes_110 : decode cX6_becomes 110 = .ok (.iadd, 1) := by decide +kernel
theorem dX6_becomes_111 : decode cX6_becomes 111 = .ok (.iaload, 1) := by decide +kernel
theorem dX6_becomes_112 : decode cX6_becomes 112 = .ok (.aload_n 0, 1) := by decide +kernel
theorem dX6_becomes_113 : decode cX6_becomes 113 = .ok (.getfield 35, 3) := by decide +kernel
theorem dX6_becomes_116 : decode cX6_becomes 116 = .ok (.iconst 4, 1) := by decide +kernel
theorem dX6_becomes_117 : decode cX6_becomes 117 = .ok (.iload_n 1, 1) := by decide +kernel
theorem dX6_becomes_118 : decode cX6_becomes 118 = .ok (.imul, 1) := by decide +kernel
theorem dX6_becomes_119 : decode cX6_becomes 119 = .ok (.iconst 3, 1) := by decide +kernel
theorem dX6_becomes_120 : decode cX6_becomes 120 = .ok (.iadd, 1) := by decide +kernel
theorem dX6_becomes_121 : decode cX6_becomes 121 = .ok (.iaload, 1) := by decide +kernel
theorem dX6_becomes_122 : decode cX6_becomes 122 = .ok (.invokevirtual 122, 3) := by decide +kernel
theorem dX6_becomes_125 : decode cX6_becomes 125 = .ok (.iinc 1 1, 3) := by decide +kernel
theorem dX6_becomes_128 : decode cX6_becomes 128 = .ok (.goto (-56), 3) := by decide +kernel
theorem dX6_becomes_131 : decode cX6_becomes 131 = .ok (.iconst 0, 1) := by decide +kernel
theorem dX6_becomes_132 : decode cX6_becomes 132 = .ok (.istore_n 1, 1) := by decide +kernel
theorem dX6_becomes_133 : decode cX6_becomes 133 = .ok (.iload_n 1, 1) := by decide +kernel
theorem dX6_becomes_134 : decode cX6_becomes 134 = .ok (.aload_n 0, 1) := by decide +kernel
theorem dX6_becomes_135 : decode cX6_becomes 135 = .ok (.getfield 109, 3) := by decide +kernel
theorem dX6_becomes_138 : decode cX6_becomes 138 = .ok (.if_icmp .ge 62, 3) := by decide +kernel
theorem dX6_becomes_141 : decode cX6_becomes 141 = .ok (.aload_n 0, 1) := by decide +kernel
theorem dX6_becomes_142 : decode cX6_becomes 142 = .ok (.getfield 7, 3) := by decide +kernel
theorem dX6_becomes_145 : decode cX6_becomes 145 = .ok (.iconst 2, 1) := by decide +kernel
theorem dX6_becomes_146 : decode cX6_becomes 146 = .ok (.iconst 3, 1) := by decide +kernel
theorem dX6_becomes_147 : decode cX6_becomes 147 = .ok (.iload_n 1, 1) := by decide +kernel
theorem dX6_becomes_148 : decode cX6_becomes 148 = .ok (.imul, 1) := by decide +kernel
theorem dX6_becomes_149 : decode cX6_becomes 149 = .ok (.iadd, 1) := by decide +kernel
theorem dX6_becomes_150 : decode cX6_becomes 150 = .ok (.aload_n 0, 1) := by decide +kernel
theorem dX6_becomes_151 : decode cX6_becomes 151 = .ok (.getfield 38, 3) := by decide +kernel
theorem dX6_becomes_154 : decode cX6_becomes 154 = .ok (.iconst 2, 1) := by decide +kernel
theorem dX6_becomes_155 : decode cX6_becomes 155 = .ok (.iload_n 1, 1) := by decide +kernel
theorem dX6_becomes_156 : decode cX6_becomes 156 = .ok (.imul, 1) := by decide +kernel
theorem dX6_becomes_157 : decode cX6_becomes 157 = .ok (.iaload, 1) := by decide +kernel
theorem dX6_becomes_158 : decode cX6_becomes 158 = .ok (.iastore, 1) := by decide +kernel
theorem dX6_becomes_159 : decode cX6_becomes 159 = .ok (.aload_n 0, 1) := by decide +kernel
theorem dX6_becomes_160 : decode cX6_becomes 160 = .ok (.getfield 7, 3) := by decide +kernel
theorem dX6_becomes_163 : decode cX6_becomes 163 = .ok (.iconst 2, 1) := by decide +kernel
theorem dX6_becomes_164 : decode cX6_becomes 164 = .ok (.iconst 3, 1) := by decide +kernel
theorem dX6_becomes_165 : decode cX6_becomes 165 = .ok (.iload_n 1, 1) := by decide +kernel
theorem dX6_becomes_166 : decode cX6_becomes 166 = .ok (.imul, 1) := by decide +kernel
theorem dX6_becomes_167 : decode cX6_becomes 167 = .ok (.iadd, 1) := by decide +kernel
theorem dX6_becomes_168 : decode cX6_becomes 168 = .ok (.iconst 1, 1) := by decide +kernel
theorem dX6_becomes_169 : decode cX6_becomes 169 = .ok (.iadd, 1) := by decide +kernel
theorem dX6_becomes_170 : decode cX6_becomes 170 = .ok (.aload_n 0, 1) := by decide +kernel
theorem dX6_becomes_171 : decode cX6_becomes 171 = .ok (.getfield 38, 3) := by decide +kernel
theorem dX6_becomes_174 : decode cX6_becomes 174 = .ok (.iconst 2, 1) := by decide +kernel
theorem dX6_becomes_175 : decode cX6_becomes 175 = .ok (.iload_n 1, 1) := by decide +kernel
theorem dX6_becomes_176 : decode cX6_becomes 176 = .ok (.imul, 1) := by decide +kernel
theorem dX6_becomes_177 : decode cX6_becomes 177 = .ok (.iconst 1, 1) := by decide +kernel
theorem dX6_becomes_178 : decode cX6_becomes 178 = .ok (.iadd, 1) := by decide +kernel
theorem dX6_becomes_179 : decode cX6_becomes 179 = .ok (.iaload, 1) := by decide +kernel
theorem dX6_becomes_180 : decode cX6_becomes 180 = .ok (.iastore, 1) := by decide +kernel
theorem dX6_becomes_181 : decode cX6_becomes 181 = .ok (.aload_n 0, 1) := by decide +kernel
theorem dX6_becomes_182 : decode cX6_becomes 182 = .ok (.getfield 7, 3) := by decide +kernel
theorem dX6_becomes_185 : decode cX6_becomes 185 = .ok (.iconst 2, 1) := by decide +kernel
theorem dX6_becomes_186 : decode cX6_becomes 186 = .ok (.iconst 3, 1) := by decide +kernel
theorem dX6_becomes_187 : decode cX6_becomes 187 = .ok (.iload_n 1, 1) := by decide +kernel
theorem dX6_becomes_188 : decode cX6_becomes 188 = .ok (.imul, 1) := by decide +kernel
theorem dX6_becomes_189 : decode cX6_becomes 189 = .ok (.iadd, 1) := by decide +kernel
theorem dX6_becomes_190 : decode cX6_becomes 190 = .ok (.iconst 2, 1) := by decide +kernel
theorem dX6_becomes_191 : decode cX6_becomes 191 = .ok (.iadd, 1) := by decide +kernel
theorem dX6_becomes_192 : decode cX6_becomes 192 = .ok (.iconst 1, 1) := by decide +kernel
theorem dX6_becomes_193 : decode cX6_becomes 193 = .ok (.iastore, 1) := by decide +kernel
theorem dX6_becomes_194 : decode cX6_becomes 194 = .ok (.iinc 1 1, 3) := by decide +kernel
theorem dX6_becomes_197 : decode cX6_becomes 197 = .ok (.goto (-64), 3) := by decide +kernel
theorem dX6_becomes_200 : decode cX6_becomes 200 = .ok (.aload_n 0, 1) := by decide +kernel
theorem dX6_becomes_201 : decode cX6_becomes 201 = .ok (.getfield 7, 3) := by decide +kernel
theorem dX6_becomes_204 : decode cX6_becomes 204 = .ok (.iconst 0, 1) := by decide +kernel
theorem dX6_becomes_205 : decode cX6_becomes 205 = .ok (.aload_n 0, 1) := by decide +kernel
theorem dX6_becomes_206 : decode cX6_becomes 206 = .ok (.getfield 109, 3) := by decide +kernel
theorem dX6_becomes_209 : decode cX6_becomes 209 = .ok (.iastore, 1) := by decide +kernel
theorem dX6_becomes_210 : decode cX6_becomes 210 = .ok (.aload_n 0, 1) := by decide +kernel
theorem dX6_becomes_211 : decode cX6_becomes 211 = .ok (.getfield 7, 3) := by decide +kernel
theorem dX6_becomes_214 : decode cX6_becomes 214 = .ok (.iconst 1, 1) := by decide +kernel
theorem dX6_becomes_215 : decode cX6_becomes 215 = .ok (.aload_n 0, 1) := by decide +kernel
theorem dX6_becomes_216 : decode cX6_becomes 216 = .ok (.getfield 106, 3) := by decide +kernel
theorem dX6_becomes_219 : decode cX6_becomes 219 = .ok (.iconst 4, 1) := by decide +kernel
theorem dX6_becomes_220 : decode cX6_becomes 220 = .ok (.iadd, 1) := by decide +kernel
theorem dX6_becomes_221 : decode cX6_becomes 221 = .ok (.iastore, 1) := by decide +kernel
theorem dX6_becomes_222 : decode cX6_becomes 222 = .ok (.aload_n 0, 1) := by decide +kernel
theorem dX6_becomes_223 : decode cX6_becomes 223 = .ok (.iconst 0, 1) := by decide +kernel
theorem dX6_becomes_224 : decode cX6_becomes 224 = .ok (.putfield 126, 3) := by decide +kernel
theorem dX6_becomes_227 : decode cX6_becomes 227 = .ok (.aload_n 0, 1) := by decide +kernel
theorem dX6_becomes_228 : decode cX6_becomes 228 = .ok (.iconst 0, 1) := by decide +kernel
theorem dX6_becomes_229 : decode cX6_becomes 229 = .ok (.putfield 129, 3) := by decide +kernel
theorem dX6_becomes_232 : decode cX6_becomes 232 = .ok (.aload_n 0, 1) := by decide +kernel
theorem dX6_becomes_233 : decode cX6_becomes 233 = .ok (.getfield 19, 3) := by decide +kernel
theorem dX6_becomes_236 : decode cX6_becomes 236 = .ok (.iconst 0, 1) := by decide +kernel
theorem dX6_becomes_237 : decode cX6_becomes 237 = .ok (.iconst 0, 1) := by decide +kernel
theorem dX6_becomes_238 : decode cX6_becomes 238 = .ok (.bastore, 1) := by decide +kernel
theorem dX6_becomes_239 : decode cX6_becomes 239 = .ok (.aload_n 0, 1) := by decide +kernel
theorem dX6_becomes_240 : decode cX6_becomes 240 = .ok (.getfield 19, 3) := by decide +kernel
theorem dX6_becomes_243 : decode cX6_becomes 243 = .ok (.iconst 1, 1) := by decide +kernel
theorem dX6_becomes_244 : decode cX6_becomes 244 = .ok (.iconst 0, 1) := by decide +kernel
theorem dX6_becomes_245 : decode cX6_becomes 245 = .ok (.bastore, 1) := by decide +kernel
theorem dX6_becomes_246 : decode cX6_becomes 246 = .ok (.return_, 1) := by decide +kernel
theorem dX6_plan_0 : decode cX6_plan 0 = .ok (.aload_n 0, 1) := by decide +kernel
theorem dX6_plan_1 : decode cX6_plan 1 = .ok (.iconst 0, 1) := by decide +kernel
theorem dX6_plan_2 : decode cX6_plan 2 = .ok (.putfield 56, 3) := by decide +kernel
theorem dX6_plan_5 : decode cX6_plan 5 = .ok (.aload_n 0, 1) := by decide +kernel
theorem dX6_plan_6 : decode cX6_plan 6 = .ok (.invokevirtual 50, 3) := by decide +kernel
theorem dX6_plan_9 : decode cX6_plan 9 = .ok (.aload_n 0, 1) := by decide +kernel
theorem dX6_plan_10 : decode cX6_plan 10 = .ok (.iconst 0, 1) := by decide +kernel
theorem dX6_plan_11 : decode cX6_plan 11 = .ok (.putfield 77, 3) := by decide +kernel
theorem dX6_plan_14 : decode cX6_plan 14 = .ok (.iconst 0, 1) := by decide +kernel
theorem dX6_plan_15 : decode cX6_plan 15 = .ok (.istore_n 1, 1) := by decide +kernel
theorem dX6_plan_16 : decode cX6_plan 16 = .ok (.aload_n 0, 1) := by decide +kernel
theorem dX6_plan_17 : decode cX6_plan 17 = .ok (.invokevirtual 90, 3) := by decide +kernel
theorem dX6_plan_20 : decode cX6_plan 20 = .ok (.aload_n 0, 1) := by decide +kernel
theorem dX6_plan_21 : decode cX6_plan 21 = .ok (.getfield 83, 3) := by decide +kernel
theorem dX6_plan_24 : decode cX6_plan 24 = .ok (.iconst (-1), 1) := by decide +kernel
theorem dX6_plan_25 : decode cX6_plan 25 = .ok (.if_icmp .eq 48, 3) := by decide +kernel
theorem dX6_plan_28 : decode cX6_plan 28 = .ok (.aload_n 0, 1) := by decide +kernel
theorem dX6_plan_29 : decode cX6_plan 29 = .ok (.iload_n 1, 1) := by decide +kernel
theorem dX6_plan_30 : decode cX6_plan 30 = .ok (.invokevirtual 132, 3) := by decide +kernel
theorem dX6_plan_33 : decode cX6_plan 33 = .ok (.istore_n 2, 1) := by decide +kernel
theorem dX6_plan_34 : decode cX6_plan 34 = .ok (.iload_n 2, 1) := by decide +kernel
theorem dX6_plan_35 : decode cX6_plan 35 = .ok (.ifCond .eq 7, 3) := by decide +kernel
theorem dX6_plan_38 : decode cX6_plan 38 = .ok (.aload_n 0, 1) := by decide +kernel
theorem dX6_plan_39 : decode cX6_plan 39 = .ok (.invokevirtual 90, 3) := by decide +kernel
theorem dX6_plan_42 : decode cX6_plan 42 = .ok (.iload_n 2, 1) := by decide +kernel
theorem dX6_plan_43 : decode cX6_plan 43 = .ok (.ifCond .eq 12, 3) := by decide +kernel
theorem dX6_plan_46 : decode cX6_plan 46 = .ok (.aload_n 0, 1) := by decide +kernel
theorem dX6_plan_47 : decode cX6_plan 47 = .ok (.getfield 83, 3) := by decide +kernel
theorem dX6_plan_50 : decode cX6_plan 50 = .ok (.bipush 59, 2) := by decide +kernel
theorem dX6_plan_52 : decode cX6_plan 52 = .ok (.if_icmp .eq 11, 3) := by decide +kernel
theorem dX6_plan_55 : decode cX6_plan 55 = .ok (.bipush (-10), 2) := by decide +kernel
theorem dX6_plan_57 : decode cX6_plan 57 = .ok (.aload_n 0, 1) := by decide +kernel
theorem dX6_plan_58 : decode cX6_plan 58 = .ok (.getfield 80, 3) := by decide +kernel
theorem dX6_plan_61 : decode cX6_plan 61 = .ok (.isub, 1) := by decide +kernel
theorem dX6_plan_62 : decode cX6_plan 62 = .ok (.ireturn, 1) := by decide +kernel
theorem dX6_plan_63 : decode cX6_plan 63 = .ok (.iinc 1 1, 3) := by decide +kernel
theorem dX6_plan_66 : decode cX6_plan 66 = .ok (.aload_n 0, 1) := by decide +kernel
theorem dX6_plan_67 : decode cX6_plan 67 = .ok (.invokevirtual 90, 3) := by decide +kernel
theorem dX6_plan_70 : decode cX6_plan 70 = .ok (.goto (-50), 3) := by decide +kernel
theorem dX6_plan_73 : decode cX6_plan 73 = .ok (.aload_n 0, 1) := by decide +kernel
theorem dX6_plan_74 : decode cX6_plan 74 = .ok (.invokevirtual 53, 3) := by decide +kernel
theorem dX6_plan_77 : decode cX6_plan 77 = .ok (.aload_n 0, 1) := by decide +kernel
theorem dX6_plan_78 : decode cX6_plan 78 = .ok (.iconst 0, 1) := by decide +kernel
theorem dX6_plan_79 : decode cX6_plan 79 = .ok (.putfield 74, 3) := by decide +kernel
theorem dX6_plan_82 : decode cX6_plan 82 = .ok (.iload_n 1, 1) := by decide +kernel
theorem dX6_plan_83 : decode cX6_plan 83 = .ok (.ireturn, 1) := by decide +kernel
theorem dX6_wall_0 : decode cX6_wall 0 = .ok (.aload_n 0, 1) := by decide +kernel
theorem dX6_wall_1 : decode cX6_wall 1 = .ok (.iconst 0, 1) := by decide +kernel
theorem dX6_wall_2 : decode cX6_wall 2 = .ok (.putfield 56, 3) := by decide +kernel
theorem dX6_wall_5 : decode cX6_wall 5 = .ok (.aload_n 0, 1) := by decide +kernel
theorem dX6_wall_6 : decode cX6_wall 6 = .ok (.iload_n 1, 1) := by decide +kernel
theorem dX6_wall_7 : decode cX6_wall 7 = .ok (.invokevirtual 135, 3) := by decide +kernel
theorem dX6_wall_10 : decode cX6_wall 10 = .ok (.ifCond .eq 21, 3) := by decide +kernel
theorem dX6_wall_13 : decode cX6_wall 13 = .ok (.iload_n 2, 1) := by decide +kernel
theorem dX6_wall_14 : decode cX6_wall 14 = .ok (.iconst 0, 1) := by decide +kernel
theorem dX6_wall_15 : decode cX6_wall 15 = .ok (.iconst 3, 1) := by decide +kernel
theorem dX6_wall_16 : decode cX6_wall 16 = .ok (.invokestatic 63, 3) := by decide +kernel
theorem dX6_wall_19 : decode cX6_wall 19 = .ok (.ifCond .eq 12, 3) := by decide +kernel
theorem dX6_wall_22 : decode cX6_wall 22 = .ok (.aload_n 0, 1) := by decide +kernel
theorem dX6_wall_23 : decode cX6_wall 23 = .ok (.iload_n 1, 1) := by decide +kernel
theorem dX6_wall_24 : decode cX6_wall 24 = .ok (.iload_n 2, 1) := by decide +kernel
theorem dX6_wall_25 : decode cX6_wall 25 = .ok (.invokevirtual 138, 3) := by decide +kernel
theorem dX6_wall_28 : decode cX6_wall 28 = .ok (.goto 4, 3) := by decide +kernel
theorem dX6_wall_31 : decode cX6_wall 31 = .ok (.iconst (-1), 1) := by decide +kernel
theorem dX6_wall_32 : decode cX6_wall 32 = .ok (.ireturn, 1) := by decide +kernel
theorem dX6_lamp_0 : decode cX6_lamp 0 = .ok (.aload_n 0, 1) := by decide +kernel
theorem dX6_lamp_1 : decode cX6_lamp 1 = .ok (.iconst 0, 1) := by decide +kernel
theorem dX6_lamp_2 : decode cX6_lamp 2 = .ok (.putfield 56, 3) := by decide +kernel
theorem dX6_lamp_5 : decode cX6_lamp 5 = .ok (.aload_n 0, 1) := by decide +kernel
theorem dX6_lamp_6 : decode cX6_lamp 6 = .ok (.iload_n 1, 1) := by decide +kernel
theorem dX6_lamp_7 : decode cX6_lamp 7 = .ok (.invokevirtual 141, 3) := by decide +kernel
theorem dX6_lamp_10 : decode cX6_lamp 10 = .ok (.ifCond .eq 21, 3) := by decide +kernel
theorem dX6_lamp_13 : decode cX6_lamp 13 = .ok (.iload_n 2, 1) := by decide +kernel
theorem dX6_lamp_14 : decode cX6_lamp 14 = .ok (.iconst 0, 1) := by decide +kernel
theorem dX6_lamp_15 : decode cX6_lamp 15 = .ok (.iconst 2, 1) := by decide +kernel
theorem dX6_lamp_16 : decode cX6_lamp 16 = .ok (.invokestatic 63, 3) := by decide +kernel
theorem dX6_lamp_19 : decode cX6_lamp 19 = .ok (.ifCond .eq 12, 3) := by decide +kernel
theorem dX6_lamp_22 : decode cX6_lamp 22 = .ok (.aload_n 0, 1) := by decide +kernel
theorem dX6_lamp_23 : decode cX6_lamp 23 = .ok (.iload_n 1, 1) := by decide +kernel
theorem dX6_lamp_24 : decode cX6_lamp 24 = .ok (.iload_n 2, 1) := by decide +kernel
theorem dX6_lamp_25 : decode cX6_lamp 25 = .ok (.invokevirtual 70, 3) := by decide +kernel
theorem dX6_lamp_28 : decode cX6_lamp 28 = .ok (.goto 4, 3) := by decide +kernel
theorem dX6_lamp_31 : decode cX6_lamp 31 = .ok (.iconst (-1), 1) := by decide +kernel
theorem dX6_lamp_32 : decode cX6_lamp 32 = .ok (.ireturn, 1) := by decide +kernel
theorem dX6_isBetween_0 : decode cX6_isBetween 0 = .ok (.aload_n 0, 1) := by decide +kernel
theorem dX6_isBetween_1 : decode cX6_isBetween 1 = .ok (.iload_n 1, 1) := by decide +kernel
theorem dX6_isBetween_2 : decode cX6_isBetween 2 = .ok (.iconst 3, 1) := by decide +kernel
theorem dX6_isBetween_3 : decode cX6_isBetween 3 = .ok (.invokevirtual 138, 3) := by decide +kernel
theorem dX6_isBetween_6 : decode cX6_isBetween 6 = .ok (.istore 6, 2) := by decide +kernel
theorem dX6_isBetween_8 : decode cX6_isBetween 8 = .ok (.iload 6, 2) := by decide +kernel
theorem dX6_isBetween_10 : decode cX6_isBetween 10 = .ok (.iconst 1, 1) := by decide +kernel
theorem dX6_isBetween_11 : decode cX6_isBetween 11 = .ok (.if_icmp .ne 11, 3) := by decide +kernel
theorem dX6_isBetween_14 : decode cX6_isBetween 14 = .ok (.iconst 2, 1) := by decide +kernel
theorem dX6_isBetween_15 : decode cX6_isBetween 15 = .ok (.iload_n 2, 1) := by decide +kernel
theorem dX6_isBetween_16 : decode cX6_isBetween 16 = .ok (.imul, 1) := by decide +kernel
theorem dX6_isBetween_17 : decode cX6_isBetween 17 = .ok (.iconst 1, 1) := by decide +kernel
theorem dX6_isBetween_18 : decode cX6_isBetween 18 = .ok (.iadd, 1) := by decide +kernel
theorem dX6_isBetween_19 : decode cX6_isBetween 19 = .ok (.goto 8, 3) := by decide +kernel
theorem dX6_isBetween_22 : decode cX6_isBetween 22 = .ok (.iconst 2, 1) := by decide +kernel
theorem dX6_isBetween_23 : decode cX6_isBetween 23 = .ok (.iload_n 3, 1) := by decide +kernel
theorem dX6_isBetween_24 : decode cX6_isBetween 24 = .ok (.imul, 1) := by decide +kernel
theorem dX6_isBetween_25 : decode cX6_isBetween 25 = .ok (.iconst 1, 1) := by decide +kernel
theorem dX6_isBetween_26 : decode cX6_isBetween 26 = .ok (.iadd, 1) := by decide +kernel
theorem dX6_isBetween_27 : decode cX6_isBetween 27 = .ok (.istore 7, 2) := by decide +kernel
theorem dX6_isBetween_29 : decode cX6_isBetween 29 = .ok (.iload 6, 2) := by decide +kernel
theorem dX6_isBetween_31 : decode cX6_isBetween 31 = .ok (.iconst 1, 1) := by decide +kernel
theorem dX6_isBetween_32 : decode cX6_isBetween 32 = .ok (.if_icmp .ne 12, 3) := by decide +kernel
theorem dX6_isBetween_35 : decode cX6_isBetween 35 = .ok (.iconst 2, 1) := by decide +kernel
theorem dX6_isBetween_36 : decode cX6_isBetween 36 = .ok (.iload 4, 2) := by decide +kernel
theorem dX6_isBetween_38 : decode cX6_isBetween 38 = .ok (.imul, 1) := by decide +kernel
theorem dX6_isBetween_39 : decode cX6_isBetween 39 = .ok (.iconst 1, 1) := by decide +kernel
theorem dX6_isBetween_40 : decode cX6_isBetween 40 = .ok (.iadd, 1) := by decide +kernel
theorem dX6_isBetween_41 : decode cX6_isBetween 41 = .ok (.goto 9, 3) := by decide +kernel
theorem dX6_isBetween_44 : decode cX6_isBetween 44 = .ok (.iconst 2, 1) := by decide +kernel
theorem dX6_isBetween_45 : decode cX6_isBetween 45 = .ok (.iload 5, 2) := by decide +kernel
theorem dX6_isBetween_47 : decode cX6_isBetween 47 = .ok (.imul, 1) := by decide +kernel
theorem dX6_isBetween_48 : decode cX6_isBetween 48 = .ok (.iconst 1, 1) := by decide +kernel
theorem dX6_isBetween_49 : decode cX6_isBetween 49 = .ok (.iadd, 1) := by decide +kernel
theorem dX6_isBetween_50 : decode cX6_isBetween 50 = .ok (.istore 8, 2) := by decide +kernel
theorem dX6_isBetween_52 : decode cX6_isBetween 52 = .ok (.iload 6, 2) := by decide +kernel
theorem dX6_isBetween_54 : decode cX6_isBetween 54 = .ok (.iconst 1, 1) := by decide +kernel
theorem dX6_isBetween_55 : decode cX6_isBetween 55 = .ok (.if_icmp .ne 14, 3) := by decide +kernel
theorem dX6_isBetween_58 : decode cX6_isBetween 58 = .ok (.iconst 2, 1) := by decide +kernel
theorem dX6_isBetween_59 : decode cX6_isBetween 59 = .ok (.aload_n 0, 1) := by decide +kernel
theorem dX6_isBetween_60 : decode cX6_isBetween 60 = .ok (.iload_n 1, 1) := by decide +kernel
theorem dX6_isBetween_61 : decode cX6_isBetween 61 = .ok (.iconst 0, 1) := by decide +kernel
theorem dX6_isBetween_62 : decode cX6_isBetween 62 = .ok (.invokevirtual 138, 3) := by decide +kernel
theorem dX6_isBetween_65 : decode cX6_isBetween 65 = .ok (.imul, 1) := by decide +kernel
theorem dX6_isBetween_66 : decode cX6_isBetween 66 = .ok (.goto 11, 3) := by decide +kernel
theorem dX6_isBetween_69 : decode cX6_isBetween 69 = .ok (.iconst 2, 1) := by decide +kernel
theorem dX6_isBetween_70 : decode cX6_isBetween 70 = .ok (.aload_n 0, 1) := by decide +kernel
theorem dX6_isBetween_71 : decode cX6_isBetween 71 = .ok (.iload_n 1, 1) := by decide +kernel
theorem dX6_isBetween_72 : decode cX6_isBetween 72 = .ok (.iconst 1, 1) := by decide +kernel
theorem dX6_isBetween_73 : decode cX6_isBetween 73 = .ok (.invokevirtual 138, 3) := by decide +kernel
theorem dX6_isBetween_76 : decode cX6_isBetween 76 = .ok (.imul, 1) := by decide +kernel
theorem dX6_isBetween_77 : decode cX6_isBetween 77 = .ok (.istore 9, 2) := by decide +kernel
theorem dX6_isBetween_79 : decode cX6_isBetween 79 = .ok (.iload 7, 2) := by decide +kernel
theorem dX6_isBetween_81 : decode cX6_isBetween 81 = .ok (.iload 9, 2) := by decide +kernel
theorem dX6_isBetween_83 : decode cX6_isBetween 83 = .ok (.if_icmp .ge 7, 3) := by decide +kernel
theorem dX6_isBetween_86 : decode cX6_isBetween 86 = .ok (.iconst 1, 1) := by decide +kernel
theorem dX6_isBetween_87 : decode cX6_isBetween 87 = .ok (.goto 4, 3) := by decide +kernel
theorem dX6_isBetween_90 : decode cX6_isBetween 90 = .ok (.iconst 0, 1) := by decide +kernel
theorem dX6_isBetween_91 : decode cX6_isBetween 91 = .ok (.iload 8, 2) := by decide +kernel
theorem dX6_isBetween_93 : decode cX6_isBetween 93 = .ok (.iload 9, 2) := by decide +kernel
theorem dX6_isBetween_95 : decode cX6_isBetween 95 = .ok (.if_icmp .ge 7, 3) := by decide +kernel
theorem dX6_isBetween_98 : decode cX6_isBetween 98 = .ok (.iconst 1, 1) := by decide +kernel
theorem dX6_isBetween_99 : decode cX6_isBetween 99 = .ok (.goto 4, 3) := by decide +kernel
theorem dX6_isBetween_102 : decode cX6_isBetween 102 = .ok (.iconst 0, 1) := by decide +kernel
theorem dX6_isBetween_103 : decode cX6_isBetween 103 = .ok (.if_icmp .ne 5, 3) := by decide +kernel
theorem dX6_isBetween_106 : decode cX6_isBetween 106 = .ok (.iconst 0, 1) := by decide +kernel
theorem dX6_isBetween_107 : decode cX6_isBetween 107 = .ok (.ireturn, 1) := by decide +kernel
theorem dX6_isBetween_108 : decode cX6_isBetween 108 = .ok (.iload 6, 2) := by decide +kernel
theorem dX6_isBetween_110 : decode cX6_isBetween 110 = .ok (.iconst 1, 1) := by decide +kernel
theorem dX6_isBetween_111 : decode cX6_isBetween 111 = .ok (.if_icmp .ne 11, 3) := by decide +kernel
theorem dX6_isBetween_114 : decode cX6_isBetween 114 = .ok (.iconst 2, 1) := by decide +kernel
theorem dX6_isBetween_115 : decode cX6_isBetween 115 = .ok (.iload_n 3, 1) := by decide +kernel
theorem dX6_isBetween_116 : decode cX6_isBetween 116 = .ok (.imul, 1) := by decide +kernel
theorem dX6_isBetween_117 : decode cX6_isBetween 117 = .ok (.iconst 1, 1) := by decide +kernel
theorem dX6_isBetween_118 : decode cX6_isBetween 118 = .ok (.iadd, 1) := by decide +kernel
theorem dX6_isBetween_119 : decode cX6_isBetween 119 = .ok (.goto 8, 3) := by decide +kernel
theorem dX6_isBetween_122 : decode cX6_isBetween 122 = .ok (.iconst 2, 1) := by decide +kernel
theorem dX6_isBetween_123 : decode cX6_isBetween 123 = .ok (.iload_n 2, 1) := by decide +kernel
theorem dX6_isBetween_124 : decode cX6_isBetween 124 = .ok (.imul, 1) := by decide +kernel
theorem dX6_isBetween_125 : decode cX6_isBetween 125 = .ok (.iconst 1, 1) := by decide +kernel
theorem dX6_isBetween_126 : decode cX6_isBetween 126 = .ok (.iadd, 1) := by decide +kernel
theorem dX6_isBetween_127 : decode cX6_isBetween 127 = .ok (.istore 10, 2) := by decide +kernel
theorem dX6_isBetween_129 : decode cX6_isBetween 129 = .ok (.iload 6, 2) := by decide +kernel
theorem dX6_isBetween_131 : decode cX6_isBetween 131 = .ok (.iconst 1, 1) := by decide +kernel
theorem dX6_isBetween_132 : decode cX6_isBetween 132 = .ok (.if_icmp .ne 12, 3) := by decide +kernel
theorem dX6_isBetween_135 : decode cX6_isBetween 135 = .ok (.iconst 2, 1) := by decide +kernel
theorem dX6_isBetween_136 : decode cX6_isBetween 136 = .ok (.iload 5, 2) := by decide +kernel
theorem dX6_isBetween_138 : decode cX6_isBetween 138 = .ok (.imul, 1) := by decide +kernel
theorem dX6_isBetween_139 : decode cX6_isBetween 139 = .ok (.iconst 1, 1) := by decide +kernel
theorem dX6_isBetween_140 : decode cX6_isBetween 140 = .ok (.iadd, 1) := by decide +kernel
theorem dX6_isBetween_141 : decode cX6_isBetween 141 = .ok (.goto 9, 3) := by decide +kernel
theorem dX6_isBetween_144 : decode cX6_isBetween 144 = .ok (.iconst 2, 1) := by decide +kernel
theorem dX6_isBetween_145 : decode cX6_isBetween 145 = .ok (.iload 4, 2) := by decide +kernel
theorem dX6_isBetween_147 : decode cX6_isBetween 147 = .ok (.imul, 1) := by decide +kernel
theorem dX6_isBetween_148 : decode cX6_isBetween 148 = .ok (.iconst 1, 1) := by decide +kernel
theorem dX6_isBetween_149 : decode cX6_isBetween 149 = .ok (.iadd, 1) := by decide +kernel
theorem dX6_isBetween_150 : decode cX6_isBetween 150 = .ok (.istore 11, 2) := by decide +kernel
theorem dX6_isBetween_152 : decode cX6_isBetween 152 = .ok (.iload 6, 2) := by decide +kernel
theorem dX6_isBetween_154 : decode cX6_isBetween 154 = .ok (.iconst 1, 1) := by decide +kernel
theorem dX6_isBetween_155 : decode cX6_isBetween 155 = .ok (.if_icmp .ne 14, 3) := by decide +kernel
theorem dX6_isBetween_158 : decode cX6_isBetween 158 = .ok (.iconst 2, 1) := by decide +kernel
theorem dX6_isBetween_159 : decode cX6_isBetween 159 = .ok (.aload_n 0, 1) := by decide +kernel
theorem dX6_isBetween_160 : decode cX6_isBetween 160 = .ok (.iload_n 1, 1) := by decide +kernel
theorem dX6_isBetween_161 : decode cX6_isBetween 161 = .ok (.iconst 1, 1) := by decide +kernel
theorem dX6_isBetween_162 : decode cX6_isBetween 162 = .ok (.invokevirtual 138, 3) := by decide +kernel
theorem dX6_isBetween_165 : decode cX6_isBetween 165 = .ok (.imul, 1) := by decide +kernel
theorem dX6_isBetween_166 : decode cX6_isBetween 166 = .ok (.goto 11, 3) := by decide +kernel
theorem dX6_isBetween_169 : decode cX6_isBetween 169 = .ok (.iconst 2, 1) := by decide +kernel
theorem dX6_isBetween_170 : decode cX6_isBetween 170 = .ok (.aload_n 0, 1) := by decide +kernel
theorem dX6_isBetween_171 : decode cX6_isBetween 171 = .ok (.iload_n 1, 1) := by decide +kernel
theorem dX6_isBetween_172 : decode cX6_isBetween 172 = .ok (.iconst 0, 1) := by decide +kernel
theorem dX6_isBetween_173 : decode cX6_isBetween 173 = .ok (.invokevirtual 138, 3) := by decide +kernel
theorem dX6_isBetween_176 : decode cX6_isBetween 176 = .ok (.imul, 1) := by decide +kernel
theorem dX6_isBetween_177 : decode cX6_isBetween 177 = .ok (.istore 12, 2) := by decide +kernel
theorem dX6_isBetween_179 : decode cX6_isBetween 179 = .ok (.iload 8, 2) := by decide +kernel
theorem dX6_isBetween_181 : decode cX6_isBetween 181 = .ok (.iload 7, 2) := by decide +kernel
theorem dX6_isBetween_183 : decode cX6_isBetween 183 = .ok (.isub, 1) := by decide +kernel
theorem dX6_isBetween_184 : decode cX6_isBetween 184 = .ok (.istore 13, 2) := by decide +kernel
theorem dX6_isBetween_186 : decode cX6_isBetween 186 = .ok (.iload 10, 2) := by decide +kernel
theorem dX6_isBetween_188 : decode cX6_isBetween 188 = .ok (.iload 13, 2) := by decide +kernel
theorem dX6_isBetween_190 : decode cX6_isBetween 190 = .ok (.imul, 1) := by decide +kernel
theorem dX6_isBetween_191 : decode cX6_isBetween 191 = .ok (.iload 11, 2) := by decide +kernel
theorem dX6_isBetween_193 : decode cX6_isBetween 193 = .ok (.iload 10, 2) := by decide +kernel
theorem dX6_isBetween_195 : decode cX6_isBetween 195 = .ok (.isub, 1) := by decide +kernel
theorem dX6_isBetween_196 : decode cX6_isBetween 196 = .ok (.iload 9, 2) := by decide +kernel
theorem dX6_isBetween_198 : decode cX6_isBetween 198 = .ok (.iload 7, 2) := by decide +kernel
theorem dX6_isBetween_200 : decode cX6_isBetween 200 = .ok (.isub, 1) := by decide +kernel
theorem dX6_isBetween_201 : decode cX6_isBetween 201 = .ok (.imul, 1) := by decide +kernel
theorem dX6_isBetween_202 : decode cX6_isBetween 202 = .ok (.iadd, 1) := by decide +kernel
theorem dX6_isBetween_203 : decode cX6_isBetween 203 = .ok (.istore 14, 2) := by decide +kernel
theorem dX6_isBetween_205 : decode cX6_isBetween 205 = .ok (.iload 12, 2) := by decide +kernel
theorem dX6_isBetween_207 : decode cX6_isBetween 207 = .ok (.iload 13, 2) := by decide +kernel
theorem dX6_isBetween_209 : decode cX6_isBetween 209 = .ok (.imul, 1) := by decide +kernel
theorem dX6_isBetween_210 : decode cX6_isBetween 210 = .ok (.istore 15, 2) := by decide +kernel
theorem dX6_isBetween_212 : decode cX6_isBetween 212 = .ok (.iload 12, 2) := by decide +kernel
theorem dX6_isBetween_214 : decode cX6_isBetween 214 = .ok (.iconst 2, 1) := by decide +kernel
theorem dX6_isBetween_215 : decode cX6_isBetween 215 = .ok (.aload_n 0, 1) := by decide +kernel
theorem dX6_isBetween_216 : decode cX6_isBetween 216 = .ok (.iload_n 1, 1) := by decide +kernel
theorem dX6_isBetween_217 : decode cX6_isBetween 217 = .ok (.iconst 2, 1) := by decide +kernel
theorem dX6_isBetween_218 : decode cX6_isBetween 218 = .ok (.invokevirtual 138, 3) := by decide +kernel
theorem dX6_isBetween_221 : decode cX6_isBetween 221 = .ok (.imul, 1) := by decide +kernel
theorem dX6_isBetween_222 : decode cX6_isBetween 222 = .ok (.iadd, 1) := by decide +kernel
theorem dX6_isBetween_223 : decode cX6_isBetween 223 = .ok (.iload 13, 2) := by decide +kernel
theorem dX6_isBetween_225 : decode cX6_isBetween 225 = .ok (.imul, 1) := by decide +kernel
theorem dX6_isBetween_226 : decode cX6_isBetween 226 = .ok (.istore 16, 2) := by decide +kernel
theorem dX6_isBetween_228 : decode cX6_isBetween 228 = .ok (.iload 13, 2) := by decide +kernel
theorem dX6_isBetween_230 : decode cX6_isBetween 230 = .ok (.ifCond .le 25, 3) := by decide +kernel
theorem dX6_isBetween_233 : decode cX6_isBetween 233 = .ok (.iload 14, 2) := by decide +kernel
theorem dX6_isBetween_235 : decode cX6_isBetween 235 = .ok (.iload 15, 2) := by decide +kernel
theorem dX6_isBetween_237 : decode cX6_isBetween 237 = .ok (.if_icmp .lt 14, 3) := by decide +kernel
theorem dX6_isBetween_240 : decode cX6_isBetween 240 = .ok (.iload 14, 2) := by decide +kernel
theorem dX6_isBetween_242 : decode cX6_isBetween 242 = .ok (.iload 16, 2) := by decide +kernel
theorem dX6_isBetween_244 : decode cX6_isBetween 244 = .ok (.if_icmp .gt 7, 3) := by decide +kernel
theorem dX6_isBetween_247 : decode cX6_isBetween 247 = .ok (.iconst 1, 1) := by decide +kernel
theorem dX6_isBetween_248 : decode cX6_isBetween 248 = .ok (.goto 26, 3) := by decide +kernel
theorem dX6_isBetween_251 : decode cX6_isBetween 251 = .ok (.iconst 0, 1) := by decide +kernel
theorem dX6_isBetween_252 : decode cX6_isBetween 252 = .ok (.goto 22, 3) := by decide +kernel
theorem dX6_isBetween_255 : decode cX6_isBetween 255 = .ok (.iload 14, 2) := by decide +kernel
theorem dX6_isBetween_257 : decode cX6_isBetween 257 = .ok (.iload 15, 2) := by decide +kernel
theorem dX6_isBetween_259 : decode cX6_isBetween 259 = .ok (.if_icmp .gt 14, 3) := by decide +kernel
theorem dX6_isBetween_262 : decode cX6_isBetween 262 = .ok (.iload 14, 2) := by decide +kernel
theorem dX6_isBetween_264 : decode cX6_isBetween 264 = .ok (.iload 16, 2) := by decide +kernel
theorem dX6_isBetween_266 : decode cX6_isBetween 266 = .ok (.if_icmp .lt 7, 3) := by decide +kernel
theorem dX6_isBetween_269 : decode cX6_isBetween 269 = .ok (.iconst 1, 1) := by decide +kernel
theorem dX6_isBetween_270 : decode cX6_isBetween 270 = .ok (.goto 4, 3) := by decide +kernel
theorem dX6_isBetween_273 : decode cX6_isBetween 273 = .ok (.iconst 0, 1) := by decide +kernel
theorem dX6_isBetween_274 : decode cX6_isBetween 274 = .ok (.ireturn, 1) := by decide +kernel
theorem dX6_isLit_0 : decode cX6_isLit 0 = .ok (.iconst 1, 1) := by decide +kernel
theorem dX6_isLit_1 : decode cX6_isLit 1 = .ok (.istore 6, 2) := by decide +kernel
theorem dX6_isLit_3 : decode cX6_isLit 3 = .ok (.iconst 4, 1) := by decide +kernel
theorem dX6_isLit_4 : decode cX6_isLit 4 = .ok (.istore 7, 2) := by decide +kernel
theorem dX6_isLit_6 : decode cX6_isLit 6 = .ok (.iload 7, 2) := by decide +kernel
theorem dX6_isLit_8 : decode cX6_isLit 8 = .ok (.aload_n 0, 1) := by decide +kernel
theorem dX6_isLit_9 : decode cX6_isLit 9 = .ok (.getfield 7, 3) := by decide +kernel
theorem dX6_isLit_12 : decode cX6_isLit 12 = .ok (.iconst 1, 1) := by decide +kernel
theorem dX6_isLit_13 : decode cX6_isLit 13 = .ok (.iaload, 1) := by decide +kernel
theorem dX6_isLit_14 : decode cX6_isLit 14 = .ok (.if_icmp .ge 42, 3) := by decide +kernel
theorem dX6_isLit_17 : decode cX6_isLit 17 = .ok (.iload 6, 2) := by decide +kernel
theorem dX6_isLit_19 : decode cX6_isLit 19 = .ok (.ifCond .eq 37, 3) := by decide +kernel
theorem dX6_isLit_22 : decode cX6_isLit 22 = .ok (.iload 7, 2) := by decide +kernel
theorem dX6_isLit_24 : decode cX6_isLit 24 = .ok (.iload 5, 2) := by decide +kernel
theorem dX6_isLit_26 : decode cX6_isLit 26 = .ok (.if_icmp .eq 17, 3) := by decide +kernel
theorem dX6_isLit_29 : decode cX6_isLit 29 = .ok (.aload_n 0, 1) := by decide +kernel
theorem dX6_isLit_30 : decode cX6_isLit 30 = .ok (.iload 7, 2) := by decide +kernel
theorem dX6_isLit_32 : decode cX6_isLit 32 = .ok (.iload_n 1, 1) := by decide +kernel
theorem dX6_isLit_33 : decode cX6_isLit 33 = .ok (.iload_n 2, 1) := by decide +kernel
theorem dX6_isLit_34 : decode cX6_isLit 34 = .ok (.iload_n 3, 1) := by decide +kernel
theorem dX6_isLit_35 : decode cX6_isLit 35 = .ok (.iload 4, 2) := by decide +kernel
theorem dX6_isLit_37 : decode cX6_isLit 37 = .ok (.invokevirtual 144, 3) := by decide +kernel
theorem dX6_isLit_40 : decode cX6_isLit 40 = .ok (.ifCond .ne 7, 3) := by decide +kernel
theorem dX6_isLit_43 : decode cX6_isLit 43 = .ok (.iconst 1, 1) := by decide +kernel
theorem dX6_isLit_44 : decode cX6_isLit 44 = .ok (.goto 4, 3) := by decide +kernel
theorem dX6_isLit_47 : decode cX6_isLit 47 = .ok (.iconst 0, 1) := by decide +kernel
theorem dX6_isLit_48 : decode cX6_isLit 48 = .ok (.istore 6, 2) := by decide +kernel
theorem dX6_isLit_50 : decode cX6_isLit 50 = .ok (.iinc 7 1, 3) := by decide +kernel
theorem dX6_isLit_53 : decode cX6_isLit 53 = .ok (.goto (-47), 3) := by decide +kernel
theorem dX6_isLit_56 : decode cX6_isLit 56 = .ok (.iload 6, 2) := by decide +kernel
theorem dX6_isLit_58 : decode cX6_isLit 58 = .ok (.ireturn, 1) := by decide +kernel
theorem dX6_isLitBy_0 : decode cX6_isLitBy 0 = .ok (.aload_n 0, 1) := by decide +kernel
theorem dX6_isLitBy_1 : decode cX6_isLitBy 1 = .ok (.aload_n 0, 1) := by decide +kernel
theorem dX6_isLitBy_2 : decode cX6_isLitBy 2 = .ok (.iload_n 1, 1) := by decide +kernel
theorem dX6_isLitBy_3 : decode cX6_isLitBy 3 = .ok (.iconst 0, 1) := by decide +kernel
theorem dX6_isLitBy_4 : decode cX6_isLitBy 4 = .ok (.invokevirtual 70, 3) := by decide +kernel
theorem dX6_isLitBy_7 : decode cX6_isLitBy 7 = .ok (.aload_n 0, 1) := by decide +kernel
theorem dX6_isLitBy_8 : decode cX6_isLitBy 8 = .ok (.iload_n 1, 1) := by decide +kernel
theorem dX6_isLitBy_9 : decode cX6_isLitBy 9 = .ok (.iconst 1, 1) := by decide +kernel
theorem dX6_isLitBy_10 : decode cX6_isLitBy 10 = .ok (.invokevirtual 70, 3) := by decide +kernel
theorem dX6_isLitBy_13 : decode cX6_isLitBy 13 = .ok (.iload_n 2, 1) := by decide +kernel
theorem dX6_isLitBy_14 : decode cX6_isLitBy 14 = .ok (.iload_n 3, 1) := by decide +kernel
theorem dX6_isLitBy_15 : decode cX6_isLitBy 15 = .ok (.iload 4, 2) := by decide +kernel
theorem dX6_isLitBy_17 : decode cX6_isLitBy 17 = .ok (.invokevirtual 148, 3) := by decide +kernel
theorem dX6_isLitBy_20 : decode cX6_isLitBy 20 = .ok (.ireturn, 1) := by decide +kernel
theorem dX6_lampsOf_0 : decode cX6_lampsOf 0 = .ok (.iconst 0, 1) := by decide +kernel
theorem dX6_lampsOf_1 : decode cX6_lampsOf 1 = .ok (.istore 4, 2) := by decide +kernel
theorem dX6_lampsOf_3 : decode cX6_lampsOf 3 = .ok (.iconst 0, 1) := by decide +kernel
theorem dX6_lampsOf_4 : decode cX6_lampsOf 4 = .ok (.istore 5, 2) := by decide +kernel
theorem dX6_lampsOf_6 : decode cX6_lampsOf 6 = .ok (.iload 5, 2) := by decide +kernel
theorem dX6_lampsOf_8 : decode cX6_lampsOf 8 = .ok (.aload_n 0, 1) := by decide +kernel
theorem dX6_lampsOf_9 : decode cX6_lampsOf 9 = .ok (.getfield 7, 3) := by decide +kernel
theorem dX6_lampsOf_12 : decode cX6_lampsOf 12 = .ok (.iconst 0, 1) := by decide +kernel
theorem dX6_lampsOf_13 : decode cX6_lampsOf 13 = .ok (.iaload, 1) := by decide +kernel
theorem dX6_lampsOf_14 : decode cX6_lampsOf 14 = .ok (.if_icmp .ge 34, 3) := by decide +kernel
theorem dX6_lampsOf_17 : decode cX6_lampsOf 17 = .ok (.iload 4, 2) := by decide +kernel
theorem dX6_lampsOf_19 : decode cX6_lampsOf 19 = .ok (.aload_n 0, 1) := by decide +kernel
theorem dX6_lampsOf_20 : decode cX6_lampsOf 20 = .ok (.iload 5, 2) := by decide +kernel
theorem dX6_lampsOf_22 : decode cX6_lampsOf 22 = .ok (.iload_n 1, 1) := by decide +kernel
theorem dX6_lampsOf_23 : decode cX6_lampsOf 23 = .ok (.iload_n 2, 1) := by decide +kernel
theorem dX6_lampsOf_24 : decode cX6_lampsOf 24 = .ok (.iload_n 3, 1) := by decide +kernel
theorem dX6_lampsOf_25 : decode cX6_lampsOf 25 = .ok (.invokevirtual 151, 3) := by decide +kernel
theorem dX6_lampsOf_28 : decode cX6_lampsOf 28 = .ok (.ifCond .eq 10, 3) := by decide +kernel
theorem dX6_lampsOf_31 : decode cX6_lampsOf 31 = .ok (.iconst 1, 1) := by decide +kernel
theorem dX6_lampsOf_32 : decode cX6_lampsOf 32 = .ok (.iload 5, 2) := by decide +kernel
theorem dX6_lampsOf_34 : decode cX6_lampsOf 34 = .ok (.ishl, 1) := by decide +kernel
theorem dX6_lampsOf_35 : decode cX6_lampsOf 35 = .ok (.goto 4, 3) := by decide +kernel
theorem dX6_lampsOf_38 : decode cX6_lampsOf 38 = .ok (.iconst 0, 1) := by decide +kernel
theorem dX6_lampsOf_39 : decode cX6_lampsOf 39 = .ok (.ior, 1) := by decide +kernel
theorem dX6_lampsOf_40 : decode cX6_lampsOf 40 = .ok (.istore 4, 2) := by decide +kernel
theorem dX6_lampsOf_42 : decode cX6_lampsOf 42 = .ok (.iinc 5 1, 3) := by decide +kernel
theorem dX6_lampsOf_45 : decode cX6_lampsOf 45 = .ok (.goto (-39), 3) := by decide +kernel
theorem dX6_lampsOf_48 : decode cX6_lampsOf 48 = .ok (.iload 4, 2) := by decide +kernel
theorem dX6_lampsOf_50 : decode cX6_lampsOf 50 = .ok (.ireturn, 1) := by decide +kernel
theorem dX6_on_0 : decode cX6_on 0 = .ok (.iconst 0, 1) := by decide +kernel
theorem dX6_on_1 : decode cX6_on 1 = .ok (.istore_n 1, 1) := by decide +kernel
theorem dX6_on_2 : decode cX6_on 2 = .ok (.iconst 0, 1) := by decide +kernel
theorem dX6_on_3 : decode cX6_on 3 = .ok (.istore_n 2, 1) := by decide +kernel
theorem dX6_on_4 : decode cX6_on 4 = .ok (.iload_n 2, 1) := by decide +kernel
theorem dX6_on_5 : decode cX6_on 5 = .ok (.aload_n 0, 1) := by decide +kernel
theorem dX6_on_6 : decode cX6_on 6 = .ok (.getfield 7, 3) := by decide +kernel
theorem dX6_on_9 : decode cX6_on 9 = .ok (.iconst 0, 1) := by decide +kernel
theorem dX6_on_10 : decode cX6_on 10 = .ok (.iaload, 1) := by decide +kernel
theorem dX6_on_11 : decode cX6_on 11 = .ok (.if_icmp .ge 20, 3) := by decide +kernel
theorem dX6_on_14 : decode cX6_on 14 = .ok (.iload_n 1, 1) := by decide +kernel
theorem dX6_on_15 : decode cX6_on 15 = .ok (.aload_n 0, 1) := by decide +kernel
theorem dX6_on_16 : decode cX6_on 16 = .ok (.iload_n 2, 1) := by decide +kernel
theorem dX6_on_17 : decode cX6_on 17 = .ok (.iconst 2, 1) := by decide +kernel
theorem dX6_on_18 : decode cX6_on 18 = .ok (.invokevirtual 70, 3) := by decide +kernel
theorem dX6_on_21 : decode cX6_on 21 = .ok (.iload_n 2, 1) := by decide +kernel
theorem dX6_on_22 : decode cX6_on 22 = .ok (.ishl, 1) := by decide +kernel
theorem dX6_on_23 : decode cX6_on 23 = .ok (.ior, 1) := by decide +kernel
theorem dX6_on_24 : decode cX6_on 24 = .ok (.istore_n 1, 1) := by decide +kernel
theorem dX6_on_25 : decode cX6_on 25 = .ok (.iinc 2 1, 3) := by decide +kernel
theorem dX6_on_28 : decode cX6_on 28 = .ok (.goto (-24), 3) := by decide +kernel
theorem dX6_on_31 : decode cX6_on 31 = .ok (.iload_n 1, 1) := by decide +kernel
theorem dX6_on_32 : decode cX6_on 32 = .ok (.ireturn, 1) := by decide +kernel
theorem dX6_allBy_0 : decode cX6_allBy 0 = .ok (.iconst 0, 1) := by decide +kernel
theorem dX6_allBy_1 : decode cX6_allBy 1 = .ok (.istore_n 2, 1) := by decide +kernel
theorem dX6_allBy_2 : decode cX6_allBy 2 = .ok (.iconst 0, 1) := by decide +kernel
theorem dX6_allBy_3 : decode cX6_allBy 3 = .ok (.istore_n 3, 1) := by decide +kernel
theorem dX6_allBy_4 : decode cX6_allBy 4 = .ok (.iload_n 3, 1) := by decide +kernel
theorem dX6_allBy_5 : decode cX6_allBy 5 = .ok (.aload_n 0, 1) := by decide +kernel
theorem dX6_allBy_6 : decode cX6_allBy 6 = .ok (.getfield 60, 3) := by decide +kernel
theorem dX6_allBy_9 : decode cX6_allBy 9 = .ok (.aload_n 0, 1) := by decide +kernel
theorem dX6_allBy_10 : decode cX6_allBy 10 = .ok (.getfield 67, 3) := by decide +kernel
theorem dX6_allBy_13 : decode cX6_allBy 13 = .ok (.imul, 1) := by decide +kernel
theorem dX6_allBy_14 : decode cX6_allBy 14 = .ok (.if_icmp .ge 42, 3) := by decide +kernel
theorem dX6_allBy_17 : decode cX6_allBy 17 = .ok (.iload_n 2, 1) := by decide +kernel
theorem dX6_allBy_18 : decode cX6_allBy 18 = .ok (.aload_n 0, 1) := by decide +kernel
theorem dX6_allBy_19 : decode cX6_allBy 19 = .ok (.iload_n 3, 1) := by decide +kernel
theorem dX6_allBy_20 : decode cX6_allBy 20 = .ok (.aload_n 0, 1) := by decide +kernel
theorem dX6_allBy_21 : decode cX6_allBy 21 = .ok (.getfield 60, 3) := by decide +kernel
theorem dX6_allBy_24 : decode cX6_allBy 24 = .ok (.irem, 1) := by decide +kernel
theorem dX6_allBy_25 : decode cX6_allBy 25 = .ok (.iload_n 3, 1) := by decide +kernel
theorem dX6_allBy_26 : decode cX6_allBy 26 = .ok (.aload_n 0, 1) := by decide +kernel
theorem dX6_allBy_27 : decode cX6_allBy 27 = .ok (.getfield 60, 3) := by decide +kernel
theorem dX6_allBy_30 : decode cX6_allBy 30 = .ok (.idiv, 1) := by decide +kernel
theorem dX6_allBy_31 : decode cX6_allBy 31 = .ok (.iload_n 1, 1) := by decide +kernel
theorem dX6_allBy_32 : decode cX6_allBy 32 = .ok (.invokevirtual 155, 3) := by decide +kernel
theorem dX6_allBy_35 : decode cX6_allBy 35 = .ok (.aload_n 0, 1) := by decide +kernel
theorem dX6_allBy_36 : decode cX6_allBy 36 = .ok (.invokevirtual 159, 3) := by decide +kernel
theorem dX6_allBy_39 : decode cX6_allBy 39 = .ok (.iand, 1) := by decide +kernel
theorem dX6_allBy_40 : decode cX6_allBy 40 = .ok (.ifCond .eq 7, 3) := by decide +kernel
theorem dX6_allBy_43 : decode cX6_allBy 43 = .ok (.iconst 1, 1) := by decide +kernel
theorem dX6_allBy_44 : decode cX6_allBy 44 = .ok (.goto 4, 3) := by decide +kernel
theorem dX6_allBy_47 : decode cX6_allBy 47 = .ok (.iconst 0, 1) := by decide +kernel
theorem dX6_allBy_48 : decode cX6_allBy 48 = .ok (.iadd, 1) := by decide +kernel
theorem dX6_allBy_49 : decode cX6_allBy 49 = .ok (.istore_n 2, 1) := by decide +kernel
theorem dX6_allBy_50 : decode cX6_allBy 50 = .ok (.iinc 3 1, 3) := by decide +kernel
theorem dX6_allBy_53 : decode cX6_allBy 53 = .ok (.goto (-49), 3) := by decide +kernel
theorem dX6_allBy_56 : decode cX6_allBy 56 = .ok (.iload_n 2, 1) := by decide +kernel
theorem dX6_allBy_57 : decode cX6_allBy 57 = .ok (.ireturn, 1) := by decide +kernel
theorem dX6_lit_0 : decode cX6_lit 0 = .ok (.aload_n 0, 1) := by decide +kernel
theorem dX6_lit_1 : decode cX6_lit 1 = .ok (.iconst 0, 1) := by decide +kernel
theorem dX6_lit_2 : decode cX6_lit 2 = .ok (.putfield 56, 3) := by decide +kernel
theorem dX6_lit_5 : decode cX6_lit 5 = .ok (.aload_n 0, 1) := by decide +kernel
theorem dX6_lit_6 : decode cX6_lit 6 = .ok (.iload_n 1, 1) := by decide +kernel
theorem dX6_lit_7 : decode cX6_lit 7 = .ok (.invokevirtual 141, 3) := by decide +kernel
theorem dX6_lit_10 : decode cX6_lit 10 = .ok (.ifCond .eq 12, 3) := by decide +kernel
theorem dX6_lit_13 : decode cX6_lit 13 = .ok (.aload_n 0, 1) := by decide +kernel
theorem dX6_lit_14 : decode cX6_lit 14 = .ok (.iload_n 2, 1) := by decide +kernel
theorem dX6_lit_15 : decode cX6_lit 15 = .ok (.iload_n 3, 1) := by decide +kernel
theorem dX6_lit_16 : decode cX6_lit 16 = .ok (.invokevirtual 163, 3) := by decide +kernel
theorem dX6_lit_19 : decode cX6_lit 19 = .ok (.ifCond .ne 5, 3) := by decide +kernel
theorem dX6_lit_22 : decode cX6_lit 22 = .ok (.iconst (-1), 1) := by decide +kernel
theorem dX6_lit_23 : decode cX6_lit 23 = .ok (.ireturn, 1) := by decide +kernel
theorem dX6_lit_24 : decode cX6_lit 24 = .ok (.aload_n 0, 1) := by decide +kernel
theorem dX6_lit_25 : decode cX6_lit 25 = .ok (.iload_n 1, 1) := by decide +kernel
theorem dX6_lit_26 : decode cX6_lit 26 = .ok (.iload_n 2, 1) := by decide +kernel
theorem dX6_lit_27 : decode cX6_lit 27 = .ok (.iload_n 3, 1) := by decide +kernel
theorem dX6_lit_28 : decode cX6_lit 28 = .ok (.bipush (-9), 2) := by decide +kernel
theorem dX6_lit_30 : decode cX6_lit 30 = .ok (.invokevirtual 151, 3) := by decide +kernel
theorem dX6_lit_33 : decode cX6_lit 33 = .ok (.ifCond .eq 7, 3) := by decide +kernel
theorem dX6_lit_36 : decode cX6_lit 36 = .ok (.iconst 1, 1) := by decide +kernel
theorem dX6_lit_37 : decode cX6_lit 37 = .ok (.goto 4, 3) := by decide +kernel
theorem dX6_lit_40 : decode cX6_lit 40 = .ok (.iconst 0, 1) := by decide +kernel
theorem dX6_lit_41 : decode cX6_lit 41 = .ok (.ireturn, 1) := by decide +kernel
theorem dX6_by_0 : decode cX6_by 0 = .ok (.aload_n 0, 1) := by decide +kernel
theorem dX6_by_1 : decode cX6_by 1 = .ok (.iconst 0, 1) := by decide +kernel
theorem dX6_by_2 : decode cX6_by 2 = .ok (.putfield 56, 3) := by decide +kernel
theorem dX6_by_5 : decode cX6_by 5 = .ok (.aload_n 0, 1) := by decide +kernel
theorem dX6_by_6 : decode cX6_by 6 = .ok (.iload_n 1, 1) := by decide +kernel
theorem dX6_by_7 : decode cX6_by 7 = .ok (.iload_n 2, 1) := by decide +kernel
theorem dX6_by_8 : decode cX6_by 8 = .ok (.invokevirtual 163, 3) := by decide +kernel
theorem dX6_by_11 : decode cX6_by 11 = .ok (.ifCond .eq 19, 3) := by decide +kernel
theorem dX6_by_14 : decode cX6_by 14 = .ok (.aload_n 0, 1) := by decide +kernel
theorem dX6_by_15 : decode cX6_by 15 = .ok (.iload_n 1, 1) := by decide +kernel
theorem dX6_by_16 : decode cX6_by 16 = .ok (.iload_n 2, 1) := by decide +kernel
theorem dX6_by_17 : decode cX6_by 17 = .ok (.bipush (-9), 2) := by decide +kernel
theorem dX6_by_19 : decode cX6_by 19 = .ok (.invokevirtual 155, 3) := by decide +kernel
theorem dX6_by_22 : decode cX6_by 22 = .ok (.aload_n 0, 1) := by decide +kernel
theorem dX6_by_23 : decode cX6_by 23 = .ok (.invokevirtual 159, 3) := by decide +kernel
theorem dX6_by_26 : decode cX6_by 26 = .ok (.iand, 1) := by decide +kernel
theorem dX6_by_27 : decode cX6_by 27 = .ok (.goto 4, 3) := by decide +kernel
theorem dX6_by_30 : decode cX6_by 30 = .ok (.iconst (-1), 1) := by decide +kernel
theorem dX6_by_31 : decode cX6_by 31 = .ok (.ireturn, 1) := by decide +kernel
theorem dX6_lights_0 : decode cX6_lights 0 = .ok (.aload_n 0, 1) := by decide +kernel
theorem dX6_lights_1 : decode cX6_lights 1 = .ok (.iconst 0, 1) := by decide +kernel
theorem dX6_lights_2 : decode cX6_lights 2 = .ok (.putfield 56, 3) := by decide +kernel
theorem dX6_lights_5 : decode cX6_lights 5 = .ok (.aload_n 0, 1) := by decide +kernel
theorem dX6_lights_6 : decode cX6_lights 6 = .ok (.iload_n 1, 1) := by decide +kernel
theorem dX6_lights_7 : decode cX6_lights 7 = .ok (.invokevirtual 141, 3) := by decide +kernel
theorem dX6_lights_10 : decode cX6_lights 10 = .ok (.ifCond .ne 5, 3) := by decide +kernel
theorem dX6_lights_13 : decode cX6_lights 13 = .ok (.iconst (-1), 1) := by decide +kernel
theorem dX6_lights_14 : decode cX6_lights 14 = .ok (.ireturn, 1) := by decide +kernel
theorem dX6_lights_15 : decode cX6_lights 15 = .ok (.iconst 0, 1) := by decide +kernel
theorem dX6_lights_16 : decode cX6_lights 16 = .ok (.istore_n 2, 1) := by decide +kernel
theorem dX6_lights_17 : decode cX6_lights 17 = .ok (.iconst 0, 1) := by decide +kernel
theorem dX6_lights_18 : decode cX6_lights 18 = .ok (.istore_n 3, 1) := by decide +kernel
theorem dX6_lights_19 : decode cX6_lights 19 = .ok (.iload_n 3, 1) := by decide +kernel
theorem dX6_lights_20 : decode cX6_lights 20 = .ok (.aload_n 0, 1) := by decide +kernel
theorem dX6_lights_21 : decode cX6_lights 21 = .ok (.getfield 60, 3) := by decide +kernel
theorem dX6_lights_24 : decode cX6_lights 24 = .ok (.aload_n 0, 1) := by decide +kernel
theorem dX6_lights_25 : decode cX6_lights 25 = .ok (.getfield 67, 3) := by decide +kernel
theorem dX6_lights_28 : decode cX6_lights 28 = .ok (.imul, 1) := by decide +kernel
theorem dX6_lights_29 : decode cX6_lights 29 = .ok (.if_icmp .ge 39, 3) := by decide +kernel
theorem dX6_lights_32 : decode cX6_lights 32 = .ok (.iload_n 2, 1) := by decide +kernel
theorem dX6_lights_33 : decode cX6_lights 33 = .ok (.aload_n 0, 1) := by decide +kernel
theorem dX6_lights_34 : decode cX6_lights 34 = .ok (.iload_n 1, 1) := by decide +kernel
theorem dX6_lights_35 : decode cX6_lights 35 = .ok (.iload_n 3, 1) := by decide +kernel
theorem dX6_lights_36 : decode cX6_lights 36 = .ok (.aload_n 0, 1) := by decide +kernel
theorem dX6_lights_37 : decode cX6_lights 37 = .ok (.getfield 60, 3) := by decide +kernel
theorem dX6_lights_40 : decode cX6_lights 40 = .ok (.irem, 1) := by decide +kernel
theorem dX6_lights_41 : decode cX6_lights 41 = .ok (.iload_n 3, 1) := by decide +kernel
theorem dX6_lights_42 : decode cX6_lights 42 = .ok (.aload_n 0, 1) := by decide +kernel
theorem dX6_lights_43 : decode cX6_lights 43 = .ok (.getfield 60, 3) := by decide +kernel
theorem dX6_lights_46 : decode cX6_lights 46 = .ok (.idiv, 1) := by decide +kernel
theorem dX6_lights_47 : decode cX6_lights 47 = .ok (.bipush (-9), 2) := by decide +kernel
theorem dX6_lights_49 : decode cX6_lights 49 = .ok (.invokevirtual 151, 3) := by decide +kernel
theorem dX6_lights_52 : decode cX6_lights 52 = .ok (.ifCond .eq 7, 3) := by decide +kernel
theorem dX6_lights_55 : decode cX6_lights 55 = .ok (.iconst 1, 1) := by decide +kernel
theorem dX6_lights_56 : decode cX6_lights 56 = .ok (.goto 4, 3) := by decide +kernel
theorem dX6_lights_59 : decode cX6_lights 59 = .ok (.iconst 0, 1) := by decide +kernel
theorem dX6_lights_60 : decode cX6_lights 60 = .ok (.iadd, 1) := by decide +kernel
theorem dX6_lights_61 : decode cX6_lights 61 = .ok (.istore_n 2, 1) := by decide +kernel
theorem dX6_lights_62 : decode cX6_lights 62 = .ok (.iinc 3 1, 3) := by decide +kernel
theorem dX6_lights_65 : decode cX6_lights 65 = .ok (.goto (-46), 3) := by decide +kernel
theorem dX6_lights_68 : decode cX6_lights 68 = .ok (.iload_n 2, 1) := by decide +kernel
theorem dX6_lights_69 : decode cX6_lights 69 = .ok (.ireturn, 1) := by decide +kernel
theorem dX6_all_0 : decode cX6_all 0 = .ok (.aload_n 0, 1) := by decide +kernel
theorem dX6_all_1 : decode cX6_all 1 = .ok (.iconst 0, 1) := by decide +kernel
theorem dX6_all_2 : decode cX6_all 2 = .ok (.putfield 56, 3) := by decide +kernel
theorem dX6_all_5 : decode cX6_all 5 = .ok (.aload_n 0, 1) := by decide +kernel
theorem dX6_all_6 : decode cX6_all 6 = .ok (.bipush (-9), 2) := by decide +kernel
theorem dX6_all_8 : decode cX6_all 8 = .ok (.invokevirtual 166, 3) := by decide +kernel
theorem dX6_all_11 : decode cX6_all 11 = .ok (.ireturn, 1) := by decide +kernel
theorem dX6_divisor_0 : decode cX6_divisor 0 = .ok (.iload_n 0, 1) := by decide +kernel
theorem dX6_divisor_1 : decode cX6_divisor 1 = .ok (.invokestatic 170, 3) := by decide +kernel
theorem dX6_divisor_4 : decode cX6_divisor 4 = .ok (.istore_n 2, 1) := by decide +kernel
theorem dX6_divisor_5 : decode cX6_divisor 5 = .ok (.iload_n 1, 1) := by decide +kernel
theorem dX6_divisor_6 : decode cX6_divisor 6 = .ok (.invokestatic 170, 3) := by decide +kernel
theorem dX6_divisor_9 : decode cX6_divisor 9 = .ok (.istore_n 3, 1) := by decide +kernel
theorem dX6_divisor_10 : decode cX6_divisor 10 = .ok (.iload_n 3, 1) := by decide +kernel
theorem dX6_divisor_11 : decode cX6_divisor 11 = .ok (.ifCond .eq 16, 3) := by decide +kernel
theorem dX6_divisor_14 : decode cX6_divisor 14 = .ok (.iload_n 2, 1) := by decide +kernel
theorem dX6_divisor_15 : decode cX6_divisor 15 = .ok (.iload_n 3, 1) := by decide +kernel
theorem dX6_divisor_16 : decode cX6_divisor 16 = .ok (.irem, 1) := by decide +kernel
theorem dX6_divisor_17 : decode cX6_divisor 17 = .ok (.istore 4, 2) := by decide +kernel
theorem dX6_divisor_19 : decode cX6_divisor 19 = .ok (.iload_n 3, 1) := by decide +kernel
theorem dX6_divisor_20 : decode cX6_divisor 20 = .ok (.istore_n 2, 1) := by decide +kernel
theorem dX6_divisor_21 : decode cX6_divisor 21 = .ok (.iload 4, 2) := by decide +kernel
theorem dX6_divisor_23 : decode cX6_divisor 23 = .ok (.istore_n 3, 1) := by decide +kernel
theorem dX6_divisor_24 : decode cX6_divisor 24 = .ok (.goto (-14), 3) := by decide +kernel
theorem dX6_divisor_27 : decode cX6_divisor 27 = .ok (.iload_n 2, 1) := by decide +kernel
theorem dX6_divisor_28 : decode cX6_divisor 28 = .ok (.ireturn, 1) := by decide +kernel
theorem dX6_isAhead_0 : decode cX6_isAhead 0 = .ok (.iload_n 1, 1) := by decide +kernel
theorem dX6_isAhead_1 : decode cX6_isAhead 1 = .ok (.ifCond .le 7, 3) := by decide +kernel
theorem dX6_isAhead_4 : decode cX6_isAhead 4 = .ok (.iconst 1, 1) := by decide +kernel
theorem dX6_isAhead_5 : decode cX6_isAhead 5 = .ok (.goto 4, 3) := by decide +kernel
theorem dX6_isAhead_8 : decode cX6_isAhead 8 = .ok (.iconst 0, 1) := by decide +kernel
theorem dX6_isAhead_9 : decode cX6_isAhead 9 = .ok (.iload_n 3, 1) := by decide +kernel
theorem dX6_isAhead_10 : decode cX6_isAhead 10 = .ok (.ifCond .le 7, 3) := by decide +kernel
theorem dX6_isAhead_13 : decode cX6_isAhead 13 = .ok (.iconst 1, 1) := by decide +kernel
theorem dX6_isAhead_14 : decode cX6_isAhead 14 = .ok (.goto 4, 3) := by decide +kernel
theorem dX6_isAhead_17 : decode cX6_isAhead 17 = .ok (.iconst 0, 1) := by decide +kernel
theorem dX6_isAhead_18 : decode cX6_isAhead 18 = .ok (.if_icmp .eq 13, 3) := by decide +kernel
theorem dX6_isAhead_21 : decode cX6_isAhead 21 = .ok (.iload_n 1, 1) := by decide +kernel
theorem dX6_isAhead_22 : decode cX6_isAhead 22 = .ok (.ifCond .le 7, 3) := by decide +kernel
theorem dX6_isAhead_25 : decode cX6_isAhead 25 = .ok (.iconst 1, 1) := by decide +kernel
theorem dX6_isAhead_26 : decode cX6_isAhead 26 = .ok (.goto 4, 3) := by decide +kernel
theorem dX6_isAhead_29 : decode cX6_isAhead 29 = .ok (.iconst 0, 1) := by decide +kernel
theorem dX6_isAhead_30 : decode cX6_isAhead 30 = .ok (.ireturn, 1) := by decide +kernel
theorem dX6_isAhead_31 : decode cX6_isAhead 31 = .ok (.iload_n 0, 1) := by decide +kernel
theorem dX6_isAhead_32 : decode cX6_isAhead 32 = .ok (.iload_n 3, 1) := by decide +kernel
theorem dX6_isAhead_33 : decode cX6_isAhead 33 = .ok (.imul, 1) := by decide +kernel
theorem dX6_isAhead_34 : decode cX6_isAhead 34 = .ok (.iload_n 1, 1) := by decide +kernel
theorem dX6_isAhead_35 : decode cX6_isAhead 35 = .ok (.iload_n 2, 1) := by decide +kernel
theorem dX6_isAhead_36 : decode cX6_isAhead 36 = .ok (.imul, 1) := by decide +kernel
theorem dX6_isAhead_37 : decode cX6_isAhead 37 = .ok (.isub, 1) := by decide +kernel
theorem dX6_isAhead_38 : decode cX6_isAhead 38 = .ok (.ifCond .le 7, 3) := by decide +kernel
theorem dX6_isAhead_41 : decode cX6_isAhead 41 = .ok (.iconst 1, 1) := by decide +kernel
theorem dX6_isAhead_42 : decode cX6_isAhead 42 = .ok (.goto 4, 3) := by decide +kernel
theorem dX6_isAhead_45 : decode cX6_isAhead 45 = .ok (.iconst 0, 1) := by decide +kernel
theorem dX6_isAhead_46 : decode cX6_isAhead 46 = .ok (.ireturn, 1) := by decide +kernel
theorem dX6_comes_0 : decode cX6_comes 0 = .ok (.iconst 2, 1) := by decide +kernel
theorem dX6_comes_1 : decode cX6_comes 1 = .ok (.iload_n 2, 1) := by decide +kernel
theorem dX6_comes_2 : decode cX6_comes 2 = .ok (.imul, 1) := by decide +kernel
theorem dX6_comes_3 : decode cX6_comes 3 = .ok (.iconst 2, 1) := by decide +kernel
theorem dX6_comes_4 : decode cX6_comes 4 = .ok (.aload_n 0, 1) := by decide +kernel
theorem dX6_comes_5 : decode cX6_comes 5 = .ok (.iload_n 1, 1) := by decide +kernel
theorem dX6_comes_6 : decode cX6_comes 6 = .ok (.iconst 0, 1) := by decide +kernel
theorem dX6_comes_7 : decode cX6_comes 7 = .ok (.invokevirtual 70, 3) := by decide +kernel
theorem dX6_comes_10 : decode cX6_comes 10 = .ok (.imul, 1) := by decide +kernel
theorem dX6_comes_11 : decode cX6_comes 11 = .ok (.isub, 1) := by decide +kernel
theorem dX6_comes_12 : decode cX6_comes 12 = .ok (.iconst 1, 1) := by decide +kernel
theorem dX6_comes_13 : decode cX6_comes 13 = .ok (.isub, 1) := by decide +kernel
theorem dX6_comes_14 : decode cX6_comes 14 = .ok (.istore 4, 2) := by decide +kernel
theorem dX6_comes_16 : decode cX6_comes 16 = .ok (.iconst 2, 1) := by decide +kernel
theorem dX6_comes_17 : decode cX6_comes 17 = .ok (.iload_n 3, 1) := by decide +kernel
theorem dX6_comes_18 : decode cX6_comes 18 = .ok (.imul, 1) := by decide +kernel
theorem dX6_comes_19 : decode cX6_comes 19 = .ok (.iconst 2, 1) := by decide +kernel
theorem dX6_comes_20 : decode cX6_comes 20 = .ok (.aload_n 0, 1) := by decide +kernel
theorem dX6_comes_21 : decode cX6_comes 21 = .ok (.iload_n 1, 1) := by decide +kernel
theorem dX6_comes_22 : decode cX6_comes 22 = .ok (.iconst 1, 1) := by decide +kernel
theorem dX6_comes_23 : decode cX6_comes 23 = .ok (.invokevirtual 70, 3) := by decide +kernel
theorem dX6_comes_26 : decode cX6_comes 26 = .ok (.imul, 1) := by decide +kernel
theorem dX6_comes_27 : decode cX6_comes 27 = .ok (.isub, 1) := by decide +kernel
theorem dX6_comes_28 : decode cX6_comes 28 = .ok (.iconst 1, 1) := by decide +kernel
theorem dX6_comes_29 : decode cX6_comes 29 = .ok (.isub, 1) := by decide +kernel
theorem dX6_comes_30 : decode cX6_comes 30 = .ok (.istore 5, 2) := by decide +kernel
theorem dX6_comes_32 : decode cX6_comes 32 = .ok (.iload 4, 2) := by decide +kernel
theorem dX6_comes_34 : decode cX6_comes 34 = .ok (.iload 5, 2) := by decide +kernel
theorem dX6_comes_36 : decode cX6_comes 36 = .ok (.invokestatic 173, 3) := by decide +kernel
theorem dX6_comes_39 : decode cX6_comes 39 = .ok (.istore 6, 2) := by decide +kernel
theorem dX6_comes_41 : decode cX6_comes 41 = .ok (.iload 4, 2) := by decide +kernel
theorem dX6_comes_43 : decode cX6_comes 43 = .ok (.iload 6, 2) := by decide +kernel
theorem dX6_comes_45 : decode cX6_comes 45 = .ok (.idiv, 1) := by decide +kernel
theorem dX6_comes_46 : decode cX6_comes 46 = .ok (.istore 4, 2) := by decide +kernel
theorem dX6_comes_48 : decode cX6_comes 48 = .ok (.iload 5, 2) := by decide +kernel
theorem dX6_comes_50 : decode cX6_comes 50 = .ok (.iload 6, 2) := by decide +kernel
theorem dX6_comes_52 : decode cX6_comes 52 = .ok (.idiv, 1) := by decide +kernel
theorem dX6_comes_53 : decode cX6_comes 53 = .ok (.istore 5, 2) := by decide +kernel
theorem dX6_comes_55 : decode cX6_comes 55 = .ok (.iconst 0, 1) := by decide +kernel
theorem dX6_comes_56 : decode cX6_comes 56 = .ok (.istore 7, 2) := by decide +kernel
theorem dX6_comes_58 : decode cX6_comes 58 = .ok (.iload 7, 2) := by decide +kernel
theorem dX6_comes_60 : decode cX6_comes 60 = .ok (.aload_n 0, 1) := by decide +kernel
theorem dX6_comes_61 : decode cX6_comes 61 = .ok (.getfield 176, 3) := by decide +kernel
theorem dX6_comes_64 : decode cX6_comes 64 = .ok (.if_icmp .ge 33, 3) := by decide +kernel
theorem dX6_comes_67 : decode cX6_comes 67 = .ok (.aload_n 0, 1) := by decide +kernel
theorem dX6_comes_68 : decode cX6_comes 68 = .ok (.getfield 41, 3) := by decide +kernel
theorem dX6_comes_71 : decode cX6_comes 71 = .ok (.iload 7, 2) := by decide +kernel
theorem dX6_comes_73 : decode cX6_comes 73 = .ok (.iaload, 1) := by decide +kernel
theorem dX6_comes_74 : decode cX6_comes 74 = .ok (.aload_n 0, 1) := by decide +kernel
theorem dX6_comes_75 : decode cX6_comes 75 = .ok (.getfield 44, 3) := by decide +kernel
theorem dX6_comes_78 : decode cX6_comes 78 = .ok (.iload 7, 2) := by decide +kernel
theorem dX6_comes_80 : decode cX6_comes 80 = .ok (.iaload, 1) := by decide +kernel
theorem dX6_comes_81 : decode cX6_comes 81 = .ok (.iload 4, 2) := by decide +kernel
theorem dX6_comes_83 : decode cX6_comes 83 = .ok (.iload 5, 2) := by decide +kernel
theorem dX6_comes_85 : decode cX6_comes 85 = .ok (.invokestatic 179, 3) := by decide +kernel
theorem dX6_comes_88 : decode cX6_comes 88 = .ok (.ifCond .eq 9, 3) := by decide +kernel
theorem dX6_comes_91 : decode cX6_comes 91 = .ok (.iinc 7 1, 3) := by decide +kernel
theorem dX6_comes_94 : decode cX6_comes 94 = .ok (.goto (-36), 3) := by decide +kernel
theorem dX6_comes_97 : decode cX6_comes 97 = .ok (.iload 7, 2) := by decide +kernel
theorem dX6_comes_99 : decode cX6_comes 99 = .ok (.aload_n 0, 1) := by decide +kernel
theorem dX6_comes_100 : decode cX6_comes 100 = .ok (.getfield 176, 3) := by decide +kernel
theorem dX6_comes_103 : decode cX6_comes 103 = .ok (.if_icmp .ge 28, 3) := by decide +kernel
theorem dX6_comes_106 : decode cX6_comes 106 = .ok (.aload_n 0, 1) := by decide +kernel
theorem dX6_comes_107 : decode cX6_comes 107 = .ok (.getfield 41, 3) := by decide +kernel
theorem dX6_comes_110 : decode cX6_comes 110 = .ok (.iload 7, 2) := by decide +kernel
theorem dX6_comes_112 : decode cX6_comes 112 = .ok (.iaload, 1) := by decide +kernel
theorem dX6_comes_113 : decode cX6_comes 113 = .ok (.iload 4, 2) := by decide +kernel
theorem dX6_comes_115 : decode cX6_comes 115 = .ok (.if_icmp .ne 16, 3) := by decide +kernel
theorem dX6_comes_118 : decode cX6_comes 118 = .ok (.aload_n 0, 1) := by decide +kernel
theorem dX6_comes_119 : decode cX6_comes 119 = .ok (.getfield 44, 3) := by decide +kernel
theorem dX6_comes_122 : decode cX6_comes 122 = .ok (.iload 7, 2) := by decide +kernel
theorem dX6_comes_124 : decode cX6_comes 124 = .ok (.iaload, 1) := by decide +kernel
theorem dX6_comes_125 : decode cX6_comes 125 = .ok (.iload 5, 2) := by decide +kernel
theorem dX6_comes_127 : decode cX6_comes 127 = .ok (.if_icmp .ne 4, 3) := by decide +kernel
theorem dX6_comes_130 : decode cX6_comes 130 = .ok (.return_, 1) := by decide +kernel
theorem dX6_comes_131 : decode cX6_comes 131 = .ok (.aload_n 0, 1) := by decide +kernel
theorem dX6_comes_132 : decode cX6_comes 132 = .ok (.getfield 176, 3) := by decide +kernel
theorem dX6_comes_135 : decode cX6_comes 135 = .ok (.istore 8, 2) := by decide +kernel
theorem dX6_comes_137 : decode cX6_comes 137 = .ok (.iload 8, 2) := by decide +kernel
theorem dX6_comes_139 : decode cX6_comes 139 = .ok (.iload 7, 2) := by decide +kernel
theorem dX6_comes_141 : decode cX6_comes 141 = .ok (.if_icmp .le 41, 3) := by decide +kernel
theorem dX6_comes_144 : decode cX6_comes 144 = .ok (.aload_n 0, 1) := by decide +kernel
theorem dX6_comes_145 : decode cX6_comes 145 = .ok (.getfield 41, 3) := by decide +kernel
theorem dX6_comes_148 : decode cX6_comes 148 = .ok (.iload 8, 2) := by decide +kernel
theorem dX6_comes_150 : decode cX6_comes 150 = .ok (.aload_n 0, 1) := by decide +kernel
theorem dX6_comes_151 : decode cX6_comes 151 = .ok (.getfield 41, 3) := by decide +kernel
theorem dX6_comes_154 : decode cX6_comes 154 = .ok (.iload 8, 2) := by decide +kernel
theorem dX6_comes_156 : decode cX6_comes 156 = .ok (.iconst 1, 1) := by decide +kernel
theorem dX6_comes_157 : decode cX6_comes 157 = .ok (.isub, 1) := by decide +kernel
theorem dX6_comes_158 : decode cX6_comes 158 = .ok (.iaload, 1) := by decide +kernel
theorem dX6_comes_159 : decode cX6_comes 159 = .ok (.iastore, 1) := by decide +kernel
theorem dX6_comes_160 : decode cX6_comes 160 = .ok (.aload_n 0, 1) := by decide +kernel
theorem dX6_comes_161 : decode cX6_comes 161 = .ok (.getfield 44, 3) := by decide +kernel
theorem dX6_comes_164 : decode cX6_comes 164 = .ok (.iload 8, 2) := by decide +kernel
theorem dX6_comes_166 : decode cX6_comes 166 = .ok (.aload_n 0, 1) := by decide +kernel
theorem dX6_comes_167 : decode cX6_comes 167 = .ok (.getfield 44, 3) := by decide +kernel
theorem dX6_comes_170 : decode cX6_comes 170 = .ok (.iload 8, 2) := by decide +kernel
theorem dX6_comes_172 : decode cX6_comes 172 = .ok (.iconst 1, 1) := by decide +kernel
theorem dX6_comes_173 : decode cX6_comes 173 = .ok (.isub, 1) := by decide +kernel
theorem dX6_comes_174 : decode cX6_comes 174 = .ok (.iaload, 1) := by decide +kernel
theorem dX6_comes_175 : decode cX6_comes 175 = .ok (.iastore, 1) := by decide +kernel
theorem dX6_comes_176 : decode cX6_comes 176 = .ok (.iinc 8 (-1), 3) := by decide +kernel
theorem dX6_comes_179 : decode cX6_comes 179 = .ok (.goto (-42), 3) := by decide +kernel
theorem dX6_comes_182 : decode cX6_comes 182 = .ok (.aload_n 0, 1) := by decide +kernel
theorem dX6_comes_183 : decode cX6_comes 183 = .ok (.getfield 41, 3) := by decide +kernel
theorem dX6_comes_186 : decode cX6_comes 186 = .ok (.iload 7, 2) := by decide +kernel
theorem dX6_comes_188 : decode cX6_comes 188 = .ok (.iload 4, 2) := by decide +kernel
theorem dX6_comes_190 : decode cX6_comes 190 = .ok (.iastore, 1) := by decide +kernel
theorem dX6_comes_191 : decode cX6_comes 191 = .ok (.aload_n 0, 1) := by decide +kernel
theorem dX6_comes_192 : decode cX6_comes 192 = .ok (.getfield 44, 3) := by decide +kernel
theorem dX6_comes_195 : decode cX6_comes 195 = .ok (.iload 7, 2) := by decide +kernel
theorem dX6_comes_197 : decode cX6_comes 197 = .ok (.iload 5, 2) := by decide +kernel
theorem dX6_comes_199 : decode cX6_comes 199 = .ok (.iastore, 1) := by decide +kernel
theorem dX6_comes_200 : decode cX6_comes 200 = .ok (.aload_n 0, 1) := by decide +kernel
theorem dX6_comes_201 : decode cX6_comes 201 = .ok (.dup, 1) := by decide +kernel
theorem dX6_comes_202 : decode cX6_comes 202 = .ok (.getfield 176, 3) := by decide +kernel
theorem dX6_comes_205 : decode cX6_comes 205 = .ok (.iconst 1, 1) := by decide +kernel
theorem dX6_comes_206 : decode cX6_comes 206 = .ok (.iadd, 1) := by decide +kernel
theorem dX6_comes_207 : decode cX6_comes 207 = .ok (.putfield 176, 3) := by decide +kernel
theorem dX6_comes_210 : decode cX6_comes 210 = .ok (.return_, 1) := by decide +kernel
theorem dX6_laysEvents_0 : decode cX6_laysEvents 0 = .ok (.aload_n 0, 1) := by decide +kernel
theorem dX6_laysEvents_1 : decode cX6_laysEvents 1 = .ok (.iconst 0, 1) := by decide +kernel
theorem dX6_laysEvents_2 : decode cX6_laysEvents 2 = .ok (.putfield 176, 3) := by decide +kernel
theorem dX6_laysEvents_5 : decode cX6_laysEvents 5 = .ok (.iconst 0, 1) := by decide +kernel
theorem dX6_laysEvents_6 : decode cX6_laysEvents 6 = .ok (.istore_n 2, 1) := by decide +kernel
theorem dX6_laysEvents_7 : decode cX6_laysEvents 7 = .ok (.iload_n 2, 1) := by decide +kernel
theorem dX6_laysEvents_8 : decode cX6_laysEvents 8 = .ok (.aload_n 0, 1) := by decide +kernel
theorem dX6_laysEvents_9 : decode cX6_laysEvents 9 = .ok (.getfield 7, 3) := by decide +kernel
theorem dX6_laysEvents_12 : decode cX6_laysEvents 12 = .ok (.iconst 1, 1) := by decide +kernel
theorem dX6_laysEvents_13 : decode cX6_laysEvents 13 = .ok (.iaload, 1) := by decide +kernel
theorem dX6_laysEvents_14 : decode cX6_laysEvents 14 = .ok (.if_icmp .ge 199, 3) := by decide +kernel
theorem dX6_laysEvents_17 : decode cX6_laysEvents 17 = .ok (.aload_n 0, 1) := by decide +kernel
theorem dX6_laysEvents_18 : decode cX6_laysEvents 18 = .ok (.iload_n 2, 1) := by decide +kernel
theorem dX6_laysEvents_19 : decode cX6_laysEvents 19 = .ok (.iconst 0, 1) := by decide +kernel
theorem dX6_laysEvents_20 : decode cX6_laysEvents 20 = .ok (.invokevirtual 138, 3) := by decide +kernel
theorem dX6_laysEvents_23 : decode cX6_laysEvents 23 = .ok (.istore_n 3, 1) := by decide +kernel
theorem dX6_laysEvents_24 : decode cX6_laysEvents 24 = .ok (.aload_n 0, 1) := by decide +kernel
theorem dX6_laysEvents_25 : decode cX6_laysEvents 25 = .ok (.iload_n 2, 1) := by decide +kernel
theorem dX6_laysEvents_26 : decode cX6_laysEvents 26 = .ok (.iconst 1, 1) := by decide +kernel
theorem dX6_laysEvents_27 : decode cX6_laysEvents 27 = .ok (.invokevirtual 138, 3) := by decide +kernel
theorem dX6_laysEvents_30 : decode cX6_laysEvents 30 = .ok (.istore 4, 2) := by decide +kernel
theorem dX6_laysEvents_32 : decode cX6_laysEvents 32 = .ok (.aload_n 0, 1) := by decide +kernel
theorem dX6_laysEvents_33 : decode cX6_laysEvents 33 = .ok (.iload_n 2, 1) := by decide +kernel
theorem dX6_laysEvents_34 : decode cX6_laysEvents 34 = .ok (.iconst 2, 1) := by decide +kernel
theorem dX6_laysEvents_35 : decode cX6_laysEvents 35 = .ok (.invokevirtual 138, 3) := by decide +kernel
theorem dX6_laysEvents_38 : decode cX6_laysEvents 38 = .ok (.istore 5, 2) := by decide +kernel
theorem dX6_laysEvents_40 : decode cX6_laysEvents 40 = .ok (.aload_n 0, 1) := by decide +kernel
theorem dX6_laysEvents_41 : decode cX6_laysEvents 41 = .ok (.iload_n 2, 1) := by decide +kernel
theorem dX6_laysEvents_42 : decode cX6_laysEvents 42 = .ok (.iconst 3, 1) := by decide +kernel
theorem dX6_laysEvents_43 : decode cX6_laysEvents 43 = .ok (.invokevirtual 138, 3) := by decide +kernel
theorem dX6_laysEvents_46 : decode cX6_laysEvents 46 = .ok (.iconst 1, 1) := by decide +kernel
theorem dX6_laysEvents_47 : decode cX6_laysEvents 47 = .ok (.if_icmp .ne 7, 3) := by decide +kernel
theorem dX6_laysEvents_50 : decode cX6_laysEvents 50 = .ok (.iconst 1, 1) := by decide +kernel
theorem dX6_laysEvents_51 : decode cX6_laysEvents 51 = .ok (.goto 4, 3) := by decide +kernel
theorem dX6_laysEvents_54 : decode cX6_laysEvents 54 = .ok (.iconst 0, 1) := by decide +kernel
theorem dX6_laysEvents_55 : decode cX6_laysEvents 55 = .ok (.istore 6, 2) := by decide +kernel
theorem dX6_laysEvents_57 : decode cX6_laysEvents 57 = .ok (.aload_n 0, 1) := by decide +kernel
theorem dX6_laysEvents_58 : decode cX6_laysEvents 58 = .ok (.iload_n 1, 1) := by decide +kernel
theorem dX6_laysEvents_59 : decode cX6_laysEvents 59 = .ok (.iload_n 3, 1) := by decide +kernel
theorem dX6_laysEvents_60 : decode cX6_laysEvents 60 = .ok (.iload 4, 2) := by decide +kernel
theorem dX6_laysEvents_62 : decode cX6_laysEvents 62 = .ok (.invokevirtual 182, 3) := by decide +kernel
theorem dX6_laysEvents_65 : decode cX6_laysEvents 65 = .ok (.aload_n 0, 1) := by decide +kernel
theorem dX6_laysEvents_66 : decode cX6_laysEvents 66 = .ok (.iload_n 1, 1) := by decide +kernel
theorem dX6_laysEvents_67 : decode cX6_laysEvents 67 = .ok (.iload 6, 2) := by decide +kernel
theorem dX6_laysEvents_69 : decode cX6_laysEvents 69 = .ok (.ifCond .eq 7, 3) := by decide +kernel
theorem dX6_laysEvents_72 : decode cX6_laysEvents 72 = .ok (.iload_n 3, 1) := by decide +kernel
theorem dX6_laysEvents_73 : decode cX6_laysEvents 73 = .ok (.goto 7, 3) := by decide +kernel
theorem dX6_laysEvents_76 : decode cX6_laysEvents 76 = .ok (.iload_n 3, 1) := by decide +kernel
theorem dX6_laysEvents_77 : decode cX6_laysEvents 77 = .ok (.iload 5, 2) := by decide +kernel
theorem dX6_laysEvents_79 : decode cX6_laysEvents 79 = .ok (.iadd, 1) := by decide +kernel
theorem dX6_laysEvents_80 : decode cX6_laysEvents 80 = .ok (.iload 6, 2) := by decide +kernel
theorem dX6_laysEvents_82 : decode cX6_laysEvents 82 = .ok (.ifCond .eq 11, 3) := by decide +kernel
theorem dX6_laysEvents_85 : decode cX6_laysEvents 85 = .ok (.iload 4, 2) := by decide +kernel
theorem dX6_laysEvents_87 : decode cX6_laysEvents 87 = .ok (.iload 5, 2) := by decide +kernel
theorem dX6_laysEvents_89 : decode cX6_laysEvents 89 = .ok (.iadd, 1) := by decide +kernel
theorem dX6_laysEvents_90 : decode cX6_laysEvents 90 = .ok (.goto 5, 3) := by decide +kernel
theorem dX6_laysEvents_93 : decode cX6_laysEvents 93 = .ok (.iload 4, 2) := by decide +kernel
theorem dX6_laysEvents_95 : decode cX6_laysEvents 95 = .ok (.invokevirtual 182, 3) := by decide +kernel
theorem dX6_laysEvents_98 : decode cX6_laysEvents 98 = .ok (.iconst 0, 1) := by decide +kernel
theorem dX6_laysEvents_99 : decode cX6_laysEvents 99 = .ok (.istore 7, 2) := by decide +kernel
theorem dX6_laysEvents_101 : decode cX6_laysEvents 101 = .ok (.iload 7, 2) := by decide +kernel
theorem dX6_laysEvents_103 : decode cX6_laysEvents 103 = .ok (.aload_n 0, 1) := by decide +kernel
theorem dX6_laysEvents_104 : decode cX6_laysEvents 104 = .ok (.getfield 7, 3) := by decide +kernel
theorem dX6_laysEvents_107 : decode cX6_laysEvents 107 = .ok (.iconst 1, 1) := by decide +kernel
theorem dX6_laysEvents_108 : decode cX6_laysEvents 108 = .ok (.iaload, 1) := by decide +kernel
theorem dX6_laysEvents_109 : decode cX6_laysEvents 109 = .ok (.if_icmp .ge 98, 3) := by decide +kernel
theorem dX6_laysEvents_112 : decode cX6_laysEvents 112 = .ok (.iload 6, 2) := by decide +kernel
theorem dX6_laysEvents_114 : decode cX6_laysEvents 114 = .ok (.ifCond .eq 93, 3) := by decide +kernel
theorem dX6_laysEvents_117 : decode cX6_laysEvents 117 = .ok (.aload_n 0, 1) := by decide +kernel
theorem dX6_laysEvents_118 : decode cX6_laysEvents 118 = .ok (.iload 7, 2) := by decide +kernel
theorem dX6_laysEvents_120 : decode cX6_laysEvents 120 = .ok (.iconst 3, 1) := by decide +kernel
theorem dX6_laysEvents_121 : decode cX6_laysEvents 121 = .ok (.invokevirtual 138, 3) := by decide +kernel
theorem dX6_laysEvents_124 : decode cX6_laysEvents 124 = .ok (.ifCond .ne 7, 3) := by decide +kernel
theorem dX6_laysEvents_127 : decode cX6_laysEvents 127 = .ok (.iconst 1, 1) := by decide +kernel
theorem dX6_laysEvents_128 : decode cX6_laysEvents 128 = .ok (.goto 4, 3) := by decide +kernel
theorem dX6_laysEvents_131 : decode cX6_laysEvents 131 = .ok (.iconst 0, 1) := by decide +kernel
theorem dX6_laysEvents_132 : decode cX6_laysEvents 132 = .ok (.istore 8, 2) := by decide +kernel
theorem dX6_laysEvents_134 : decode cX6_laysEvents 134 = .ok (.iload 8, 2) := by decide +kernel
theorem dX6_laysEvents_136 : decode cX6_laysEvents 136 = .ok (.ifCond .eq 65, 3) := by decide +kernel
theorem dX6_laysEvents_139 : decode cX6_laysEvents 139 = .ok (.iload_n 3, 1) := by decide +kernel
theorem dX6_laysEvents_140 : decode cX6_laysEvents 140 = .ok (.aload_n 0, 1) := by decide +kernel
theorem dX6_laysEvents_141 : decode cX6_laysEvents 141 = .ok (.iload 7, 2) := by decide +kernel
theorem dX6_laysEvents_143 : decode cX6_laysEvents 143 = .ok (.iconst 0, 1) := by decide +kernel
theorem dX6_laysEvents_144 : decode cX6_laysEvents 144 = .ok (.invokevirtual 138, 3) := by decide +kernel
theorem dX6_laysEvents_147 : decode cX6_laysEvents 147 = .ok (.aload_n 0, 1) := by decide +kernel
theorem dX6_laysEvents_148 : decode cX6_laysEvents 148 = .ok (.iload 7, 2) := by decide +kernel
theorem dX6_laysEvents_150 : decode cX6_laysEvents 150 = .ok (.iconst 0, 1) := by decide +kernel
theorem dX6_laysEvents_151 : decode cX6_laysEvents 151 = .ok (.invokevirtual 138, 3) := by decide +kernel
theorem dX6_laysEvents_154 : decode cX6_laysEvents 154 = .ok (.aload_n 0, 1) := by decide +kernel
theorem dX6_laysEvents_155 : decode cX6_laysEvents 155 = .ok (.iload 7, 2) := by decide +kernel
theorem dX6_laysEvents_157 : decode cX6_laysEvents 157 = .ok (.iconst 2, 1) := by decide +kernel
theorem dX6_laysEvents_158 : decode cX6_laysEvents 158 = .ok (.invokevirtual 138, 3) := by decide +kernel
theorem dX6_laysEvents_161 : decode cX6_laysEvents 161 = .ok (.iadd, 1) := by decide +kernel
theorem dX6_laysEvents_162 : decode cX6_laysEvents 162 = .ok (.invokestatic 63, 3) := by decide +kernel
theorem dX6_laysEvents_165 : decode cX6_laysEvents 165 = .ok (.ifCond .eq 36, 3) := by decide +kernel
theorem dX6_laysEvents_168 : decode cX6_laysEvents 168 = .ok (.aload_n 0, 1) := by decide +kernel
theorem dX6_laysEvents_169 : decode cX6_laysEvents 169 = .ok (.iload 7, 2) := by decide +kernel
theorem dX6_laysEvents_171 : decode cX6_laysEvents 171 = .ok (.iconst 1, 1) := by decide +kernel
theorem dX6_laysEvents_172 : decode cX6_laysEvents 172 = .ok (.invokevirtual 138, 3) := by decide +kernel
theorem dX6_laysEvents_175 : decode cX6_laysEvents 175 = .ok (.iload 4, 2) := by decide +kernel
theorem dX6_laysEvents_177 : decode cX6_laysEvents 177 = .ok (.iload 4, 2) := by decide +kernel
theorem dX6_laysEvents_179 : decode cX6_laysEvents 179 = .ok (.iload 5, 2) := by decide +kernel
theorem dX6_laysEvents_181 : decode cX6_laysEvents 181 = .ok (.iadd, 1) := by decide +kernel
theorem dX6_laysEvents_182 : decode cX6_laysEvents 182 = .ok (.invokestatic 63, 3) := by decide +kernel
theorem dX6_laysEvents_185 : decode cX6_laysEvents 185 = .ok (.ifCond .eq 16, 3) := by decide +kernel
theorem dX6_laysEvents_188 : decode cX6_laysEvents 188 = .ok (.aload_n 0, 1) := by decide +kernel
theorem dX6_laysEvents_189 : decode cX6_laysEvents 189 = .ok (.iload_n 1, 1) := by decide +kernel
theorem dX6_laysEvents_190 : decode cX6_laysEvents 190 = .ok (.iload_n 3, 1) := by decide +kernel
theorem dX6_laysEvents_191 : decode cX6_laysEvents 191 = .ok (.aload_n 0, 1) := by decide +kernel
theorem dX6_laysEvents_192 : decode cX6_laysEvents 192 = .ok (.iload 7, 2) := by decide +kernel
theorem dX6_laysEvents_194 : decode cX6_laysEvents 194 = .ok (.iconst 1, 1) := by decide +kernel
theorem dX6_laysEvents_195 : decode cX6_laysEvents 195 = .ok (.invokevirtual 138, 3) := by decide +kernel
theorem dX6_laysEvents_198 : decode cX6_laysEvents 198 = .ok (.invokevirtual 182, 3) := by decide +kernel
theorem dX6_laysEvents_201 : decode cX6_laysEvents 201 = .ok (.iinc 7 1, 3) := by decide +kernel
theorem dX6_laysEvents_204 : decode cX6_laysEvents 204 = .ok (.goto (-103), 3) := by decide +kernel
theorem dX6_laysEvents_207 : decode cX6_laysEvents 207 = .ok (.iinc 2 1, 3) := by decide +kernel
theorem dX6_laysEvents_210 : decode cX6_laysEvents 210 = .ok (.goto (-203), 3) := by decide +kernel
theorem dX6_laysEvents_213 : decode cX6_laysEvents 213 = .ok (.return_, 1) := by decide +kernel
theorem dX6_meets_0 : decode cX6_meets 0 = .ok (.aload_n 0, 1) := by decide +kernel
theorem dX6_meets_1 : decode cX6_meets 1 = .ok (.iload_n 2, 1) := by decide +kernel
theorem dX6_meets_2 : decode cX6_meets 2 = .ok (.iconst 3, 1) := by decide +kernel
theorem dX6_meets_3 : decode cX6_meets 3 = .ok (.invokevirtual 138, 3) := by decide +kernel
theorem dX6_meets_6 : decode cX6_meets 6 = .ok (.iconst 1, 1) := by decide +kernel
theorem dX6_meets_7 : decode cX6_meets 7 = .ok (.if_icmp .ne 7, 3) := by decide +kernel
theorem dX6_meets_10 : decode cX6_meets 10 = .ok (.iconst 1, 1) := by decide +kernel
theorem dX6_meets_11 : decode cX6_meets 11 = .ok (.goto 4, 3) := by decide +kernel
theorem dX6_meets_14 : decode cX6_meets 14 = .ok (.iconst 0, 1) := by decide +kernel
theorem dX6_meets_15 : decode cX6_meets 15 = .ok (.istore 5, 2) := by decide +kernel
theorem dX6_meets_17 : decode cX6_meets 17 = .ok (.iload 5, 2) := by decide +kernel
theorem dX6_meets_19 : decode cX6_meets 19 = .ok (.ifCond .eq 25, 3) := by decide +kernel
theorem dX6_meets_22 : decode cX6_meets 22 = .ok (.iconst 2, 1) := by decide +kernel
theorem dX6_meets_23 : decode cX6_meets 23 = .ok (.aload_n 0, 1) := by decide +kernel
theorem dX6_meets_24 : decode cX6_meets 24 = .ok (.iload_n 2, 1) := by decide +kernel
theorem dX6_meets_25 : decode cX6_meets 25 = .ok (.iconst 0, 1) := by decide +kernel
theorem dX6_meets_26 : decode cX6_meets 26 = .ok (.invokevirtual 138, 3) := by decide +kernel
theorem dX6_meets_29 : decode cX6_meets 29 = .ok (.imul, 1) := by decide +kernel
theorem dX6_meets_30 : decode cX6_meets 30 = .ok (.iconst 2, 1) := by decide +kernel
theorem dX6_meets_31 : decode cX6_meets 31 = .ok (.aload_n 0, 1) := by decide +kernel
theorem dX6_meets_32 : decode cX6_meets 32 = .ok (.iload_n 1, 1) := by decide +kernel
theorem dX6_meets_33 : decode cX6_meets 33 = .ok (.iconst 0, 1) := by decide +kernel
theorem dX6_meets_34 : decode cX6_meets 34 = .ok (.invokevirtual 70, 3) := by decide +kernel
theorem dX6_meets_37 : decode cX6_meets 37 = .ok (.imul, 1) := by decide +kernel
theorem dX6_meets_38 : decode cX6_meets 38 = .ok (.isub, 1) := by decide +kernel
theorem dX6_meets_39 : decode cX6_meets 39 = .ok (.iconst 1, 1) := by decide +kernel
theorem dX6_meets_40 : decode cX6_meets 40 = .ok (.isub, 1) := by decide +kernel
theorem dX6_meets_41 : decode cX6_meets 41 = .ok (.goto 22, 3) := by decide +kernel
theorem dX6_meets_44 : decode cX6_meets 44 = .ok (.iconst 2, 1) := by decide +kernel
theorem dX6_meets_45 : decode cX6_meets 45 = .ok (.aload_n 0, 1) := by decide +kernel
theorem dX6_meets_46 : decode cX6_meets 46 = .ok (.iload_n 2, 1) := by decide +kernel
theorem dX6_meets_47 : decode cX6_meets 47 = .ok (.iconst 1, 1) := by decide +kernel
theorem dX6_meets_48 : decode cX6_meets 48 = .ok (.invokevirtual 138, 3) := by decide +kernel
theorem dX6_meets_51 : decode cX6_meets 51 = .ok (.imul, 1) := by decide +kernel
theorem dX6_meets_52 : decode cX6_meets 52 = .ok (.iconst 2, 1) := by decide +kernel
theorem dX6_meets_53 : decode cX6_meets 53 = .ok (.aload_n 0, 1) := by decide +kernel
theorem dX6_meets_54 : decode cX6_meets 54 = .ok (.iload_n 1, 1) := by decide +kernel
theorem dX6_meets_55 : decode cX6_meets 55 = .ok (.iconst 1, 1) := by decide +kernel
theorem dX6_meets_56 : decode cX6_meets 56 = .ok (.invokevirtual 70, 3) := by decide +kernel
theorem dX6_meets_59 : decode cX6_meets 59 = .ok (.imul, 1) := by decide +kernel
theorem dX6_meets_60 : decode cX6_meets 60 = .ok (.isub, 1) := by decide +kernel
theorem dX6_meets_61 : decode cX6_meets 61 = .ok (.iconst 1, 1) := by decide +kernel
theorem dX6_meets_62 : decode cX6_meets 62 = .ok (.isub, 1) := by decide +kernel
theorem dX6_meets_63 : decode cX6_meets 63 = .ok (.istore 6, 2) := by decide +kernel
theorem dX6_meets_65 : decode cX6_meets 65 = .ok (.iload 5, 2) := by decide +kernel
theorem dX6_meets_67 : decode cX6_meets 67 = .ok (.ifCond .eq 7, 3) := by decide +kernel
theorem dX6_meets_70 : decode cX6_meets 70 = .ok (.iload_n 3, 1) := by decide +kernel
theorem dX6_meets_71 : decode cX6_meets 71 = .ok (.goto 5, 3) := by decide +kernel
theorem dX6_meets_74 : decode cX6_meets 74 = .ok (.iload 4, 2) := by decide +kernel
theorem dX6_meets_76 : decode cX6_meets 76 = .ok (.istore 7, 2) := by decide +kernel
theorem dX6_meets_78 : decode cX6_meets 78 = .ok (.iload 5, 2) := by decide +kernel
theorem dX6_meets_80 : decode cX6_meets 80 = .ok (.ifCond .eq 8, 3) := by decide +kernel
theorem dX6_meets_83 : decode cX6_meets 83 = .ok (.iload 4, 2) := by decide +kernel
theorem dX6_meets_85 : decode cX6_meets 85 = .ok (.goto 4, 3) := by decide +kernel
theorem dX6_meets_88 : decode cX6_meets 88 = .ok (.iload_n 3, 1) := by decide +kernel
theorem dX6_meets_89 : decode cX6_meets 89 = .ok (.istore 8, 2) := by decide +kernel
theorem dX6_meets_91 : decode cX6_meets 91 = .ok (.iload 7, 2) := by decide +kernel
theorem dX6_meets_93 : decode cX6_meets 93 = .ok (.ifCond .eq 26, 3) := by decide +kernel
theorem dX6_meets_96 : decode cX6_meets 96 = .ok (.iload 6, 2) := by decide +kernel
theorem dX6_meets_98 : decode cX6_meets 98 = .ok (.ifCond .le 7, 3) := by decide +kernel
theorem dX6_meets_101 : decode cX6_meets 101 = .ok (.iconst 1, 1) := by decide +kernel
theorem dX6_meets_102 : decode cX6_meets 102 = .ok (.goto 4, 3) := by decide +kernel
theorem dX6_meets_105 : decode cX6_meets 105 = .ok (.iconst 0, 1) := by decide +kernel
theorem dX6_meets_106 : decode cX6_meets 106 = .ok (.iload 7, 2) := by decide +kernel
theorem dX6_meets_108 : decode cX6_meets 108 = .ok (.ifCond .le 7, 3) := by decide +kernel
theorem dX6_meets_111 : decode cX6_meets 111 = .ok (.iconst 1, 1) := by decide +kernel
theorem dX6_meets_112 : decode cX6_meets 112 = .ok (.goto 4, 3) := by decide +kernel
theorem dX6_meets_115 : decode cX6_meets 115 = .ok (.iconst 0, 1) := by decide +kernel
theorem dX6_meets_116 : decode cX6_meets 116 = .ok (.if_icmp .eq 5, 3) := by decide +kernel
theorem dX6_meets_119 : decode cX6_meets 119 = .ok (.iconst 0, 1) := by decide +kernel
theorem dX6_meets_120 : decode cX6_meets 120 = .ok (.ireturn, 1) := by decide +kernel
theorem dX6_meets_121 : decode cX6_meets 121 = .ok (.aload_n 0, 1) := by decide +kernel
theorem dX6_meets_122 : decode cX6_meets 122 = .ok (.iload 6, 2) := by decide +kernel
theorem dX6_meets_124 : decode cX6_meets 124 = .ok (.invokestatic 170, 3) := by decide +kernel
theorem dX6_meets_127 : decode cX6_meets 127 = .ok (.putfield 186, 3) := by decide +kernel
theorem dX6_meets_130 : decode cX6_meets 130 = .ok (.aload_n 0, 1) := by decide +kernel
theorem dX6_meets_131 : decode cX6_meets 131 = .ok (.iload 7, 2) := by decide +kernel
theorem dX6_meets_133 : decode cX6_meets 133 = .ok (.invokestatic 170, 3) := by decide +kernel
theorem dX6_meets_136 : decode cX6_meets 136 = .ok (.putfield 189, 3) := by decide +kernel
theorem dX6_meets_139 : decode cX6_meets 139 = .ok (.iload 5, 2) := by decide +kernel
theorem dX6_meets_141 : decode cX6_meets 141 = .ok (.ifCond .eq 25, 3) := by decide +kernel
theorem dX6_meets_144 : decode cX6_meets 144 = .ok (.iconst 2, 1) := by decide +kernel
theorem dX6_meets_145 : decode cX6_meets 145 = .ok (.aload_n 0, 1) := by decide +kernel
theorem dX6_meets_146 : decode cX6_meets 146 = .ok (.iload_n 2, 1) := by decide +kernel
theorem dX6_meets_147 : decode cX6_meets 147 = .ok (.iconst 1, 1) := by decide +kernel
theorem dX6_meets_148 : decode cX6_meets 148 = .ok (.invokevirtual 138, 3) := by decide +kernel
theorem dX6_meets_151 : decode cX6_meets 151 = .ok (.imul, 1) := by decide +kernel
theorem dX6_meets_152 : decode cX6_meets 152 = .ok (.iconst 2, 1) := by decide +kernel
theorem dX6_meets_153 : decode cX6_meets 153 = .ok (.aload_n 0, 1) := by decide +kernel
theorem dX6_meets_154 : decode cX6_meets 154 = .ok (.iload_n 1, 1) := by decide +kernel
theorem dX6_meets_155 : decode cX6_meets 155 = .ok (.iconst 1, 1) := by decide +kernel
theorem dX6_meets_156 : decode cX6_meets 156 = .ok (.invokevirtual 70, 3) := by decide +kernel
theorem dX6_meets_159 : decode cX6_meets 159 = .ok (.imul, 1) := by decide +kernel
theorem dX6_meets_160 : decode cX6_meets 160 = .ok (.isub, 1) := by decide +kernel
theorem dX6_meets_161 : decode cX6_meets 161 = .ok (.iconst 1, 1) := by decide +kernel
theorem dX6_meets_162 : decode cX6_meets 162 = .ok (.isub, 1) := by decide +kernel
theorem dX6_meets_163 : decode cX6_meets 163 = .ok (.goto 22, 3) := by decide +kernel
theorem dX6_meets_166 : decode cX6_meets 166 = .ok (.iconst 2, 1) := by decide +kernel
theorem dX6_meets_167 : decode cX6_meets 167 = .ok (.aload_n 0, 1) := by decide +kernel
theorem dX6_meets_168 : decode cX6_meets 168 = .ok (.iload_n 2, 1) := by decide +kernel
theorem dX6_meets_169 : decode cX6_meets 169 = .ok (.iconst 0, 1) := by decide +kernel
theorem dX6_meets_170 : decode cX6_meets 170 = .ok (.invokevirtual 138, 3) := by decide +kernel
theorem dX6_meets_173 : decode cX6_meets 173 = .ok (.imul, 1) := by decide +kernel
theorem dX6_meets_174 : decode cX6_meets 174 = .ok (.iconst 2, 1) := by decide +kernel
theorem dX6_meets_175 : decode cX6_meets 175 = .ok (.aload_n 0, 1) := by decide +kernel
theorem dX6_meets_176 : decode cX6_meets 176 = .ok (.iload_n 1, 1) := by decide +kernel
theorem dX6_meets_177 : decode cX6_meets 177 = .ok (.iconst 0, 1) := by decide +kernel
theorem dX6_meets_178 : decode cX6_meets 178 = .ok (.invokevirtual 70, 3) := by decide +kernel
theorem dX6_meets_181 : decode cX6_meets 181 = .ok (.imul, 1) := by decide +kernel
theorem dX6_meets_182 : decode cX6_meets 182 = .ok (.isub, 1) := by decide +kernel
theorem dX6_meets_183 : decode cX6_meets 183 = .ok (.iconst 1, 1) := by decide +kernel
theorem dX6_meets_184 : decode cX6_meets 184 = .ok (.isub, 1) := by decide +kernel
theorem dX6_meets_185 : decode cX6_meets 185 = .ok (.istore 9, 2) := by decide +kernel
theorem dX6_meets_187 : decode cX6_meets 187 = .ok (.iload 8, 2) := by decide +kernel
theorem dX6_meets_189 : decode cX6_meets 189 = .ok (.aload_n 0, 1) := by decide +kernel
theorem dX6_meets_190 : decode cX6_meets 190 = .ok (.getfield 186, 3) := by decide +kernel
theorem dX6_meets_193 : decode cX6_meets 193 = .ok (.imul, 1) := by decide +kernel
theorem dX6_meets_194 : decode cX6_meets 194 = .ok (.istore 10, 2) := by decide +kernel
theorem dX6_meets_196 : decode cX6_meets 196 = .ok (.iload 10, 2) := by decide +kernel
theorem dX6_meets_198 : decode cX6_meets 198 = .ok (.iload 9, 2) := by decide +kernel
theorem dX6_meets_200 : decode cX6_meets 200 = .ok (.aload_n 0, 1) := by decide +kernel
theorem dX6_meets_201 : decode cX6_meets 201 = .ok (.getfield 189, 3) := by decide +kernel
theorem dX6_meets_204 : decode cX6_meets 204 = .ok (.imul, 1) := by decide +kernel
theorem dX6_meets_205 : decode cX6_meets 205 = .ok (.if_icmp .lt 28, 3) := by decide +kernel
theorem dX6_meets_208 : decode cX6_meets 208 = .ok (.iload 10, 2) := by decide +kernel
theorem dX6_meets_210 : decode cX6_meets 210 = .ok (.iload 9, 2) := by decide +kernel
theorem dX6_meets_212 : decode cX6_meets 212 = .ok (.iconst 2, 1) := by decide +kernel
theorem dX6_meets_213 : decode cX6_meets 213 = .ok (.aload_n 0, 1) := by decide +kernel
theorem dX6_meets_214 : decode cX6_meets 214 = .ok (.iload_n 2, 1) := by decide +kernel
theorem dX6_meets_215 : decode cX6_meets 215 = .ok (.iconst 2, 1) := by decide +kernel
theorem dX6_meets_216 : decode cX6_meets 216 = .ok (.invokevirtual 138, 3) := by decide +kernel
theorem dX6_meets_219 : decode cX6_meets 219 = .ok (.imul, 1) := by decide +kernel
theorem dX6_meets_220 : decode cX6_meets 220 = .ok (.iadd, 1) := by decide +kernel
theorem dX6_meets_221 : decode cX6_meets 221 = .ok (.aload_n 0, 1) := by decide +kernel
theorem dX6_meets_222 : decode cX6_meets 222 = .ok (.getfield 189, 3) := by decide +kernel
theorem dX6_meets_225 : decode cX6_meets 225 = .ok (.imul, 1) := by decide +kernel
theorem dX6_meets_226 : decode cX6_meets 226 = .ok (.if_icmp .gt 7, 3) := by decide +kernel
theorem dX6_meets_229 : decode cX6_meets 229 = .ok (.iconst 1, 1) := by decide +kernel
theorem dX6_meets_230 : decode cX6_meets 230 = .ok (.goto 4, 3) := by decide +kernel
theorem dX6_meets_233 : decode cX6_meets 233 = .ok (.iconst 0, 1) := by decide +kernel
theorem dX6_meets_234 : decode cX6_meets 234 = .ok (.ireturn, 1) := by decide +kernel
theorem dX6_firstWall_0 : decode cX6_firstWall 0 = .ok (.bipush (-9), 2) := by decide +kernel
theorem dX6_firstWall_2 : decode cX6_firstWall 2 = .ok (.istore 4, 2) := by decide +kernel
theorem dX6_firstWall_4 : decode cX6_firstWall 4 = .ok (.iconst 0, 1) := by decide +kernel
theorem dX6_firstWall_5 : decode cX6_firstWall 5 = .ok (.istore 5, 2) := by decide +kernel
theorem dX6_firstWall_7 : decode cX6_firstWall 7 = .ok (.iconst 1, 1) := by decide +kernel
theorem dX6_firstWall_8 : decode cX6_firstWall 8 = .ok (.istore 6, 2) := by decide +kernel
theorem dX6_firstWall_10 : decode cX6_firstWall 10 = .ok (.iconst 0, 1) := by decide +kernel
theorem dX6_firstWall_11 : decode cX6_firstWall 11 = .ok (.istore 7, 2) := by decide +kernel
theorem dX6_firstWall_13 : decode cX6_firstWall 13 = .ok (.iload 7, 2) := by decide +kernel
theorem dX6_firstWall_15 : decode cX6_firstWall 15 = .ok (.aload_n 0, 1) := by decide +kernel
theorem dX6_firstWall_16 : decode cX6_firstWall 16 = .ok (.getfield 7, 3) := by decide +kernel
theorem dX6_firstWall_19 : decode cX6_firstWall 19 = .ok (.iconst 1, 1) := by decide +kernel
theorem dX6_firstWall_20 : decode cX6_firstWall 20 = .ok (.iaload, 1) := by decide +kernel
theorem dX6_firstWall_21 : decode cX6_firstWall 21 = .ok (.if_icmp .ge 61, 3) := by decide +kernel
theorem dX6_firstWall_24 : decode cX6_firstWall 24 = .ok (.aload_n 0, 1) := by decide +kernel
theorem dX6_firstWall_25 : decode cX6_firstWall 25 = .ok (.iload_n 1, 1) := by decide +kernel
theorem dX6_firstWall_26 : decode cX6_firstWall 26 = .ok (.iload 7, 2) := by decide +kernel
theorem dX6_firstWall_28 : decode cX6_firstWall 28 = .ok (.iload_n 2, 1) := by decide +kernel
theorem dX6_firstWall_29 : decode cX6_firstWall 29 = .ok (.iload_n 3, 1) := by decide +kernel
theorem dX6_firstWall_30 : decode cX6_firstWall 30 = .ok (.invokevirtual 192, 3) := by decide +kernel
theorem dX6_firstWall_33 : decode cX6_firstWall 33 = .ok (.ifCond .eq 43, 3) := by decide +kernel
theorem dX6_firstWall_36 : decode cX6_firstWall 36 = .ok (.iload 4, 2) := by decide +kernel
theorem dX6_firstWall_38 : decode cX6_firstWall 38 = .ok (.bipush (-9), 2) := by decide +kernel
theorem dX6_firstWall_40 : decode cX6_firstWall 40 = .ok (.if_icmp .eq 20, 3) := by decide +kernel
theorem dX6_firstWall_43 : decode cX6_firstWall 43 = .ok (.aload_n 0, 1) := by decide +kernel
theorem dX6_firstWall_44 : decode cX6_firstWall 44 = .ok (.getfield 186, 3) := by decide +kernel
theorem dX6_firstWall_47 : decode cX6_firstWall 47 = .ok (.iload 6, 2) := by decide +kernel
theorem dX6_firstWall_49 : decode cX6_firstWall 49 = .ok (.imul, 1) := by decide +kernel
theorem dX6_firstWall_50 : decode cX6_firstWall 50 = .ok (.iload 5, 2) := by decide +kernel
theorem dX6_firstWall_52 : decode cX6_firstWall 52 = .ok (.aload_n 0, 1) := by decide +kernel
theorem dX6_firstWall_53 : decode cX6_firstWall 53 = .ok (.getfield 189, 3) := by decide +kernel
theorem dX6_firstWall_56 : decode cX6_firstWall 56 = .ok (.imul, 1) := by decide +kernel
theorem dX6_firstWall_57 : decode cX6_firstWall 57 = .ok (.if_icmp .ge 19, 3) := by decide +kernel
theorem dX6_firstWall_60 : decode cX6_firstWall 60 = .ok (.iload 7, 2) := by decide +kernel
theorem dX6_firstWall_62 : decode cX6_firstWall 62 = .ok (.istore 4, 2) := by decide +kernel
theorem dX6_firstWall_64 : decode cX6_firstWall 64 = .ok (.aload_n 0, 1) := by decide +kernel
theorem dX6_firstWall_65 : decode cX6_firstWall 65 = .ok (.getfield 186, 3) := by decide +kernel
theorem dX6_firstWall_68 : decode cX6_firstWall 68 = .ok (.istore 5, 2) := by decide +kernel
theorem dX6_firstWall_70 : decode cX6_firstWall 70 = .ok (.aload_n 0, 1) := by decide +kernel
theorem dX6_firstWall_71 : decode cX6_firstWall 71 = .ok (.getfield 189, 3) := by decide +kernel
theorem dX6_firstWall_74 : decode cX6_firstWall 74 = .ok (.istore 6, 2) := by decide +kernel
theorem dX6_firstWall_76 : decode cX6_firstWall 76 = .ok (.iinc 7 1, 3) := by decide +kernel
theorem dX6_firstWall_79 : decode cX6_firstWall 79 = .ok (.goto (-66), 3) := by decide +kernel
theorem dX6_firstWall_82 : decode cX6_firstWall 82 = .ok (.iload 4, 2) := by decide +kernel
theorem dX6_firstWall_84 : decode cX6_firstWall 84 = .ok (.ireturn, 1) := by decide +kernel
theorem dX6_wallOfSector_0 : decode cX6_wallOfSector 0 = .ok (.iload_n 2, 1) := by decide +kernel
theorem dX6_wallOfSector_1 : decode cX6_wallOfSector 1 = .ok (.iconst 1, 1) := by decide +kernel
theorem dX6_wallOfSector_2 : decode cX6_wallOfSector 2 = .ok (.iadd, 1) := by decide +kernel
theorem dX6_wallOfSector_3 : decode cX6_wallOfSector 3 = .ok (.aload_n 0, 1) := by decide +kernel
theorem dX6_wallOfSector_4 : decode cX6_wallOfSector 4 = .ok (.getfield 176, 3) := by decide +kernel
theorem dX6_wallOfSector_7 : decode cX6_wallOfSector 7 = .ok (.irem, 1) := by decide +kernel
theorem dX6_wallOfSector_8 : decode cX6_wallOfSector 8 = .ok (.istore_n 3, 1) := by decide +kernel
theorem dX6_wallOfSector_9 : decode cX6_wallOfSector 9 = .ok (.aload_n 0, 1) := by decide +kernel
theorem dX6_wallOfSector_10 : decode cX6_wallOfSector 10 = .ok (.iload_n 1, 1) := by decide +kernel
theorem dX6_wallOfSector_11 : decode cX6_wallOfSector 11 = .ok (.aload_n 0, 1) := by decide +kernel
theorem dX6_wallOfSector_12 : decode cX6_wallOfSector 12 = .ok (.getfield 41, 3) := by decide +kernel
theorem dX6_wallOfSector_15 : decode cX6_wallOfSector 15 = .ok (.iload_n 2, 1) := by decide +kernel
theorem dX6_wallOfSector_16 : decode cX6_wallOfSector 16 = .ok (.iaload, 1) := by decide +kernel
theorem dX6_wallOfSector_17 : decode cX6_wallOfSector 17 = .ok (.aload_n 0, 1) := by decide +kernel
theorem dX6_wallOfSector_18 : decode cX6_wallOfSector 18 = .ok (.getfield 41, 3) := by decide +kernel
theorem dX6_wallOfSector_21 : decode cX6_wallOfSector 21 = .ok (.iload_n 3, 1) := by decide +kernel
theorem dX6_wallOfSector_22 : decode cX6_wallOfSector 22 = .ok (.iaload, 1) := by decide +kernel
theorem dX6_wallOfSector_23 : decode cX6_wallOfSector 23 = .ok (.iadd, 1) := by decide +kernel
theorem dX6_wallOfSector_24 : decode cX6_wallOfSector 24 = .ok (.aload_n 0, 1) := by decide +kernel
theorem dX6_wallOfSector_25 : decode cX6_wallOfSector 25 = .ok (.getfield 44, 3) := by decide +kernel
theorem dX6_wallOfSector_28 : decode cX6_wallOfSector 28 = .ok (.iload_n 2, 1) := by decide +kernel
theorem dX6_wallOfSector_29 : decode cX6_wallOfSector 29 = .ok (.iaload, 1) := by decide +kernel
theorem dX6_wallOfSector_30 : decode cX6_wallOfSector 30 = .ok (.aload_n 0, 1) := by decide +kernel
theorem dX6_wallOfSector_31 : decode cX6_wallOfSector 31 = .ok (.getfield 44, 3) := by decide +kernel
theorem dX6_wallOfSector_34 : decode cX6_wallOfSector 34 = .ok (.iload_n 3, 1) := by decide +kernel
theorem dX6_wallOfSector_35 : decode cX6_wallOfSector 35 = .ok (.iaload, 1) := by decide +kernel
theorem dX6_wallOfSector_36 : decode cX6_wallOfSector 36 = .ok (.iadd, 1) := by decide +kernel
theorem dX6_wallOfSector_37 : decode cX6_wallOfSector 37 = .ok (.invokevirtual 195, 3) := by decide +kernel
theorem dX6_wallOfSector_40 : decode cX6_wallOfSector 40 = .ok (.ireturn, 1) := by decide +kernel
theorem dX6_events_0 : decode cX6_events 0 = .ok (.aload_n 0, 1) := by decide +kernel
theorem dX6_events_1 : decode cX6_events 1 = .ok (.iconst 0, 1) := by decide +kernel
theorem dX6_events_2 : decode cX6_events 2 = .ok (.putfield 56, 3) := by decide +kernel
theorem dX6_events_5 : decode cX6_events 5 = .ok (.aload_n 0, 1) := by decide +kernel
theorem dX6_events_6 : decode cX6_events 6 = .ok (.iload_n 1, 1) := by decide +kernel
theorem dX6_events_7 : decode cX6_events 7 = .ok (.invokevirtual 141, 3) := by decide +kernel
theorem dX6_events_10 : decode cX6_events 10 = .ok (.ifCond .ne 5, 3) := by decide +kernel
theorem dX6_events_13 : decode cX6_events 13 = .ok (.iconst (-1), 1) := by decide +kernel
theorem dX6_events_14 : decode cX6_events 14 = .ok (.ireturn, 1) := by decide +kernel
theorem dX6_events_15 : decode cX6_events 15 = .ok (.aload_n 0, 1) := by decide +kernel
theorem dX6_events_16 : decode cX6_events 16 = .ok (.iload_n 1, 1) := by decide +kernel
theorem dX6_events_17 : decode cX6_events 17 = .ok (.invokevirtual 198, 3) := by decide +kernel
theorem dX6_events_20 : decode cX6_events 20 = .ok (.aload_n 0, 1) := by decide +kernel
theorem dX6_events_21 : decode cX6_events 21 = .ok (.getfield 176, 3) := by decide +kernel
theorem dX6_events_24 : decode cX6_events 24 = .ok (.ireturn, 1) := by decide +kernel
theorem dX6_areaOf_0 : decode cX6_areaOf 0 = .ok (.aload_n 0, 1) := by decide +kernel
theorem dX6_areaOf_1 : decode cX6_areaOf 1 = .ok (.iload_n 3, 1) := by decide +kernel
theorem dX6_areaOf_2 : decode cX6_areaOf 2 = .ok (.iconst 3, 1) := by decide +kernel
theorem dX6_areaOf_3 : decode cX6_areaOf 3 = .ok (.invokevirtual 138, 3) := by decide +kernel
theorem dX6_areaOf_6 : decode cX6_areaOf 6 = .ok (.iconst 1, 1) := by decide +kernel
theorem dX6_areaOf_7 : decode cX6_areaOf 7 = .ok (.if_icmp .ne 7, 3) := by decide +kernel
theorem dX6_areaOf_10 : decode cX6_areaOf 10 = .ok (.iconst 1, 1) := by decide +kernel
theorem dX6_areaOf_11 : decode cX6_areaOf 11 = .ok (.goto 4, 3) := by decide +kernel
theorem dX6_areaOf_14 : decode cX6_areaOf 14 = .ok (.iconst 0, 1) := by decide +kernel
theorem dX6_areaOf_15 : decode cX6_areaOf 15 = .ok (.istore 5, 2) := by decide +kernel
theorem dX6_areaOf_17 : decode cX6_areaOf 17 = .ok (.iload 5, 2) := by decide +kernel
theorem dX6_areaOf_19 : decode cX6_areaOf 19 = .ok (.ifCond .eq 25, 3) := by decide +kernel
theorem dX6_areaOf_22 : decode cX6_areaOf 22 = .ok (.iconst 2, 1) := by decide +kernel
theorem dX6_areaOf_23 : decode cX6_areaOf 23 = .ok (.aload_n 0, 1) := by decide +kernel
theorem dX6_areaOf_24 : decode cX6_areaOf 24 = .ok (.iload_n 3, 1) := by decide +kernel
theorem dX6_areaOf_25 : decode cX6_areaOf 25 = .ok (.iconst 0, 1) := by decide +kernel
theorem dX6_areaOf_26 : decode cX6_areaOf 26 = .ok (.invokevirtual 138, 3) := by decide +kernel
theorem dX6_areaOf_29 : decode cX6_areaOf 29 = .ok (.imul, 1) := by decide +kernel
theorem dX6_areaOf_30 : decode cX6_areaOf 30 = .ok (.iconst 2, 1) := by decide +kernel
theorem dX6_areaOf_31 : decode cX6_areaOf 31 = .ok (.aload_n 0, 1) := by decide +kernel
theorem dX6_areaOf_32 : decode cX6_areaOf 32 = .ok (.iload_n 1, 1) := by decide +kernel
theorem dX6_areaOf_33 : decode cX6_areaOf 33 = .ok (.iconst 0, 1) := by decide +kernel
theorem dX6_areaOf_34 : decode cX6_areaOf 34 = .ok (.invokevirtual 70, 3) := by decide +kernel
theorem dX6_areaOf_37 : decode cX6_areaOf 37 = .ok (.imul, 1) := by decide +kernel
theorem dX6_areaOf_38 : decode cX6_areaOf 38 = .ok (.isub, 1) := by decide +kernel
theorem dX6_areaOf_39 : decode cX6_areaOf 39 = .ok (.iconst 1, 1) := by decide +kernel
theorem dX6_areaOf_40 : decode cX6_areaOf 40 = .ok (.isub, 1) := by decide +kernel
theorem dX6_areaOf_41 : decode cX6_areaOf 41 = .ok (.goto 22, 3) := by decide +kernel
theorem dX6_areaOf_44 : decode cX6_areaOf 44 = .ok (.iconst 2, 1) := by decide +kernel
theorem dX6_areaOf_45 : decode cX6_areaOf 45 = .ok (.aload_n 0, 1) := by decide +kernel
theorem dX6_areaOf_46 : decode cX6_areaOf 46 = .ok (.iload_n 3, 1) := by decide +kernel
theorem dX6_areaOf_47 : decode cX6_areaOf 47 = .ok (.iconst 1, 1) := by decide +kernel
theorem dX6_areaOf_48 : decode cX6_areaOf 48 = .ok (.invokevirtual 138, 3) := by decide +kernel
theorem dX6_areaOf_51 : decode cX6_areaOf 51 = .ok (.imul, 1) := by decide +kernel
theorem dX6_areaOf_52 : decode cX6_areaOf 52 = .ok (.iconst 2, 1) := by decide +kernel
theorem dX6_areaOf_53 : decode cX6_areaOf 53 = .ok (.aload_n 0, 1) := by decide +kernel
theorem dX6_areaOf_54 : decode cX6_areaOf 54 = .ok (.iload_n 1, 1) := by decide +kernel
theorem dX6_areaOf_55 : decode cX6_areaOf 55 = .ok (.iconst 1, 1) := by decide +kernel
theorem dX6_areaOf_56 : decode cX6_areaOf 56 = .ok (.invokevirtual 70, 3) := by decide +kernel
theorem dX6_areaOf_59 : decode cX6_areaOf 59 = .ok (.imul, 1) := by decide +kernel
theorem dX6_areaOf_60 : decode cX6_areaOf 60 = .ok (.isub, 1) := by decide +kernel
theorem dX6_areaOf_61 : decode cX6_areaOf 61 = .ok (.iconst 1, 1) := by decide +kernel
theorem dX6_areaOf_62 : decode cX6_areaOf 62 = .ok (.isub, 1) := by decide +kernel
theorem dX6_areaOf_63 : decode cX6_areaOf 63 = .ok (.istore 6, 2) := by decide +kernel
theorem dX6_areaOf_65 : decode cX6_areaOf 65 = .ok (.iload_n 2, 1) := by decide +kernel
theorem dX6_areaOf_66 : decode cX6_areaOf 66 = .ok (.iconst 1, 1) := by decide +kernel
theorem dX6_areaOf_67 : decode cX6_areaOf 67 = .ok (.iadd, 1) := by decide +kernel
theorem dX6_areaOf_68 : decode cX6_areaOf 68 = .ok (.aload_n 0, 1) := by decide +kernel
theorem dX6_areaOf_69 : decode cX6_areaOf 69 = .ok (.getfield 176, 3) := by decide +kernel
theorem dX6_areaOf_72 : decode cX6_areaOf 72 = .ok (.irem, 1) := by decide +kernel
theorem dX6_areaOf_73 : decode cX6_areaOf 73 = .ok (.istore 7, 2) := by decide +kernel
theorem dX6_areaOf_75 : decode cX6_areaOf 75 = .ok (.aload_n 0, 1) := by decide +kernel
theorem dX6_areaOf_76 : decode cX6_areaOf 76 = .ok (.getfield 41, 3) := by decide +kernel
theorem dX6_areaOf_79 : decode cX6_areaOf 79 = .ok (.iload_n 2, 1) := by decide +kernel
theorem dX6_areaOf_80 : decode cX6_areaOf 80 = .ok (.iaload, 1) := by decide +kernel
theorem dX6_areaOf_81 : decode cX6_areaOf 81 = .ok (.aload_n 0, 1) := by decide +kernel
theorem dX6_areaOf_82 : decode cX6_areaOf 82 = .ok (.getfield 44, 3) := by decide +kernel
theorem dX6_areaOf_85 : decode cX6_areaOf 85 = .ok (.iload 7, 2) := by decide +kernel
theorem dX6_areaOf_87 : decode cX6_areaOf 87 = .ok (.iaload, 1) := by decide +kernel
theorem dX6_areaOf_88 : decode cX6_areaOf 88 = .ok (.imul, 1) := by decide +kernel
theorem dX6_areaOf_89 : decode cX6_areaOf 89 = .ok (.aload_n 0, 1) := by decide +kernel
theorem dX6_areaOf_90 : decode cX6_areaOf 90 = .ok (.getfield 44, 3) := by decide +kernel
theorem dX6_areaOf_93 : decode cX6_areaOf 93 = .ok (.iload_n 2, 1) := by decide +kernel
theorem dX6_areaOf_94 : decode cX6_areaOf 94 = .ok (.iaload, 1) := by decide +kernel
theorem dX6_areaOf_95 : decode cX6_areaOf 95 = .ok (.aload_n 0, 1) := by decide +kernel
theorem dX6_areaOf_96 : decode cX6_areaOf 96 = .ok (.getfield 41, 3) := by decide +kernel
theorem dX6_areaOf_99 : decode cX6_areaOf 99 = .ok (.iload 7, 2) := by decide +kernel
theorem dX6_areaOf_101 : decode cX6_areaOf 101 = .ok (.iaload, 1) := by decide +kernel
theorem dX6_areaOf_102 : decode cX6_areaOf 102 = .ok (.imul, 1) := by decide +kernel
theorem dX6_areaOf_103 : decode cX6_areaOf 103 = .ok (.isub, 1) := by decide +kernel
theorem dX6_areaOf_104 : decode cX6_areaOf 104 = .ok (.istore 8, 2) := by decide +kernel
theorem dX6_areaOf_106 : decode cX6_areaOf 106 = .ok (.iload 6, 2) := by decide +kernel
theorem dX6_areaOf_108 : decode cX6_areaOf 108 = .ok (.iload 6, 2) := by decide +kernel
theorem dX6_areaOf_110 : decode cX6_areaOf 110 = .ok (.imul, 1) := by decide +kernel
theorem dX6_areaOf_111 : decode cX6_areaOf 111 = .ok (.iload 8, 2) := by decide +kernel
theorem dX6_areaOf_113 : decode cX6_areaOf 113 = .ok (.invokestatic 170, 3) := by decide +kernel
theorem dX6_areaOf_116 : decode cX6_areaOf 116 = .ok (.imul, 1) := by decide +kernel
theorem dX6_areaOf_117 : decode cX6_areaOf 117 = .ok (.istore 9, 2) := by decide +kernel
theorem dX6_areaOf_119 : decode cX6_areaOf 119 = .ok (.bipush 8, 2) := by decide +kernel
theorem dX6_areaOf_121 : decode cX6_areaOf 121 = .ok (.iload 5, 2) := by decide +kernel
theorem dX6_areaOf_123 : decode cX6_areaOf 123 = .ok (.ifCond .eq 20, 3) := by decide +kernel
theorem dX6_areaOf_126 : decode cX6_areaOf 126 = .ok (.aload_n 0, 1) := by decide +kernel
theorem dX6_areaOf_127 : decode cX6_areaOf 127 = .ok (.getfield 41, 3) := by decide +kernel
theorem dX6_areaOf_130 : decode cX6_areaOf 130 = .ok (.iload_n 2, 1) := by decide +kernel
theorem dX6_areaOf_131 : decode cX6_areaOf 131 = .ok (.iaload, 1) := by decide +kernel
theorem dX6_areaOf_132 : decode cX6_areaOf 132 = .ok (.aload_n 0, 1) := by decide +kernel
theorem dX6_areaOf_133 : decode cX6_areaOf 133 = .ok (.getfield 41, 3) := by decide +kernel
theorem dX6_areaOf_136 : decode cX6_areaOf 136 = .ok (.iload 7, 2) := by decide +kernel
theorem dX6_areaOf_138 : decode cX6_areaOf 138 = .ok (.iaload, 1) := by decide +kernel
theorem dX6_areaOf_139 : decode cX6_areaOf 139 = .ok (.imul, 1) := by decide +kernel
theorem dX6_areaOf_140 : decode cX6_areaOf 140 = .ok (.goto 17, 3) := by decide +kernel
theorem dX6_areaOf_143 : decode cX6_areaOf 143 = .ok (.aload_n 0, 1) := by decide +kernel
theorem dX6_areaOf_144 : decode cX6_areaOf 144 = .ok (.getfield 44, 3) := by decide +kernel
theorem dX6_areaOf_147 : decode cX6_areaOf 147 = .ok (.iload_n 2, 1) := by decide +kernel
theorem dX6_areaOf_148 : decode cX6_areaOf 148 = .ok (.iaload, 1) := by decide +kernel
theorem dX6_areaOf_149 : decode cX6_areaOf 149 = .ok (.aload_n 0, 1) := by decide +kernel
theorem dX6_areaOf_150 : decode cX6_areaOf 150 = .ok (.getfield 44, 3) := by decide +kernel
theorem dX6_areaOf_153 : decode cX6_areaOf 153 = .ok (.iload 7, 2) := by decide +kernel
theorem dX6_areaOf_155 : decode cX6_areaOf 155 = .ok (.iaload, 1) := by decide +kernel
theorem dX6_areaOf_156 : decode cX6_areaOf 156 = .ok (.imul, 1) := by decide +kernel
theorem dX6_areaOf_157 : decode cX6_areaOf 157 = .ok (.invokestatic 170, 3) := by decide +kernel
theorem dX6_areaOf_160 : decode cX6_areaOf 160 = .ok (.imul, 1) := by decide +kernel
theorem dX6_areaOf_161 : decode cX6_areaOf 161 = .ok (.istore 10, 2) := by decide +kernel
theorem dX6_areaOf_163 : decode cX6_areaOf 163 = .ok (.iload 9, 2) := by decide +kernel
theorem dX6_areaOf_165 : decode cX6_areaOf 165 = .ok (.iload 10, 2) := by decide +kernel
theorem dX6_areaOf_167 : decode cX6_areaOf 167 = .ok (.invokestatic 173, 3) := by decide +kernel
theorem dX6_areaOf_170 : decode cX6_areaOf 170 = .ok (.istore 11, 2) := by decide +kernel
theorem dX6_areaOf_172 : decode cX6_areaOf 172 = .ok (.iload 4, 2) := by decide +kernel
theorem dX6_areaOf_174 : decode cX6_areaOf 174 = .ok (.iconst 1, 1) := by decide +kernel
theorem dX6_areaOf_175 : decode cX6_areaOf 175 = .ok (.if_icmp .ne 11, 3) := by decide +kernel
theorem dX6_areaOf_178 : decode cX6_areaOf 178 = .ok (.iload 9, 2) := by decide +kernel
theorem dX6_areaOf_180 : decode cX6_areaOf 180 = .ok (.iload 11, 2) := by decide +kernel
theorem dX6_areaOf_182 : decode cX6_areaOf 182 = .ok (.idiv, 1) := by decide +kernel
theorem dX6_areaOf_183 : decode cX6_areaOf 183 = .ok (.goto 8, 3) := by decide +kernel
theorem dX6_areaOf_186 : decode cX6_areaOf 186 = .ok (.iload 10, 2) := by decide +kernel
theorem dX6_areaOf_188 : decode cX6_areaOf 188 = .ok (.iload 11, 2) := by decide +kernel
theorem dX6_areaOf_190 : decode cX6_areaOf 190 = .ok (.idiv, 1) := by decide +kernel
theorem dX6_areaOf_191 : decode cX6_areaOf 191 = .ok (.ireturn, 1) := by decide +kernel
theorem dX6_event_0 : decode cX6_event 0 = .ok (.aload_n 0, 1) := by decide +kernel
theorem dX6_event_1 : decode cX6_event 1 = .ok (.iconst 0, 1) := by decide +kernel
theorem dX6_event_2 : decode cX6_event 2 = .ok (.putfield 56, 3) := by decide +kernel
theorem dX6_event_5 : decode cX6_event 5 = .ok (.aload_n 0, 1) := by decide +kernel
theorem dX6_event_6 : decode cX6_event 6 = .ok (.iload_n 1, 1) := by decide +kernel
theorem dX6_event_7 : decode cX6_event 7 = .ok (.invokevirtual 141, 3) := by decide +kernel
theorem dX6_event_10 : decode cX6_event 10 = .ok (.ifCond .eq 16, 3) := by decide +kernel
theorem dX6_event_13 : decode cX6_event 13 = .ok (.iload_n 3, 1) := by decide +kernel
theorem dX6_event_14 : decode cX6_event 14 = .ok (.iconst 0, 1) := by decide +kernel
theorem dX6_event_15 : decode cX6_event 15 = .ok (.iconst 1, 1) := by decide +kernel
theorem dX6_event_16 : decode cX6_event 16 = .ok (.invokestatic 63, 3) := by decide +kernel
theorem dX6_event_19 : decode cX6_event 19 = .ok (.ifCond .eq 7, 3) := by decide +kernel
theorem dX6_event_22 : decode cX6_event 22 = .ok (.iload_n 2, 1) := by decide +kernel
theorem dX6_event_23 : decode cX6_event 23 = .ok (.ifCond .ge 7, 3) := by decide +kernel
theorem dX6_event_26 : decode cX6_event 26 = .ok (.sipush (-1000), 3) := by decide +kernel
theorem dX6_event_29 : decode cX6_event 29 = .ok (.ireturn, 1) := by decide +kernel
theorem dX6_event_30 : decode cX6_event 30 = .ok (.aload_n 0, 1) := by decide +kernel
theorem dX6_event_31 : decode cX6_event 31 = .ok (.iload_n 1, 1) := by decide +kernel
theorem dX6_event_32 : decode cX6_event 32 = .ok (.invokevirtual 198, 3) := by decide +kernel
theorem dX6_event_35 : decode cX6_event 35 = .ok (.iload_n 2, 1) := by decide +kernel
theorem dX6_event_36 : decode cX6_event 36 = .ok (.aload_n 0, 1) := by decide +kernel
theorem dX6_event_37 : decode cX6_event 37 = .ok (.getfield 176, 3) := by decide +kernel
theorem dX6_event_40 : decode cX6_event 40 = .ok (.if_icmp .lt 9, 3) := by decide +kernel
theorem dX6_event_43 : decode cX6_event 43 = .ok (.sipush (-1000), 3) := by decide +kernel
theorem dX6_event_46 : decode cX6_event 46 = .ok (.goto 22, 3) := by decide +kernel
theorem dX6_event_49 : decode cX6_event 49 = .ok (.iload_n 3, 1) := by decide +kernel
theorem dX6_event_50 : decode cX6_event 50 = .ok (.ifCond .ne 12, 3) := by decide +kernel
theorem dX6_event_53 : decode cX6_event 53 = .ok (.aload_n 0, 1) := by decide +kernel
theorem dX6_event_54 : decode cX6_event 54 = .ok (.getfield 41, 3) := by decide +kernel
theorem dX6_event_57 : decode cX6_event 57 = .ok (.iload_n 2, 1) := by decide +kernel
theorem dX6_event_58 : decode cX6_event 58 = .ok (.iaload, 1) := by decide +kernel
theorem dX6_event_59 : decode cX6_event 59 = .ok (.goto 9, 3) := by decide +kernel
theorem dX6_event_62 : decode cX6_event 62 = .ok (.aload_n 0, 1) := by decide +kernel
theorem dX6_event_63 : decode cX6_event 63 = .ok (.getfield 44, 3) := by decide +kernel
theorem dX6_event_66 : decode cX6_event 66 = .ok (.iload_n 2, 1) := by decide +kernel
theorem dX6_event_67 : decode cX6_event 67 = .ok (.iaload, 1) := by decide +kernel
theorem dX6_event_68 : decode cX6_event 68 = .ok (.ireturn, 1) := by decide +kernel
theorem dX6_sector_0 : decode cX6_sector 0 = .ok (.aload_n 0, 1) := by decide +kernel
theorem dX6_sector_1 : decode cX6_sector 1 = .ok (.iconst 0, 1) := by decide +kernel
theorem dX6_sector_2 : decode cX6_sector 2 = .ok (.putfield 56, 3) := by decide +kernel
theorem dX6_sector_5 : decode cX6_sector 5 = .ok (.aload_n 0, 1) := by decide +kernel
theorem dX6_sector_6 : decode cX6_sector 6 = .ok (.iload_n 1, 1) := by decide +kernel
theorem dX6_sector_7 : decode cX6_sector 7 = .ok (.invokevirtual 141, 3) := by decide +kernel
theorem dX6_sector_10 : decode cX6_sector 10 = .ok (.ifCond .eq 16, 3) := by decide +kernel
theorem dX6_sector_13 : decode cX6_sector 13 = .ok (.iload_n 3, 1) := by decide +kernel
theorem dX6_sector_14 : decode cX6_sector 14 = .ok (.iconst 0, 1) := by decide +kernel
theorem dX6_sector_15 : decode cX6_sector 15 = .ok (.iconst 2, 1) := by decide +kernel
theorem dX6_sector_16 : decode cX6_sector 16 = .ok (.invokestatic 63, 3) := by decide +kernel
theorem dX6_sector_19 : decode cX6_sector 19 = .ok (.ifCond .eq 7, 3) := by decide +kernel
theorem dX6_sector_22 : decode cX6_sector 22 = .ok (.iload_n 2, 1) := by decide +kernel
theorem dX6_sector_23 : decode cX6_sector 23 = .ok (.ifCond .ge 5, 3) := by decide +kernel
theorem dX6_sector_26 : decode cX6_sector 26 = .ok (.iconst (-1), 1) := by decide +kernel
theorem dX6_sector_27 : decode cX6_sector 27 = .ok (.ireturn, 1) := by decide +kernel
theorem dX6_sector_28 : decode cX6_sector 28 = .ok (.aload_n 0, 1) := by decide +kernel
theorem dX6_sector_29 : decode cX6_sector 29 = .ok (.iload_n 1, 1) := by decide +kernel
theorem dX6_sector_30 : decode cX6_sector 30 = .ok (.invokevirtual 198, 3) := by decide +kernel
theorem dX6_sector_33 : decode cX6_sector 33 = .ok (.iload_n 2, 1) := by decide +kernel
theorem dX6_sector_34 : decode cX6_sector 34 = .ok (.aload_n 0, 1) := by decide +kernel
theorem dX6_sector_35 : decode cX6_sector 35 = .ok (.getfield 176, 3) := by decide +kernel
theorem dX6_sector_38 : decode cX6_sector 38 = .ok (.if_icmp .lt 6, 3) := by decide +kernel
theorem dX6_sector_41 : decode cX6_sector 41 = .ok (.bipush (-9), 2) := by decide +kernel
theorem dX6_sector_43 : decode cX6_sector 43 = .ok (.ireturn, 1) := by decide +kernel
theorem dX6_sector_44 : decode cX6_sector 44 = .ok (.aload_n 0, 1) := by decide +kernel
theorem dX6_sector_45 : decode cX6_sector 45 = .ok (.iload_n 1, 1) := by decide +kernel
theorem dX6_sector_46 : decode cX6_sector 46 = .ok (.iload_n 2, 1) := by decide +kernel
theorem dX6_sector_47 : decode cX6_sector 47 = .ok (.invokevirtual 202, 3) := by decide +kernel
theorem dX6_sector_50 : decode cX6_sector 50 = .ok (.istore 4, 2) := by decide +kernel
theorem dX6_sector_52 : decode cX6_sector 52 = .ok (.iload_n 3, 1) := by decide +kernel
theorem dX6_sector_53 : decode cX6_sector 53 = .ok (.ifCond .ne 8, 3) := by decide +kernel
theorem dX6_sector_56 : decode cX6_sector 56 = .ok (.iload 4, 2) := by decide +kernel
theorem dX6_sector_58 : decode cX6_sector 58 = .ok (.goto 12, 3) := by decide +kernel
theorem dX6_sector_61 : decode cX6_sector 61 = .ok (.aload_n 0, 1) := by decide +kernel
theorem dX6_sector_62 : decode cX6_sector 62 = .ok (.iload_n 1, 1) := by decide +kernel
theorem dX6_sector_63 : decode cX6_sector 63 = .ok (.iload_n 2, 1) := by decide +kernel
theorem dX6_sector_64 : decode cX6_sector 64 = .ok (.iload 4, 2) := by decide +kernel
theorem dX6_sector_66 : decode cX6_sector 66 = .ok (.iload_n 3, 1) := by decide +kernel
theorem dX6_sector_67 : decode cX6_sector 67 = .ok (.invokevirtual 205, 3) := by decide +kernel
theorem dX6_sector_70 : decode cX6_sector 70 = .ok (.ireturn, 1) := by decide +kernel
theorem dX6_walls_0 : decode cX6_walls 0 = .ok (.aload_n 0, 1) := by decide +kernel
theorem dX6_walls_1 : decode cX6_walls 1 = .ok (.iconst 0, 1) := by decide +kernel
theorem dX6_walls_2 : decode cX6_walls 2 = .ok (.putfield 56, 3) := by decide +kernel
theorem dX6_walls_5 : decode cX6_walls 5 = .ok (.aload_n 0, 1) := by decide +kernel
theorem dX6_walls_6 : decode cX6_walls 6 = .ok (.iload_n 1, 1) := by decide +kernel
theorem dX6_walls_7 : decode cX6_walls 7 = .ok (.invokevirtual 141, 3) := by decide +kernel
theorem dX6_walls_10 : decode cX6_walls 10 = .ok (.ifCond .ne 5, 3) := by decide +kernel
theorem dX6_walls_13 : decode cX6_walls 13 = .ok (.iconst (-1), 1) := by decide +kernel
theorem dX6_walls_14 : decode cX6_walls 14 = .ok (.ireturn, 1) := by decide +kernel
theorem dX6_walls_15 : decode cX6_walls 15 = .ok (.aload_n 0, 1) := by decide +kernel
theorem dX6_walls_16 : decode cX6_walls 16 = .ok (.iload_n 1, 1) := by decide +kernel
theorem dX6_walls_17 : decode cX6_walls 17 = .ok (.invokevirtual 198, 3) := by decide +kernel
theorem dX6_walls_20 : decode cX6_walls 20 = .ok (.iconst 0, 1) := by decide +kernel
theorem dX6_walls_21 : decode cX6_walls 21 = .ok (.istore_n 2, 1) := by decide +kernel
theorem dX6_walls_22 : decode cX6_walls 22 = .ok (.iconst 0, 1) := by decide +kernel
theorem dX6_walls_23 : decode cX6_walls 23 = .ok (.istore_n 3, 1) := by decide +kernel
theorem dX6_walls_24 : decode cX6_walls 24 = .ok (.iload_n 3, 1) := by decide +kernel
theorem dX6_walls_25 : decode cX6_walls 25 = .ok (.aload_n 0, 1) := by decide +kernel
theorem dX6_walls_26 : decode cX6_walls 26 = .ok (.getfield 176, 3) := by decide +kernel
theorem dX6_walls_29 : decode cX6_walls 29 = .ok (.if_icmp .ge 20, 3) := by decide +kernel
theorem dX6_walls_32 : decode cX6_walls 32 = .ok (.iload_n 2, 1) := by decide +kernel
theorem dX6_walls_33 : decode cX6_walls 33 = .ok (.iconst 1, 1) := by decide +kernel
theorem dX6_walls_34 : decode cX6_walls 34 = .ok (.aload_n 0, 1) := by decide +kernel
theorem dX6_walls_35 : decode cX6_walls 35 = .ok (.iload_n 1, 1) := by decide +kernel
theorem dX6_walls_36 : decode cX6_walls 36 = .ok (.iload_n 3, 1) := by decide +kernel
theorem dX6_walls_37 : decode cX6_walls 37 = .ok (.invokevirtual 202, 3) := by decide +kernel
theorem dX6_walls_40 : decode cX6_walls 40 = .ok (.ishl, 1) := by decide +kernel
theorem dX6_walls_41 : decode cX6_walls 41 = .ok (.ior, 1) := by decide +kernel
theorem dX6_walls_42 : decode cX6_walls 42 = .ok (.istore_n 2, 1) := by decide +kernel
theorem dX6_walls_43 : decode cX6_walls 43 = .ok (.iinc 3 1, 3) := by decide +kernel
theorem dX6_walls_46 : decode cX6_walls 46 = .ok (.goto (-22), 3) := by decide +kernel
theorem dX6_walls_49 : decode cX6_walls 49 = .ok (.iload_n 2, 1) := by decide +kernel
theorem dX6_walls_50 : decode cX6_walls 50 = .ok (.ireturn, 1) := by decide +kernel
theorem dX6_laysSpots_0 : decode cX6_laysSpots 0 = .ok (.iconst 0, 1) := by decide +kernel
theorem dX6_laysSpots_1 : decode cX6_laysSpots 1 = .ok (.istore_n 1, 1) := by decide +kernel
theorem dX6_laysSpots_2 : decode cX6_laysSpots 2 = .ok (.iload_n 1, 1) := by decide +kernel
theorem dX6_laysSpots_3 : decode cX6_laysSpots 3 = .ok (.aload_n 0, 1) := by decide +kernel
theorem dX6_laysSpots_4 : decode cX6_laysSpots 4 = .ok (.getfield 60, 3) := by decide +kernel
theorem dX6_laysSpots_7 : decode cX6_laysSpots 7 = .ok (.aload_n 0, 1) := by decide +kernel
theorem dX6_laysSpots_8 : decode cX6_laysSpots 8 = .ok (.getfield 67, 3) := by decide +kernel
theorem dX6_laysSpots_11 : decode cX6_laysSpots 11 = .ok (.imul, 1) := by decide +kernel
theorem dX6_laysSpots_12 : decode cX6_laysSpots 12 = .ok (.if_icmp .ge 33, 3) := by decide +kernel
theorem dX6_laysSpots_15 : decode cX6_laysSpots 15 = .ok (.aload_n 0, 1) := by decide +kernel
theorem dX6_laysSpots_16 : decode cX6_laysSpots 16 = .ok (.getfield 47, 3) := by decide +kernel
theorem dX6_laysSpots_19 : decode cX6_laysSpots 19 = .ok (.iload_n 1, 1) := by decide +kernel
theorem dX6_laysSpots_20 : decode cX6_laysSpots 20 = .ok (.aload_n 0, 1) := by decide +kernel
theorem dX6_laysSpots_21 : decode cX6_laysSpots 21 = .ok (.iload_n 1, 1) := by decide +kernel
theorem dX6_laysSpots_22 : decode cX6_laysSpots 22 = .ok (.aload_n 0, 1) := by decide +kernel
theorem dX6_laysSpots_23 : decode cX6_laysSpots 23 = .ok (.getfield 60, 3) := by decide +kernel
theorem dX6_laysSpots_26 : decode cX6_laysSpots 26 = .ok (.irem, 1) := by decide +kernel
theorem dX6_laysSpots_27 : decode cX6_laysSpots 27 = .ok (.iload_n 1, 1) := by decide +kernel
theorem dX6_laysSpots_28 : decode cX6_laysSpots 28 = .ok (.aload_n 0, 1) := by decide +kernel
theorem dX6_laysSpots_29 : decode cX6_laysSpots 29 = .ok (.getfield 60, 3) := by decide +kernel
theorem dX6_laysSpots_32 : decode cX6_laysSpots 32 = .ok (.idiv, 1) := by decide +kernel
theorem dX6_laysSpots_33 : decode cX6_laysSpots 33 = .ok (.bipush (-9), 2) := by decide +kernel
theorem dX6_laysSpots_35 : decode cX6_laysSpots 35 = .ok (.invokevirtual 155, 3) := by decide +kernel
theorem dX6_laysSpots_38 : decode cX6_laysSpots 38 = .ok (.iastore, 1) := by decide +kernel
theorem dX6_laysSpots_39 : decode cX6_laysSpots 39 = .ok (.iinc 1 1, 3) := by decide +kernel
theorem dX6_laysSpots_42 : decode cX6_laysSpots 42 = .ok (.goto (-40), 3) := by decide +kernel
theorem dX6_laysSpots_45 : decode cX6_laysSpots 45 = .ok (.return_, 1) := by decide +kernel
theorem dX6_isEnough_0 : decode cX6_isEnough 0 = .ok (.iconst 0, 1) := by decide +kernel
theorem dX6_isEnough_1 : decode cX6_isEnough 1 = .ok (.istore_n 2, 1) := by decide +kernel
theorem dX6_isEnough_2 : decode cX6_isEnough 2 = .ok (.iload_n 2, 1) := by decide +kernel
theorem dX6_isEnough_3 : decode cX6_isEnough 3 = .ok (.aload_n 0, 1) := by decide +kernel
theorem dX6_isEnough_4 : decode cX6_isEnough 4 = .ok (.getfield 60, 3) := by decide +kernel
theorem dX6_isEnough_7 : decode cX6_isEnough 7 = .ok (.aload_n 0, 1) := by decide +kernel
theorem dX6_isEnough_8 : decode cX6_isEnough 8 = .ok (.getfield 67, 3) := by decide +kernel
theorem dX6_isEnough_11 : decode cX6_isEnough 11 = .ok (.imul, 1) := by decide +kernel
theorem dX6_isEnough_12 : decode cX6_isEnough 12 = .ok (.if_icmp .ge 31, 3) := by decide +kernel
theorem dX6_isEnough_15 : decode cX6_isEnough 15 = .ok (.aload_n 0, 1) := by decide +kernel
theorem dX6_isEnough_16 : decode cX6_isEnough 16 = .ok (.getfield 47, 3) := by decide +kernel
theorem dX6_isEnough_19 : decode cX6_isEnough 19 = .ok (.iload_n 2, 1) := by decide +kernel
theorem dX6_isEnough_20 : decode cX6_isEnough 20 = .ok (.iaload, 1) := by decide +kernel
theorem dX6_isEnough_21 : decode cX6_isEnough 21 = .ok (.ifCond .eq 16, 3) := by decide +kernel
theorem dX6_isEnough_24 : decode cX6_isEnough 24 = .ok (.aload_n 0, 1) := by decide +kernel
theorem dX6_isEnough_25 : decode cX6_isEnough 25 = .ok (.getfield 47, 3) := by decide +kernel
theorem dX6_isEnough_28 : decode cX6_isEnough 28 = .ok (.iload_n 2, 1) := by decide +kernel
theorem dX6_isEnough_29 : decode cX6_isEnough 29 = .ok (.iaload, 1) := by decide +kernel
theorem dX6_isEnough_30 : decode cX6_isEnough 30 = .ok (.iload_n 1, 1) := by decide +kernel
theorem dX6_isEnough_31 : decode cX6_isEnough 31 = .ok (.iand, 1) := by decide +kernel
theorem dX6_isEnough_32 : decode cX6_isEnough 32 = .ok (.ifCond .ne 5, 3) := by decide +kernel
theorem dX6_isEnough_35 : decode cX6_isEnough 35 = .ok (.iconst 0, 1) := by decide +kernel
theorem dX6_isEnough_36 : decode cX6_isEnough 36 = .ok (.ireturn, 1) := by decide +kernel
theorem dX6_isEnough_37 : decode cX6_isEnough 37 = .ok (.iinc 2 1, 3) := by decide +kernel
theorem dX6_isEnough_40 : decode cX6_isEnough 40 = .ok (.goto (-38), 3) := by decide +kernel
theorem dX6_isEnough_43 : decode cX6_isEnough 43 = .ok (.iconst 1, 1) := by decide +kernel
theorem dX6_isEnough_44 : decode cX6_isEnough 44 = .ok (.ireturn, 1) := by decide +kernel
theorem dX6_ones_0 : decode cX6_ones 0 = .ok (.iconst 0, 1) := by decide +kernel
theorem dX6_ones_1 : decode cX6_ones 1 = .ok (.istore_n 1, 1) := by decide +kernel
theorem dX6_ones_2 : decode cX6_ones 2 = .ok (.iconst 0, 1) := by decide +kernel
theorem dX6_ones_3 : decode cX6_ones 3 = .ok (.istore_n 2, 1) := by decide +kernel
theorem dX6_ones_4 : decode cX6_ones 4 = .ok (.iload_n 2, 1) := by decide +kernel
theorem dX6_ones_5 : decode cX6_ones 5 = .ok (.bipush 8, 2) := by decide +kernel
theorem dX6_ones_7 : decode cX6_ones 7 = .ok (.if_icmp .ge 17, 3) := by decide +kernel
theorem dX6_ones_10 : decode cX6_ones 10 = .ok (.iload_n 1, 1) := by decide +kernel
theorem dX6_ones_11 : decode cX6_ones 11 = .ok (.iload_n 0, 1) := by decide +kernel
theorem dX6_ones_12 : decode cX6_ones 12 = .ok (.iload_n 2, 1) := by decide +kernel
theorem dX6_ones_13 : decode cX6_ones 13 = .ok (.ishr, 1) := by decide +kernel
theorem dX6_ones_14 : decode cX6_ones 14 = .ok (.iconst 1, 1) := by decide +kernel
theorem dX6_ones_15 : decode cX6_ones 15 = .ok (.iand, 1) := by decide +kernel
theorem dX6_ones_16 : decode cX6_ones 16 = .ok (.iadd, 1) := by decide +kernel
theorem dX6_ones_17 : decode cX6_ones 17 = .ok (.istore_n 1, 1) := by decide +kernel
theorem dX6_ones_18 : decode cX6_ones 18 = .ok (.iinc 2 1, 3) := by decide +kernel
theorem dX6_ones_21 : decode cX6_ones 21 = .ok (.goto (-17), 3) := by decide +kernel
theorem dX6_ones_24 : decode cX6_ones 24 = .ok (.iload_n 1, 1) := by decide +kernel
theorem dX6_ones_25 : decode cX6_ones 25 = .ok (.ireturn, 1) := by decide +kernel
theorem dX6_fewest_0 : decode cX6_fewest 0 = .ok (.aload_n 0, 1) := by decide +kernel
theorem dX6_fewest_1 : decode cX6_fewest 1 = .ok (.iconst 0, 1) := by decide +kernel
theorem dX6_fewest_2 : decode cX6_fewest 2 = .ok (.putfield 56, 3) := by decide +kernel
theorem dX6_fewest_5 : decode cX6_fewest 5 = .ok (.aload_n 0, 1) := by decide +kernel
end
section
theorem dX6_fewest_6 : decode cX6_fewest 6 = .ok (.invokevirtual 209, 3) := by decide +kernel
theorem dX6_fewest_9 : decode cX6_fewest 9 = .ok (.iconst 1, 1) := by decide +kernel
theorem dX6_fewest_10 : decode cX6_fewest 10 = .ok (.aload_n 0, 1) := by decide +kernel
theorem dX6_fewest_11 : decode cX6_fewest 11 = .ok (.getfield 7, 3) := by decide +kernel
theorem dX6_fewest_14 : decode cX6_fewest 14 = .ok (.iconst 0, 1) := by decide +kernel
theorem dX6_fewest_15 : decode cX6_fewest 15 = .ok (.iaload, 1) := by decide +kernel
theorem dX6_fewest_16 : decode cX6_fewest 16 = .ok (.ishl, 1) := by decide +kernel
theorem dX6_fewest_17 : decode cX6_fewest 17 = .ok (.iconst 1, 1) := by decide +kernel
theorem dX6_fewest_18 : decode cX6_fewest 18 = .ok (.isub, 1) := by decide +kernel
theorem dX6_fewest_19 : decode cX6_fewest 19 = .ok (.istore_n 1, 1) := by decide +kernel
theorem dX6_fewest_20 : decode cX6_fewest 20 = .ok (.iload_n 1, 1) := by decide +kernel
theorem dX6_fewest_21 : decode cX6_fewest 21 = .ok (.istore_n 2, 1) := by decide +kernel
theorem dX6_fewest_22 : decode cX6_fewest 22 = .ok (.iload_n 2, 1) := by decide +kernel
theorem dX6_fewest_23 : decode cX6_fewest 23 = .ok (.ifCond .lt 34, 3) := by decide +kernel
theorem dX6_fewest_26 : decode cX6_fewest 26 = .ok (.iload_n 2, 1) := by decide +kernel
theorem dX6_fewest_27 : decode cX6_fewest 27 = .ok (.invokestatic 212, 3) := by decide +kernel
theorem dX6_fewest_30 : decode cX6_fewest 30 = .ok (.iload_n 1, 1) := by decide +kernel
theorem dX6_fewest_31 : decode cX6_fewest 31 = .ok (.invokestatic 212, 3) := by decide +kernel
theorem dX6_fewest_34 : decode cX6_fewest 34 = .ok (.if_icmp .gt 15, 3) := by decide +kernel
theorem dX6_fewest_37 : decode cX6_fewest 37 = .ok (.aload_n 0, 1) := by decide +kernel
theorem dX6_fewest_38 : decode cX6_fewest 38 = .ok (.iload_n 2, 1) := by decide +kernel
theorem dX6_fewest_39 : decode cX6_fewest 39 = .ok (.invokevirtual 215, 3) := by decide +kernel
theorem dX6_fewest_42 : decode cX6_fewest 42 = .ok (.ifCond .eq 7, 3) := by decide +kernel
theorem dX6_fewest_45 : decode cX6_fewest 45 = .ok (.iload_n 2, 1) := by decide +kernel
theorem dX6_fewest_46 : decode cX6_fewest 46 = .ok (.goto 4, 3) := by decide +kernel
theorem dX6_fewest_49 : decode cX6_fewest 49 = .ok (.iload_n 1, 1) := by decide +kernel
theorem dX6_fewest_50 : decode cX6_fewest 50 = .ok (.istore_n 1, 1) := by decide +kernel
theorem dX6_fewest_51 : decode cX6_fewest 51 = .ok (.iinc 2 (-1), 3) := by decide +kernel
theorem dX6_fewest_54 : decode cX6_fewest 54 = .ok (.goto (-32), 3) := by decide +kernel
theorem dX6_fewest_57 : decode cX6_fewest 57 = .ok (.iload_n 1, 1) := by decide +kernel
theorem dX6_fewest_58 : decode cX6_fewest 58 = .ok (.ireturn, 1) := by decide +kernel
theorem dX6_best_0 : decode cX6_best 0 = .ok (.aload_n 0, 1) := by decide +kernel
theorem dX6_best_1 : decode cX6_best 1 = .ok (.iconst 0, 1) := by decide +kernel
theorem dX6_best_2 : decode cX6_best 2 = .ok (.putfield 56, 3) := by decide +kernel
theorem dX6_best_5 : decode cX6_best 5 = .ok (.iload_n 1, 1) := by decide +kernel
theorem dX6_best_6 : decode cX6_best 6 = .ok (.iconst 0, 1) := by decide +kernel
theorem dX6_best_7 : decode cX6_best 7 = .ok (.iconst 2, 1) := by decide +kernel
theorem dX6_best_8 : decode cX6_best 8 = .ok (.invokestatic 63, 3) := by decide +kernel
theorem dX6_best_11 : decode cX6_best 11 = .ok (.ifCond .ne 5, 3) := by decide +kernel
theorem dX6_best_14 : decode cX6_best 14 = .ok (.iconst (-1), 1) := by decide +kernel
theorem dX6_best_15 : decode cX6_best 15 = .ok (.ireturn, 1) := by decide +kernel
theorem dX6_best_16 : decode cX6_best 16 = .ok (.aload_n 0, 1) := by decide +kernel
theorem dX6_best_17 : decode cX6_best 17 = .ok (.invokevirtual 209, 3) := by decide +kernel
theorem dX6_best_20 : decode cX6_best 20 = .ok (.iconst (-1), 1) := by decide +kernel
theorem dX6_best_21 : decode cX6_best 21 = .ok (.istore_n 2, 1) := by decide +kernel
theorem dX6_best_22 : decode cX6_best 22 = .ok (.bipush (-9), 2) := by decide +kernel
theorem dX6_best_24 : decode cX6_best 24 = .ok (.istore_n 3, 1) := by decide +kernel
theorem dX6_best_25 : decode cX6_best 25 = .ok (.iconst 0, 1) := by decide +kernel
theorem dX6_best_26 : decode cX6_best 26 = .ok (.istore 4, 2) := by decide +kernel
theorem dX6_best_28 : decode cX6_best 28 = .ok (.iload 4, 2) := by decide +kernel
theorem dX6_best_30 : decode cX6_best 30 = .ok (.aload_n 0, 1) := by decide +kernel
theorem dX6_best_31 : decode cX6_best 31 = .ok (.getfield 60, 3) := by decide +kernel
theorem dX6_best_34 : decode cX6_best 34 = .ok (.aload_n 0, 1) := by decide +kernel
theorem dX6_best_35 : decode cX6_best 35 = .ok (.getfield 67, 3) := by decide +kernel
theorem dX6_best_38 : decode cX6_best 38 = .ok (.imul, 1) := by decide +kernel
theorem dX6_best_39 : decode cX6_best 39 = .ok (.if_icmp .ge 132, 3) := by decide +kernel
theorem dX6_best_42 : decode cX6_best 42 = .ok (.iconst 0, 1) := by decide +kernel
theorem dX6_best_43 : decode cX6_best 43 = .ok (.istore 5, 2) := by decide +kernel
theorem dX6_best_45 : decode cX6_best 45 = .ok (.iconst 0, 1) := by decide +kernel
theorem dX6_best_46 : decode cX6_best 46 = .ok (.istore 6, 2) := by decide +kernel
theorem dX6_best_48 : decode cX6_best 48 = .ok (.iload 6, 2) := by decide +kernel
theorem dX6_best_50 : decode cX6_best 50 = .ok (.aload_n 0, 1) := by decide +kernel
theorem dX6_best_51 : decode cX6_best 51 = .ok (.getfield 60, 3) := by decide +kernel
theorem dX6_best_54 : decode cX6_best 54 = .ok (.aload_n 0, 1) := by decide +kernel
theorem dX6_best_55 : decode cX6_best 55 = .ok (.getfield 67, 3) := by decide +kernel
theorem dX6_best_58 : decode cX6_best 58 = .ok (.imul, 1) := by decide +kernel
theorem dX6_best_59 : decode cX6_best 59 = .ok (.if_icmp .ge 71, 3) := by decide +kernel
theorem dX6_best_62 : decode cX6_best 62 = .ok (.iload 5, 2) := by decide +kernel
theorem dX6_best_64 : decode cX6_best 64 = .ok (.aload_n 0, 1) := by decide +kernel
theorem dX6_best_65 : decode cX6_best 65 = .ok (.getfield 47, 3) := by decide +kernel
theorem dX6_best_68 : decode cX6_best 68 = .ok (.iload 6, 2) := by decide +kernel
theorem dX6_best_70 : decode cX6_best 70 = .ok (.iaload, 1) := by decide +kernel
theorem dX6_best_71 : decode cX6_best 71 = .ok (.aload_n 0, 1) := by decide +kernel
theorem dX6_best_72 : decode cX6_best 72 = .ok (.invokevirtual 159, 3) := by decide +kernel
theorem dX6_best_75 : decode cX6_best 75 = .ok (.iand, 1) := by decide +kernel
theorem dX6_best_76 : decode cX6_best 76 = .ok (.ifCond .ne 44, 3) := by decide +kernel
theorem dX6_best_79 : decode cX6_best 79 = .ok (.aload_n 0, 1) := by decide +kernel
theorem dX6_best_80 : decode cX6_best 80 = .ok (.iload 4, 2) := by decide +kernel
theorem dX6_best_82 : decode cX6_best 82 = .ok (.aload_n 0, 1) := by decide +kernel
theorem dX6_best_83 : decode cX6_best 83 = .ok (.getfield 60, 3) := by decide +kernel
theorem dX6_best_86 : decode cX6_best 86 = .ok (.irem, 1) := by decide +kernel
theorem dX6_best_87 : decode cX6_best 87 = .ok (.iload 4, 2) := by decide +kernel
theorem dX6_best_89 : decode cX6_best 89 = .ok (.aload_n 0, 1) := by decide +kernel
theorem dX6_best_90 : decode cX6_best 90 = .ok (.getfield 60, 3) := by decide +kernel
theorem dX6_best_93 : decode cX6_best 93 = .ok (.idiv, 1) := by decide +kernel
theorem dX6_best_94 : decode cX6_best 94 = .ok (.iload 6, 2) := by decide +kernel
theorem dX6_best_96 : decode cX6_best 96 = .ok (.aload_n 0, 1) := by decide +kernel
theorem dX6_best_97 : decode cX6_best 97 = .ok (.getfield 60, 3) := by decide +kernel
theorem dX6_best_100 : decode cX6_best 100 = .ok (.irem, 1) := by decide +kernel
theorem dX6_best_101 : decode cX6_best 101 = .ok (.iload 6, 2) := by decide +kernel
theorem dX6_best_103 : decode cX6_best 103 = .ok (.aload_n 0, 1) := by decide +kernel
theorem dX6_best_104 : decode cX6_best 104 = .ok (.getfield 60, 3) := by decide +kernel
theorem dX6_best_107 : decode cX6_best 107 = .ok (.idiv, 1) := by decide +kernel
theorem dX6_best_108 : decode cX6_best 108 = .ok (.bipush (-9), 2) := by decide +kernel
theorem dX6_best_110 : decode cX6_best 110 = .ok (.invokevirtual 148, 3) := by decide +kernel
theorem dX6_best_113 : decode cX6_best 113 = .ok (.ifCond .eq 7, 3) := by decide +kernel
theorem dX6_best_116 : decode cX6_best 116 = .ok (.iconst 1, 1) := by decide +kernel
theorem dX6_best_117 : decode cX6_best 117 = .ok (.goto 4, 3) := by decide +kernel
theorem dX6_best_120 : decode cX6_best 120 = .ok (.iconst 0, 1) := by decide +kernel
theorem dX6_best_121 : decode cX6_best 121 = .ok (.iadd, 1) := by decide +kernel
theorem dX6_best_122 : decode cX6_best 122 = .ok (.istore 5, 2) := by decide +kernel
theorem dX6_best_124 : decode cX6_best 124 = .ok (.iinc 6 1, 3) := by decide +kernel
theorem dX6_best_127 : decode cX6_best 127 = .ok (.goto (-79), 3) := by decide +kernel
theorem dX6_best_130 : decode cX6_best 130 = .ok (.iload 5, 2) := by decide +kernel
theorem dX6_best_132 : decode cX6_best 132 = .ok (.iload_n 2, 1) := by decide +kernel
theorem dX6_best_133 : decode cX6_best 133 = .ok (.if_icmp .le 32, 3) := by decide +kernel
theorem dX6_best_136 : decode cX6_best 136 = .ok (.aload_n 0, 1) := by decide +kernel
theorem dX6_best_137 : decode cX6_best 137 = .ok (.iload 4, 2) := by decide +kernel
theorem dX6_best_139 : decode cX6_best 139 = .ok (.aload_n 0, 1) := by decide +kernel
theorem dX6_best_140 : decode cX6_best 140 = .ok (.getfield 60, 3) := by decide +kernel
theorem dX6_best_143 : decode cX6_best 143 = .ok (.irem, 1) := by decide +kernel
theorem dX6_best_144 : decode cX6_best 144 = .ok (.iload 4, 2) := by decide +kernel
theorem dX6_best_146 : decode cX6_best 146 = .ok (.aload_n 0, 1) := by decide +kernel
theorem dX6_best_147 : decode cX6_best 147 = .ok (.getfield 60, 3) := by decide +kernel
theorem dX6_best_150 : decode cX6_best 150 = .ok (.idiv, 1) := by decide +kernel
theorem dX6_best_151 : decode cX6_best 151 = .ok (.invokevirtual 218, 3) := by decide +kernel
theorem dX6_best_154 : decode cX6_best 154 = .ok (.bipush (-9), 2) := by decide +kernel
theorem dX6_best_156 : decode cX6_best 156 = .ok (.if_icmp .ne 9, 3) := by decide +kernel
theorem dX6_best_159 : decode cX6_best 159 = .ok (.iload 5, 2) := by decide +kernel
theorem dX6_best_161 : decode cX6_best 161 = .ok (.istore_n 2, 1) := by decide +kernel
theorem dX6_best_162 : decode cX6_best 162 = .ok (.iload 4, 2) := by decide +kernel
theorem dX6_best_164 : decode cX6_best 164 = .ok (.istore_n 3, 1) := by decide +kernel
theorem dX6_best_165 : decode cX6_best 165 = .ok (.iinc 4 1, 3) := by decide +kernel
theorem dX6_best_168 : decode cX6_best 168 = .ok (.goto (-140), 3) := by decide +kernel
theorem dX6_best_171 : decode cX6_best 171 = .ok (.iload_n 3, 1) := by decide +kernel
theorem dX6_best_172 : decode cX6_best 172 = .ok (.bipush (-9), 2) := by decide +kernel
theorem dX6_best_174 : decode cX6_best 174 = .ok (.if_icmp .ne 8, 3) := by decide +kernel
theorem dX6_best_177 : decode cX6_best 177 = .ok (.bipush (-9), 2) := by decide +kernel
theorem dX6_best_179 : decode cX6_best 179 = .ok (.goto 31, 3) := by decide +kernel
theorem dX6_best_182 : decode cX6_best 182 = .ok (.iload_n 1, 1) := by decide +kernel
theorem dX6_best_183 : decode cX6_best 183 = .ok (.ifCond .ne 12, 3) := by decide +kernel
theorem dX6_best_186 : decode cX6_best 186 = .ok (.iload_n 3, 1) := by decide +kernel
theorem dX6_best_187 : decode cX6_best 187 = .ok (.aload_n 0, 1) := by decide +kernel
theorem dX6_best_188 : decode cX6_best 188 = .ok (.getfield 60, 3) := by decide +kernel
theorem dX6_best_191 : decode cX6_best 191 = .ok (.irem, 1) := by decide +kernel
theorem dX6_best_192 : decode cX6_best 192 = .ok (.goto 18, 3) := by decide +kernel
theorem dX6_best_195 : decode cX6_best 195 = .ok (.iload_n 1, 1) := by decide +kernel
theorem dX6_best_196 : decode cX6_best 196 = .ok (.iconst 1, 1) := by decide +kernel
theorem dX6_best_197 : decode cX6_best 197 = .ok (.if_icmp .ne 12, 3) := by decide +kernel
theorem dX6_best_200 : decode cX6_best 200 = .ok (.iload_n 3, 1) := by decide +kernel
theorem dX6_best_201 : decode cX6_best 201 = .ok (.aload_n 0, 1) := by decide +kernel
theorem dX6_best_202 : decode cX6_best 202 = .ok (.getfield 60, 3) := by decide +kernel
theorem dX6_best_205 : decode cX6_best 205 = .ok (.idiv, 1) := by decide +kernel
theorem dX6_best_206 : decode cX6_best 206 = .ok (.goto 4, 3) := by decide +kernel
theorem dX6_best_209 : decode cX6_best 209 = .ok (.iload_n 2, 1) := by decide +kernel
theorem dX6_best_210 : decode cX6_best 210 = .ok (.ireturn, 1) := by decide +kernel
theorem dX6_gain_0 : decode cX6_gain 0 = .ok (.aload_n 0, 1) := by decide +kernel
theorem dX6_gain_1 : decode cX6_gain 1 = .ok (.iconst 0, 1) := by decide +kernel
theorem dX6_gain_2 : decode cX6_gain 2 = .ok (.putfield 56, 3) := by decide +kernel
theorem dX6_gain_5 : decode cX6_gain 5 = .ok (.iload_n 1, 1) := by decide +kernel
theorem dX6_gain_6 : decode cX6_gain 6 = .ok (.iconst 3, 1) := by decide +kernel
theorem dX6_gain_7 : decode cX6_gain 7 = .ok (.if_icmp .le 26, 3) := by decide +kernel
theorem dX6_gain_10 : decode cX6_gain 10 = .ok (.aload_n 0, 1) := by decide +kernel
theorem dX6_gain_11 : decode cX6_gain 11 = .ok (.iload_n 1, 1) := by decide +kernel
theorem dX6_gain_12 : decode cX6_gain 12 = .ok (.invokevirtual 135, 3) := by decide +kernel
theorem dX6_gain_15 : decode cX6_gain 15 = .ok (.ifCond .eq 18, 3) := by decide +kernel
theorem dX6_gain_18 : decode cX6_gain 18 = .ok (.aload_n 0, 1) := by decide +kernel
theorem dX6_gain_19 : decode cX6_gain 19 = .ok (.iload_n 1, 1) := by decide +kernel
theorem dX6_gain_20 : decode cX6_gain 20 = .ok (.invokevirtual 166, 3) := by decide +kernel
theorem dX6_gain_23 : decode cX6_gain 23 = .ok (.aload_n 0, 1) := by decide +kernel
theorem dX6_gain_24 : decode cX6_gain 24 = .ok (.bipush (-9), 2) := by decide +kernel
theorem dX6_gain_26 : decode cX6_gain 26 = .ok (.invokevirtual 166, 3) := by decide +kernel
theorem dX6_gain_29 : decode cX6_gain 29 = .ok (.isub, 1) := by decide +kernel
theorem dX6_gain_30 : decode cX6_gain 30 = .ok (.goto 4, 3) := by decide +kernel
theorem dX6_gain_33 : decode cX6_gain 33 = .ok (.iconst (-1), 1) := by decide +kernel
theorem dX6_gain_34 : decode cX6_gain 34 = .ok (.ireturn, 1) := by decide +kernel
theorem dX6_worst_0 : decode cX6_worst 0 = .ok (.aload_n 0, 1) := by decide +kernel
theorem dX6_worst_1 : decode cX6_worst 1 = .ok (.iconst 0, 1) := by decide +kernel
theorem dX6_worst_2 : decode cX6_worst 2 = .ok (.putfield 56, 3) := by decide +kernel
theorem dX6_worst_5 : decode cX6_worst 5 = .ok (.iconst (-1), 1) := by decide +kernel
theorem dX6_worst_6 : decode cX6_worst 6 = .ok (.istore_n 1, 1) := by decide +kernel
theorem dX6_worst_7 : decode cX6_worst 7 = .ok (.bipush (-9), 2) := by decide +kernel
theorem dX6_worst_9 : decode cX6_worst 9 = .ok (.istore_n 2, 1) := by decide +kernel
theorem dX6_worst_10 : decode cX6_worst 10 = .ok (.iconst 4, 1) := by decide +kernel
theorem dX6_worst_11 : decode cX6_worst 11 = .ok (.istore_n 3, 1) := by decide +kernel
theorem dX6_worst_12 : decode cX6_worst 12 = .ok (.iload_n 3, 1) := by decide +kernel
theorem dX6_worst_13 : decode cX6_worst 13 = .ok (.aload_n 0, 1) := by decide +kernel
theorem dX6_worst_14 : decode cX6_worst 14 = .ok (.getfield 7, 3) := by decide +kernel
theorem dX6_worst_17 : decode cX6_worst 17 = .ok (.iconst 1, 1) := by decide +kernel
theorem dX6_worst_18 : decode cX6_worst 18 = .ok (.iaload, 1) := by decide +kernel
theorem dX6_worst_19 : decode cX6_worst 19 = .ok (.if_icmp .ge 41, 3) := by decide +kernel
theorem dX6_worst_22 : decode cX6_worst 22 = .ok (.aload_n 0, 1) := by decide +kernel
theorem dX6_worst_23 : decode cX6_worst 23 = .ok (.iload_n 3, 1) := by decide +kernel
theorem dX6_worst_24 : decode cX6_worst 24 = .ok (.invokevirtual 166, 3) := by decide +kernel
theorem dX6_worst_27 : decode cX6_worst 27 = .ok (.istore 4, 2) := by decide +kernel
theorem dX6_worst_29 : decode cX6_worst 29 = .ok (.iload 4, 2) := by decide +kernel
theorem dX6_worst_31 : decode cX6_worst 31 = .ok (.iload_n 1, 1) := by decide +kernel
theorem dX6_worst_32 : decode cX6_worst 32 = .ok (.if_icmp .le 7, 3) := by decide +kernel
theorem dX6_worst_35 : decode cX6_worst 35 = .ok (.iload_n 3, 1) := by decide +kernel
theorem dX6_worst_36 : decode cX6_worst 36 = .ok (.goto 4, 3) := by decide +kernel
theorem dX6_worst_39 : decode cX6_worst 39 = .ok (.iload_n 2, 1) := by decide +kernel
theorem dX6_worst_40 : decode cX6_worst 40 = .ok (.istore_n 2, 1) := by decide +kernel
theorem dX6_worst_41 : decode cX6_worst 41 = .ok (.iload 4, 2) := by decide +kernel
theorem dX6_worst_43 : decode cX6_worst 43 = .ok (.iload_n 1, 1) := by decide +kernel
theorem dX6_worst_44 : decode cX6_worst 44 = .ok (.if_icmp .le 8, 3) := by decide +kernel
theorem dX6_worst_47 : decode cX6_worst 47 = .ok (.iload 4, 2) := by decide +kernel
theorem dX6_worst_49 : decode cX6_worst 49 = .ok (.goto 4, 3) := by decide +kernel
theorem dX6_worst_52 : decode cX6_worst 52 = .ok (.iload_n 1, 1) := by decide +kernel
theorem dX6_worst_53 : decode cX6_worst 53 = .ok (.istore_n 1, 1) := by decide +kernel
theorem dX6_worst_54 : decode cX6_worst 54 = .ok (.iinc 3 1, 3) := by decide +kernel
theorem dX6_worst_57 : decode cX6_worst 57 = .ok (.goto (-45), 3) := by decide +kernel
theorem dX6_worst_60 : decode cX6_worst 60 = .ok (.iload_n 2, 1) := by decide +kernel
theorem dX6_worst_61 : decode cX6_worst 61 = .ok (.ireturn, 1) := by decide +kernel
theorem dX6_notes_0 : decode cX6_notes 0 = .ok (.aload_n 0, 1) := by decide +kernel
theorem dX6_notes_1 : decode cX6_notes 1 = .ok (.getfield 126, 3) := by decide +kernel
theorem dX6_notes_4 : decode cX6_notes 4 = .ok (.bipush 10, 2) := by decide +kernel
theorem dX6_notes_6 : decode cX6_notes 6 = .ok (.if_icmp .ne 43, 3) := by decide +kernel
theorem dX6_notes_9 : decode cX6_notes 9 = .ok (.iconst 0, 1) := by decide +kernel
theorem dX6_notes_10 : decode cX6_notes 10 = .ok (.istore_n 1, 1) := by decide +kernel
theorem dX6_notes_11 : decode cX6_notes 11 = .ok (.iload_n 1, 1) := by decide +kernel
theorem dX6_notes_12 : decode cX6_notes 12 = .ok (.sipush 738, 3) := by decide +kernel
theorem dX6_notes_15 : decode cX6_notes 15 = .ok (.if_icmp .ge 24, 3) := by decide +kernel
theorem dX6_notes_18 : decode cX6_notes 18 = .ok (.aload_n 0, 1) := by decide +kernel
theorem dX6_notes_19 : decode cX6_notes 19 = .ok (.getfield 13, 3) := by decide +kernel
theorem dX6_notes_22 : decode cX6_notes 22 = .ok (.iload_n 1, 1) := by decide +kernel
theorem dX6_notes_23 : decode cX6_notes 23 = .ok (.aload_n 0, 1) := by decide +kernel
theorem dX6_notes_24 : decode cX6_notes 24 = .ok (.getfield 13, 3) := by decide +kernel
theorem dX6_notes_27 : decode cX6_notes 27 = .ok (.iload_n 1, 1) := by decide +kernel
theorem dX6_notes_28 : decode cX6_notes 28 = .ok (.bipush 82, 2) := by decide +kernel
theorem dX6_notes_30 : decode cX6_notes 30 = .ok (.iadd, 1) := by decide +kernel
theorem dX6_notes_31 : decode cX6_notes 31 = .ok (.iaload, 1) := by decide +kernel
theorem dX6_notes_32 : decode cX6_notes 32 = .ok (.iastore, 1) := by decide +kernel
theorem dX6_notes_33 : decode cX6_notes 33 = .ok (.iinc 1 1, 3) := by decide +kernel
theorem dX6_notes_36 : decode cX6_notes 36 = .ok (.goto (-25), 3) := by decide +kernel
theorem dX6_notes_39 : decode cX6_notes 39 = .ok (.aload_n 0, 1) := by decide +kernel
theorem dX6_notes_40 : decode cX6_notes 40 = .ok (.dup, 1) := by decide +kernel
theorem dX6_notes_41 : decode cX6_notes 41 = .ok (.getfield 126, 3) := by decide +kernel
theorem dX6_notes_44 : decode cX6_notes 44 = .ok (.iconst 1, 1) := by decide +kernel
theorem dX6_notes_45 : decode cX6_notes 45 = .ok (.isub, 1) := by decide +kernel
theorem dX6_notes_46 : decode cX6_notes 46 = .ok (.putfield 126, 3) := by decide +kernel
theorem dX6_notes_49 : decode cX6_notes 49 = .ok (.iconst 0, 1) := by decide +kernel
theorem dX6_notes_50 : decode cX6_notes 50 = .ok (.istore_n 1, 1) := by decide +kernel
theorem dX6_notes_51 : decode cX6_notes 51 = .ok (.iload_n 1, 1) := by decide +kernel
theorem dX6_notes_52 : decode cX6_notes 52 = .ok (.bipush 82, 2) := by decide +kernel
theorem dX6_notes_54 : decode cX6_notes 54 = .ok (.if_icmp .ge 29, 3) := by decide +kernel
theorem dX6_notes_57 : decode cX6_notes 57 = .ok (.aload_n 0, 1) := by decide +kernel
theorem dX6_notes_58 : decode cX6_notes 58 = .ok (.getfield 13, 3) := by decide +kernel
theorem dX6_notes_61 : decode cX6_notes 61 = .ok (.bipush 82, 2) := by decide +kernel
theorem dX6_notes_63 : decode cX6_notes 63 = .ok (.aload_n 0, 1) := by decide +kernel
theorem dX6_notes_64 : decode cX6_notes 64 = .ok (.getfield 126, 3) := by decide +kernel
theorem dX6_notes_67 : decode cX6_notes 67 = .ok (.imul, 1) := by decide +kernel
theorem dX6_notes_68 : decode cX6_notes 68 = .ok (.iload_n 1, 1) := by decide +kernel
theorem dX6_notes_69 : decode cX6_notes 69 = .ok (.iadd, 1) := by decide +kernel
theorem dX6_notes_70 : decode cX6_notes 70 = .ok (.aload_n 0, 1) := by decide +kernel
theorem dX6_notes_71 : decode cX6_notes 71 = .ok (.getfield 7, 3) := by decide +kernel
theorem dX6_notes_74 : decode cX6_notes 74 = .ok (.iload_n 1, 1) := by decide +kernel
theorem dX6_notes_75 : decode cX6_notes 75 = .ok (.iaload, 1) := by decide +kernel
theorem dX6_notes_76 : decode cX6_notes 76 = .ok (.iastore, 1) := by decide +kernel
theorem dX6_notes_77 : decode cX6_notes 77 = .ok (.iinc 1 1, 3) := by decide +kernel
theorem dX6_notes_80 : decode cX6_notes 80 = .ok (.goto (-29), 3) := by decide +kernel
theorem dX6_notes_83 : decode cX6_notes 83 = .ok (.aload_n 0, 1) := by decide +kernel
theorem dX6_notes_84 : decode cX6_notes 84 = .ok (.dup, 1) := by decide +kernel
theorem dX6_notes_85 : decode cX6_notes 85 = .ok (.getfield 126, 3) := by decide +kernel
theorem dX6_notes_88 : decode cX6_notes 88 = .ok (.iconst 1, 1) := by decide +kernel
theorem dX6_notes_89 : decode cX6_notes 89 = .ok (.iadd, 1) := by decide +kernel
theorem dX6_notes_90 : decode cX6_notes 90 = .ok (.putfield 126, 3) := by decide +kernel
theorem dX6_notes_93 : decode cX6_notes 93 = .ok (.return_, 1) := by decide +kernel
theorem dX6_puts_0 : decode cX6_puts 0 = .ok (.aload_n 0, 1) := by decide +kernel
theorem dX6_puts_1 : decode cX6_puts 1 = .ok (.iconst 0, 1) := by decide +kernel
theorem dX6_puts_2 : decode cX6_puts 2 = .ok (.putfield 56, 3) := by decide +kernel
theorem dX6_puts_5 : decode cX6_puts 5 = .ok (.aload_n 0, 1) := by decide +kernel
theorem dX6_puts_6 : decode cX6_puts 6 = .ok (.iload_n 1, 1) := by decide +kernel
theorem dX6_puts_7 : decode cX6_puts 7 = .ok (.iload_n 2, 1) := by decide +kernel
theorem dX6_puts_8 : decode cX6_puts 8 = .ok (.invokevirtual 163, 3) := by decide +kernel
theorem dX6_puts_11 : decode cX6_puts 11 = .ok (.ifCond .ne 5, 3) := by decide +kernel
theorem dX6_puts_14 : decode cX6_puts 14 = .ok (.iconst (-1), 1) := by decide +kernel
theorem dX6_puts_15 : decode cX6_puts 15 = .ok (.ireturn, 1) := by decide +kernel
theorem dX6_puts_16 : decode cX6_puts 16 = .ok (.aload_n 0, 1) := by decide +kernel
theorem dX6_puts_17 : decode cX6_puts 17 = .ok (.iload_n 1, 1) := by decide +kernel
theorem dX6_puts_18 : decode cX6_puts 18 = .ok (.iload_n 2, 1) := by decide +kernel
theorem dX6_puts_19 : decode cX6_puts 19 = .ok (.invokevirtual 218, 3) := by decide +kernel
theorem dX6_puts_22 : decode cX6_puts 22 = .ok (.bipush (-9), 2) := by decide +kernel
theorem dX6_puts_24 : decode cX6_puts 24 = .ok (.if_icmp .eq 6, 3) := by decide +kernel
theorem dX6_puts_27 : decode cX6_puts 27 = .ok (.bipush (-2), 2) := by decide +kernel
theorem dX6_puts_29 : decode cX6_puts 29 = .ok (.ireturn, 1) := by decide +kernel
theorem dX6_puts_30 : decode cX6_puts 30 = .ok (.aload_n 0, 1) := by decide +kernel
theorem dX6_puts_31 : decode cX6_puts 31 = .ok (.getfield 7, 3) := by decide +kernel
theorem dX6_puts_34 : decode cX6_puts 34 = .ok (.iconst 0, 1) := by decide +kernel
theorem dX6_puts_35 : decode cX6_puts 35 = .ok (.iaload, 1) := by decide +kernel
theorem dX6_puts_36 : decode cX6_puts 36 = .ok (.bipush 8, 2) := by decide +kernel
theorem dX6_puts_38 : decode cX6_puts 38 = .ok (.if_icmp .ne 6, 3) := by decide +kernel
theorem dX6_puts_41 : decode cX6_puts 41 = .ok (.bipush (-3), 2) := by decide +kernel
theorem dX6_puts_43 : decode cX6_puts 43 = .ok (.ireturn, 1) := by decide +kernel
theorem dX6_puts_44 : decode cX6_puts 44 = .ok (.aload_n 0, 1) := by decide +kernel
theorem dX6_puts_45 : decode cX6_puts 45 = .ok (.invokevirtual 221, 3) := by decide +kernel
theorem dX6_puts_48 : decode cX6_puts 48 = .ok (.iconst 2, 1) := by decide +kernel
theorem dX6_puts_49 : decode cX6_puts 49 = .ok (.iconst 3, 1) := by decide +kernel
theorem dX6_puts_50 : decode cX6_puts 50 = .ok (.aload_n 0, 1) := by decide +kernel
theorem dX6_puts_51 : decode cX6_puts 51 = .ok (.getfield 7, 3) := by decide +kernel
theorem dX6_puts_54 : decode cX6_puts 54 = .ok (.iconst 0, 1) := by decide +kernel
theorem dX6_puts_55 : decode cX6_puts 55 = .ok (.iaload, 1) := by decide +kernel
theorem dX6_puts_56 : decode cX6_puts 56 = .ok (.imul, 1) := by decide +kernel
theorem dX6_puts_57 : decode cX6_puts 57 = .ok (.iadd, 1) := by decide +kernel
theorem dX6_puts_58 : decode cX6_puts 58 = .ok (.istore_n 3, 1) := by decide +kernel
theorem dX6_puts_59 : decode cX6_puts 59 = .ok (.aload_n 0, 1) := by decide +kernel
theorem dX6_puts_60 : decode cX6_puts 60 = .ok (.getfield 7, 3) := by decide +kernel
theorem dX6_puts_63 : decode cX6_puts 63 = .ok (.iload_n 3, 1) := by decide +kernel
theorem dX6_puts_64 : decode cX6_puts 64 = .ok (.iload_n 1, 1) := by decide +kernel
theorem dX6_puts_65 : decode cX6_puts 65 = .ok (.iastore, 1) := by decide +kernel
theorem dX6_puts_66 : decode cX6_puts 66 = .ok (.aload_n 0, 1) := by decide +kernel
theorem dX6_puts_67 : decode cX6_puts 67 = .ok (.getfield 7, 3) := by decide +kernel
theorem dX6_puts_70 : decode cX6_puts 70 = .ok (.iload_n 3, 1) := by decide +kernel
theorem dX6_puts_71 : decode cX6_puts 71 = .ok (.iconst 1, 1) := by decide +kernel
theorem dX6_puts_72 : decode cX6_puts 72 = .ok (.iadd, 1) := by decide +kernel
theorem dX6_puts_73 : decode cX6_puts 73 = .ok (.iload_n 2, 1) := by decide +kernel
theorem dX6_puts_74 : decode cX6_puts 74 = .ok (.iastore, 1) := by decide +kernel
theorem dX6_puts_75 : decode cX6_puts 75 = .ok (.aload_n 0, 1) := by decide +kernel
theorem dX6_puts_76 : decode cX6_puts 76 = .ok (.getfield 7, 3) := by decide +kernel
theorem dX6_puts_79 : decode cX6_puts 79 = .ok (.iload_n 3, 1) := by decide +kernel
theorem dX6_puts_80 : decode cX6_puts 80 = .ok (.iconst 2, 1) := by decide +kernel
theorem dX6_puts_81 : decode cX6_puts 81 = .ok (.iadd, 1) := by decide +kernel
theorem dX6_puts_82 : decode cX6_puts 82 = .ok (.iconst 1, 1) := by decide +kernel
theorem dX6_puts_83 : decode cX6_puts 83 = .ok (.iastore, 1) := by decide +kernel
theorem dX6_puts_84 : decode cX6_puts 84 = .ok (.aload_n 0, 1) := by decide +kernel
theorem dX6_puts_85 : decode cX6_puts 85 = .ok (.getfield 7, 3) := by decide +kernel
theorem dX6_puts_88 : decode cX6_puts 88 = .ok (.iconst 0, 1) := by decide +kernel
theorem dX6_puts_89 : decode cX6_puts 89 = .ok (.dup2, 1) := by decide +kernel
theorem dX6_puts_90 : decode cX6_puts 90 = .ok (.iaload, 1) := by decide +kernel
theorem dX6_puts_91 : decode cX6_puts 91 = .ok (.iconst 1, 1) := by decide +kernel
theorem dX6_puts_92 : decode cX6_puts 92 = .ok (.iadd, 1) := by decide +kernel
theorem dX6_puts_93 : decode cX6_puts 93 = .ok (.iastore, 1) := by decide +kernel
theorem dX6_puts_94 : decode cX6_puts 94 = .ok (.aload_n 0, 1) := by decide +kernel
theorem dX6_puts_95 : decode cX6_puts 95 = .ok (.getfield 7, 3) := by decide +kernel
theorem dX6_puts_98 : decode cX6_puts 98 = .ok (.iconst 0, 1) := by decide +kernel
theorem dX6_puts_99 : decode cX6_puts 99 = .ok (.iaload, 1) := by decide +kernel
theorem dX6_puts_100 : decode cX6_puts 100 = .ok (.ireturn, 1) := by decide +kernel
theorem dX6_takes_0 : decode cX6_takes 0 = .ok (.aload_n 0, 1) := by decide +kernel
theorem dX6_takes_1 : decode cX6_takes 1 = .ok (.iconst 0, 1) := by decide +kernel
theorem dX6_takes_2 : decode cX6_takes 2 = .ok (.putfield 56, 3) := by decide +kernel
theorem dX6_takes_5 : decode cX6_takes 5 = .ok (.aload_n 0, 1) := by decide +kernel
theorem dX6_takes_6 : decode cX6_takes 6 = .ok (.iload_n 1, 1) := by decide +kernel
theorem dX6_takes_7 : decode cX6_takes 7 = .ok (.invokevirtual 141, 3) := by decide +kernel
theorem dX6_takes_10 : decode cX6_takes 10 = .ok (.ifCond .ne 5, 3) := by decide +kernel
theorem dX6_takes_13 : decode cX6_takes 13 = .ok (.iconst (-1), 1) := by decide +kernel
theorem dX6_takes_14 : decode cX6_takes 14 = .ok (.ireturn, 1) := by decide +kernel
theorem dX6_takes_15 : decode cX6_takes 15 = .ok (.aload_n 0, 1) := by decide +kernel
theorem dX6_takes_16 : decode cX6_takes 16 = .ok (.invokevirtual 221, 3) := by decide +kernel
theorem dX6_takes_19 : decode cX6_takes 19 = .ok (.aload_n 0, 1) := by decide +kernel
theorem dX6_takes_20 : decode cX6_takes 20 = .ok (.getfield 7, 3) := by decide +kernel
theorem dX6_takes_23 : decode cX6_takes 23 = .ok (.iconst 0, 1) := by decide +kernel
theorem dX6_takes_24 : decode cX6_takes 24 = .ok (.dup2, 1) := by decide +kernel
theorem dX6_takes_25 : decode cX6_takes 25 = .ok (.iaload, 1) := by decide +kernel
theorem dX6_takes_26 : decode cX6_takes 26 = .ok (.iconst 1, 1) := by decide +kernel
theorem dX6_takes_27 : decode cX6_takes 27 = .ok (.isub, 1) := by decide +kernel
theorem dX6_takes_28 : decode cX6_takes 28 = .ok (.iastore, 1) := by decide +kernel
theorem dX6_takes_29 : decode cX6_takes 29 = .ok (.iconst 2, 1) := by decide +kernel
theorem dX6_takes_30 : decode cX6_takes 30 = .ok (.iconst 3, 1) := by decide +kernel
theorem dX6_takes_31 : decode cX6_takes 31 = .ok (.iload_n 1, 1) := by decide +kernel
theorem dX6_takes_32 : decode cX6_takes 32 = .ok (.imul, 1) := by decide +kernel
theorem dX6_takes_33 : decode cX6_takes 33 = .ok (.iadd, 1) := by decide +kernel
theorem dX6_takes_34 : decode cX6_takes 34 = .ok (.istore_n 2, 1) := by decide +kernel
theorem dX6_takes_35 : decode cX6_takes 35 = .ok (.iload_n 2, 1) := by decide +kernel
theorem dX6_takes_36 : decode cX6_takes 36 = .ok (.iconst 2, 1) := by decide +kernel
theorem dX6_takes_37 : decode cX6_takes 37 = .ok (.iconst 3, 1) := by decide +kernel
theorem dX6_takes_38 : decode cX6_takes 38 = .ok (.aload_n 0, 1) := by decide +kernel
theorem dX6_takes_39 : decode cX6_takes 39 = .ok (.getfield 7, 3) := by decide +kernel
theorem dX6_takes_42 : decode cX6_takes 42 = .ok (.iconst 0, 1) := by decide +kernel
theorem dX6_takes_43 : decode cX6_takes 43 = .ok (.iaload, 1) := by decide +kernel
theorem dX6_takes_44 : decode cX6_takes 44 = .ok (.imul, 1) := by decide +kernel
theorem dX6_takes_45 : decode cX6_takes 45 = .ok (.iadd, 1) := by decide +kernel
theorem dX6_takes_46 : decode cX6_takes 46 = .ok (.if_icmp .ge 23, 3) := by decide +kernel
theorem dX6_takes_49 : decode cX6_takes 49 = .ok (.aload_n 0, 1) := by decide +kernel
theorem dX6_takes_50 : decode cX6_takes 50 = .ok (.getfield 7, 3) := by decide +kernel
theorem dX6_takes_53 : decode cX6_takes 53 = .ok (.iload_n 2, 1) := by decide +kernel
theorem dX6_takes_54 : decode cX6_takes 54 = .ok (.aload_n 0, 1) := by decide +kernel
theorem dX6_takes_55 : decode cX6_takes 55 = .ok (.getfield 7, 3) := by decide +kernel
theorem dX6_takes_58 : decode cX6_takes 58 = .ok (.iload_n 2, 1) := by decide +kernel
theorem dX6_takes_59 : decode cX6_takes 59 = .ok (.iconst 3, 1) := by decide +kernel
theorem dX6_takes_60 : decode cX6_takes 60 = .ok (.iadd, 1) := by decide +kernel
theorem dX6_takes_61 : decode cX6_takes 61 = .ok (.iaload, 1) := by decide +kernel
theorem dX6_takes_62 : decode cX6_takes 62 = .ok (.iastore, 1) := by decide +kernel
theorem dX6_takes_63 : decode cX6_takes 63 = .ok (.iinc 2 1, 3) := by decide +kernel
theorem dX6_takes_66 : decode cX6_takes 66 = .ok (.goto (-31), 3) := by decide +kernel
theorem dX6_takes_69 : decode cX6_takes 69 = .ok (.aload_n 0, 1) := by decide +kernel
theorem dX6_takes_70 : decode cX6_takes 70 = .ok (.getfield 7, 3) := by decide +kernel
theorem dX6_takes_73 : decode cX6_takes 73 = .ok (.iconst 0, 1) := by decide +kernel
theorem dX6_takes_74 : decode cX6_takes 74 = .ok (.iaload, 1) := by decide +kernel
theorem dX6_takes_75 : decode cX6_takes 75 = .ok (.ireturn, 1) := by decide +kernel
theorem dX6_switches_0 : decode cX6_switches 0 = .ok (.aload_n 0, 1) := by decide +kernel
theorem dX6_switches_1 : decode cX6_switches 1 = .ok (.iconst 0, 1) := by decide +kernel
theorem dX6_switches_2 : decode cX6_switches 2 = .ok (.putfield 56, 3) := by decide +kernel
theorem dX6_switches_5 : decode cX6_switches 5 = .ok (.aload_n 0, 1) := by decide +kernel
theorem dX6_switches_6 : decode cX6_switches 6 = .ok (.iload_n 1, 1) := by decide +kernel
theorem dX6_switches_7 : decode cX6_switches 7 = .ok (.invokevirtual 141, 3) := by decide +kernel
theorem dX6_switches_10 : decode cX6_switches 10 = .ok (.ifCond .ne 5, 3) := by decide +kernel
theorem dX6_switches_13 : decode cX6_switches 13 = .ok (.iconst (-1), 1) := by decide +kernel
theorem dX6_switches_14 : decode cX6_switches 14 = .ok (.ireturn, 1) := by decide +kernel
theorem dX6_switches_15 : decode cX6_switches 15 = .ok (.aload_n 0, 1) := by decide +kernel
theorem dX6_switches_16 : decode cX6_switches 16 = .ok (.invokevirtual 221, 3) := by decide +kernel
theorem dX6_switches_19 : decode cX6_switches 19 = .ok (.aload_n 0, 1) := by decide +kernel
theorem dX6_switches_20 : decode cX6_switches 20 = .ok (.getfield 7, 3) := by decide +kernel
theorem dX6_switches_23 : decode cX6_switches 23 = .ok (.iconst 2, 1) := by decide +kernel
theorem dX6_switches_24 : decode cX6_switches 24 = .ok (.iconst 3, 1) := by decide +kernel
theorem dX6_switches_25 : decode cX6_switches 25 = .ok (.iload_n 1, 1) := by decide +kernel
theorem dX6_switches_26 : decode cX6_switches 26 = .ok (.imul, 1) := by decide +kernel
theorem dX6_switches_27 : decode cX6_switches 27 = .ok (.iadd, 1) := by decide +kernel
theorem dX6_switches_28 : decode cX6_switches 28 = .ok (.iconst 2, 1) := by decide +kernel
theorem dX6_switches_29 : decode cX6_switches 29 = .ok (.iadd, 1) := by decide +kernel
theorem dX6_switches_30 : decode cX6_switches 30 = .ok (.iconst 1, 1) := by decide +kernel
theorem dX6_switches_31 : decode cX6_switches 31 = .ok (.aload_n 0, 1) := by decide +kernel
theorem dX6_switches_32 : decode cX6_switches 32 = .ok (.iload_n 1, 1) := by decide +kernel
theorem dX6_switches_33 : decode cX6_switches 33 = .ok (.iconst 2, 1) := by decide +kernel
theorem dX6_switches_34 : decode cX6_switches 34 = .ok (.invokevirtual 70, 3) := by decide +kernel
theorem dX6_switches_37 : decode cX6_switches 37 = .ok (.isub, 1) := by decide +kernel
theorem dX6_switches_38 : decode cX6_switches 38 = .ok (.iastore, 1) := by decide +kernel
theorem dX6_switches_39 : decode cX6_switches 39 = .ok (.aload_n 0, 1) := by decide +kernel
theorem dX6_switches_40 : decode cX6_switches 40 = .ok (.iload_n 1, 1) := by decide +kernel
theorem dX6_switches_41 : decode cX6_switches 41 = .ok (.iconst 2, 1) := by decide +kernel
theorem dX6_switches_42 : decode cX6_switches 42 = .ok (.invokevirtual 70, 3) := by decide +kernel
theorem dX6_switches_45 : decode cX6_switches 45 = .ok (.ireturn, 1) := by decide +kernel
theorem dX6_builds_0 : decode cX6_builds 0 = .ok (.aload_n 0, 1) := by decide +kernel
theorem dX6_builds_1 : decode cX6_builds 1 = .ok (.iconst 0, 1) := by decide +kernel
theorem dX6_builds_2 : decode cX6_builds 2 = .ok (.putfield 56, 3) := by decide +kernel
theorem dX6_builds_5 : decode cX6_builds 5 = .ok (.iload 4, 2) := by decide +kernel
theorem dX6_builds_7 : decode cX6_builds 7 = .ok (.iconst 0, 1) := by decide +kernel
theorem dX6_builds_8 : decode cX6_builds 8 = .ok (.iconst 1, 1) := by decide +kernel
theorem dX6_builds_9 : decode cX6_builds 9 = .ok (.invokestatic 63, 3) := by decide +kernel
theorem dX6_builds_12 : decode cX6_builds 12 = .ok (.ifCond .eq 63, 3) := by decide +kernel
theorem dX6_builds_15 : decode cX6_builds 15 = .ok (.iload_n 1, 1) := by decide +kernel
theorem dX6_builds_16 : decode cX6_builds 16 = .ok (.iconst 0, 1) := by decide +kernel
theorem dX6_builds_17 : decode cX6_builds 17 = .ok (.aload_n 0, 1) := by decide +kernel
theorem dX6_builds_18 : decode cX6_builds 18 = .ok (.getfield 60, 3) := by decide +kernel
theorem dX6_builds_21 : decode cX6_builds 21 = .ok (.iconst 1, 1) := by decide +kernel
theorem dX6_builds_22 : decode cX6_builds 22 = .ok (.isub, 1) := by decide +kernel
theorem dX6_builds_23 : decode cX6_builds 23 = .ok (.iload 4, 2) := by decide +kernel
theorem dX6_builds_25 : decode cX6_builds 25 = .ok (.iadd, 1) := by decide +kernel
theorem dX6_builds_26 : decode cX6_builds 26 = .ok (.invokestatic 63, 3) := by decide +kernel
theorem dX6_builds_29 : decode cX6_builds 29 = .ok (.ifCond .eq 46, 3) := by decide +kernel
theorem dX6_builds_32 : decode cX6_builds 32 = .ok (.iload_n 2, 1) := by decide +kernel
theorem dX6_builds_33 : decode cX6_builds 33 = .ok (.iconst 0, 1) := by decide +kernel
theorem dX6_builds_34 : decode cX6_builds 34 = .ok (.aload_n 0, 1) := by decide +kernel
theorem dX6_builds_35 : decode cX6_builds 35 = .ok (.getfield 67, 3) := by decide +kernel
theorem dX6_builds_38 : decode cX6_builds 38 = .ok (.iload 4, 2) := by decide +kernel
theorem dX6_builds_40 : decode cX6_builds 40 = .ok (.isub, 1) := by decide +kernel
theorem dX6_builds_41 : decode cX6_builds 41 = .ok (.invokestatic 63, 3) := by decide +kernel
theorem dX6_builds_44 : decode cX6_builds 44 = .ok (.ifCond .eq 31, 3) := by decide +kernel
theorem dX6_builds_47 : decode cX6_builds 47 = .ok (.iload_n 3, 1) := by decide +kernel
theorem dX6_builds_48 : decode cX6_builds 48 = .ok (.iconst 1, 1) := by decide +kernel
theorem dX6_builds_49 : decode cX6_builds 49 = .ok (.iload 4, 2) := by decide +kernel
theorem dX6_builds_51 : decode cX6_builds 51 = .ok (.ifCond .ne 12, 3) := by decide +kernel
theorem dX6_builds_54 : decode cX6_builds 54 = .ok (.aload_n 0, 1) := by decide +kernel
theorem dX6_builds_55 : decode cX6_builds 55 = .ok (.getfield 60, 3) := by decide +kernel
theorem dX6_builds_58 : decode cX6_builds 58 = .ok (.iload_n 1, 1) := by decide +kernel
theorem dX6_builds_59 : decode cX6_builds 59 = .ok (.isub, 1) := by decide +kernel
theorem dX6_builds_60 : decode cX6_builds 60 = .ok (.goto 9, 3) := by decide +kernel
theorem dX6_builds_63 : decode cX6_builds 63 = .ok (.aload_n 0, 1) := by decide +kernel
theorem dX6_builds_64 : decode cX6_builds 64 = .ok (.getfield 67, 3) := by decide +kernel
theorem dX6_builds_67 : decode cX6_builds 67 = .ok (.iload_n 2, 1) := by decide +kernel
theorem dX6_builds_68 : decode cX6_builds 68 = .ok (.isub, 1) := by decide +kernel
theorem dX6_builds_69 : decode cX6_builds 69 = .ok (.invokestatic 63, 3) := by decide +kernel
theorem dX6_builds_72 : decode cX6_builds 72 = .ok (.ifCond .ne 5, 3) := by decide +kernel
theorem dX6_builds_75 : decode cX6_builds 75 = .ok (.iconst (-1), 1) := by decide +kernel
theorem dX6_builds_76 : decode cX6_builds 76 = .ok (.ireturn, 1) := by decide +kernel
theorem dX6_builds_77 : decode cX6_builds 77 = .ok (.aload_n 0, 1) := by decide +kernel
theorem dX6_builds_78 : decode cX6_builds 78 = .ok (.getfield 7, 3) := by decide +kernel
theorem dX6_builds_81 : decode cX6_builds 81 = .ok (.iconst 1, 1) := by decide +kernel
theorem dX6_builds_82 : decode cX6_builds 82 = .ok (.iaload, 1) := by decide +kernel
theorem dX6_builds_83 : decode cX6_builds 83 = .ok (.bipush 14, 2) := by decide +kernel
theorem dX6_builds_85 : decode cX6_builds 85 = .ok (.if_icmp .ne 6, 3) := by decide +kernel
theorem dX6_builds_88 : decode cX6_builds 88 = .ok (.bipush (-3), 2) := by decide +kernel
theorem dX6_builds_90 : decode cX6_builds 90 = .ok (.ireturn, 1) := by decide +kernel
theorem dX6_builds_91 : decode cX6_builds 91 = .ok (.aload_n 0, 1) := by decide +kernel
theorem dX6_builds_92 : decode cX6_builds 92 = .ok (.invokevirtual 221, 3) := by decide +kernel
theorem dX6_builds_95 : decode cX6_builds 95 = .ok (.aload_n 0, 1) := by decide +kernel
theorem dX6_builds_96 : decode cX6_builds 96 = .ok (.aload_n 0, 1) := by decide +kernel
theorem dX6_builds_97 : decode cX6_builds 97 = .ok (.getfield 7, 3) := by decide +kernel
theorem dX6_builds_100 : decode cX6_builds 100 = .ok (.iconst 1, 1) := by decide +kernel
theorem dX6_builds_101 : decode cX6_builds 101 = .ok (.iaload, 1) := by decide +kernel
theorem dX6_builds_102 : decode cX6_builds 102 = .ok (.iload_n 1, 1) := by decide +kernel
theorem dX6_builds_103 : decode cX6_builds 103 = .ok (.iload_n 2, 1) := by decide +kernel
theorem dX6_builds_104 : decode cX6_builds 104 = .ok (.iload_n 3, 1) := by decide +kernel
theorem dX6_builds_105 : decode cX6_builds 105 = .ok (.iload 4, 2) := by decide +kernel
theorem dX6_builds_107 : decode cX6_builds 107 = .ok (.invokevirtual 122, 3) := by decide +kernel
theorem dX6_builds_110 : decode cX6_builds 110 = .ok (.aload_n 0, 1) := by decide +kernel
theorem dX6_builds_111 : decode cX6_builds 111 = .ok (.getfield 7, 3) := by decide +kernel
theorem dX6_builds_114 : decode cX6_builds 114 = .ok (.iconst 1, 1) := by decide +kernel
theorem dX6_builds_115 : decode cX6_builds 115 = .ok (.dup2, 1) := by decide +kernel
theorem dX6_builds_116 : decode cX6_builds 116 = .ok (.iaload, 1) := by decide +kernel
theorem dX6_builds_117 : decode cX6_builds 117 = .ok (.iconst 1, 1) := by decide +kernel
theorem dX6_builds_118 : decode cX6_builds 118 = .ok (.iadd, 1) := by decide +kernel
theorem dX6_builds_119 : decode cX6_builds 119 = .ok (.iastore, 1) := by decide +kernel
theorem dX6_builds_120 : decode cX6_builds 120 = .ok (.aload_n 0, 1) := by decide +kernel
theorem dX6_builds_121 : decode cX6_builds 121 = .ok (.getfield 7, 3) := by decide +kernel
theorem dX6_builds_124 : decode cX6_builds 124 = .ok (.iconst 1, 1) := by decide +kernel
theorem dX6_builds_125 : decode cX6_builds 125 = .ok (.iaload, 1) := by decide +kernel
theorem dX6_builds_126 : decode cX6_builds 126 = .ok (.ireturn, 1) := by decide +kernel
theorem dX6_breaks_0 : decode cX6_breaks 0 = .ok (.aload_n 0, 1) := by decide +kernel
theorem dX6_breaks_1 : decode cX6_breaks 1 = .ok (.iconst 0, 1) := by decide +kernel
theorem dX6_breaks_2 : decode cX6_breaks 2 = .ok (.putfield 56, 3) := by decide +kernel
theorem dX6_breaks_5 : decode cX6_breaks 5 = .ok (.iload_n 1, 1) := by decide +kernel
theorem dX6_breaks_6 : decode cX6_breaks 6 = .ok (.iconst 4, 1) := by decide +kernel
theorem dX6_breaks_7 : decode cX6_breaks 7 = .ok (.if_icmp .lt 11, 3) := by decide +kernel
theorem dX6_breaks_10 : decode cX6_breaks 10 = .ok (.aload_n 0, 1) := by decide +kernel
theorem dX6_breaks_11 : decode cX6_breaks 11 = .ok (.iload_n 1, 1) := by decide +kernel
theorem dX6_breaks_12 : decode cX6_breaks 12 = .ok (.invokevirtual 135, 3) := by decide +kernel
theorem dX6_breaks_15 : decode cX6_breaks 15 = .ok (.ifCond .ne 5, 3) := by decide +kernel
theorem dX6_breaks_18 : decode cX6_breaks 18 = .ok (.iconst (-1), 1) := by decide +kernel
theorem dX6_breaks_19 : decode cX6_breaks 19 = .ok (.ireturn, 1) := by decide +kernel
theorem dX6_breaks_20 : decode cX6_breaks 20 = .ok (.aload_n 0, 1) := by decide +kernel
theorem dX6_breaks_21 : decode cX6_breaks 21 = .ok (.invokevirtual 221, 3) := by decide +kernel
theorem dX6_breaks_24 : decode cX6_breaks 24 = .ok (.aload_n 0, 1) := by decide +kernel
theorem dX6_breaks_25 : decode cX6_breaks 25 = .ok (.getfield 7, 3) := by decide +kernel
theorem dX6_breaks_28 : decode cX6_breaks 28 = .ok (.iconst 1, 1) := by decide +kernel
theorem dX6_breaks_29 : decode cX6_breaks 29 = .ok (.dup2, 1) := by decide +kernel
theorem dX6_breaks_30 : decode cX6_breaks 30 = .ok (.iaload, 1) := by decide +kernel
theorem dX6_breaks_31 : decode cX6_breaks 31 = .ok (.iconst 1, 1) := by decide +kernel
theorem dX6_breaks_32 : decode cX6_breaks 32 = .ok (.isub, 1) := by decide +kernel
theorem dX6_breaks_33 : decode cX6_breaks 33 = .ok (.iastore, 1) := by decide +kernel
theorem dX6_breaks_34 : decode cX6_breaks 34 = .ok (.bipush 26, 2) := by decide +kernel
theorem dX6_breaks_36 : decode cX6_breaks 36 = .ok (.iconst 4, 1) := by decide +kernel
theorem dX6_breaks_37 : decode cX6_breaks 37 = .ok (.iload_n 1, 1) := by decide +kernel
theorem dX6_breaks_38 : decode cX6_breaks 38 = .ok (.imul, 1) := by decide +kernel
theorem dX6_breaks_39 : decode cX6_breaks 39 = .ok (.iadd, 1) := by decide +kernel
theorem dX6_breaks_40 : decode cX6_breaks 40 = .ok (.istore_n 2, 1) := by decide +kernel
theorem dX6_breaks_41 : decode cX6_breaks 41 = .ok (.iload_n 2, 1) := by decide +kernel
theorem dX6_breaks_42 : decode cX6_breaks 42 = .ok (.bipush 26, 2) := by decide +kernel
theorem dX6_breaks_44 : decode cX6_breaks 44 = .ok (.iconst 4, 1) := by decide +kernel
theorem dX6_breaks_45 : decode cX6_breaks 45 = .ok (.aload_n 0, 1) := by decide +kernel
theorem dX6_breaks_46 : decode cX6_breaks 46 = .ok (.getfield 7, 3) := by decide +kernel
theorem dX6_breaks_49 : decode cX6_breaks 49 = .ok (.iconst 1, 1) := by decide +kernel
theorem dX6_breaks_50 : decode cX6_breaks 50 = .ok (.iaload, 1) := by decide +kernel
theorem dX6_breaks_51 : decode cX6_breaks 51 = .ok (.imul, 1) := by decide +kernel
theorem dX6_breaks_52 : decode cX6_breaks 52 = .ok (.iadd, 1) := by decide +kernel
theorem dX6_breaks_53 : decode cX6_breaks 53 = .ok (.if_icmp .ge 23, 3) := by decide +kernel
theorem dX6_breaks_56 : decode cX6_breaks 56 = .ok (.aload_n 0, 1) := by decide +kernel
theorem dX6_breaks_57 : decode cX6_breaks 57 = .ok (.getfield 7, 3) := by decide +kernel
theorem dX6_breaks_60 : decode cX6_breaks 60 = .ok (.iload_n 2, 1) := by decide +kernel
theorem dX6_breaks_61 : decode cX6_breaks 61 = .ok (.aload_n 0, 1) := by decide +kernel
theorem dX6_breaks_62 : decode cX6_breaks 62 = .ok (.getfield 7, 3) := by decide +kernel
theorem dX6_breaks_65 : decode cX6_breaks 65 = .ok (.iload_n 2, 1) := by decide +kernel
theorem dX6_breaks_66 : decode cX6_breaks 66 = .ok (.iconst 4, 1) := by decide +kernel
theorem dX6_breaks_67 : decode cX6_breaks 67 = .ok (.iadd, 1) := by decide +kernel
theorem dX6_breaks_68 : decode cX6_breaks 68 = .ok (.iaload, 1) := by decide +kernel
theorem dX6_breaks_69 : decode cX6_breaks 69 = .ok (.iastore, 1) := by decide +kernel
theorem dX6_breaks_70 : decode cX6_breaks 70 = .ok (.iinc 2 1, 3) := by decide +kernel
theorem dX6_breaks_73 : decode cX6_breaks 73 = .ok (.goto (-32), 3) := by decide +kernel
theorem dX6_breaks_76 : decode cX6_breaks 76 = .ok (.aload_n 0, 1) := by decide +kernel
theorem dX6_breaks_77 : decode cX6_breaks 77 = .ok (.getfield 7, 3) := by decide +kernel
theorem dX6_breaks_80 : decode cX6_breaks 80 = .ok (.iconst 1, 1) := by decide +kernel
theorem dX6_breaks_81 : decode cX6_breaks 81 = .ok (.iaload, 1) := by decide +kernel
theorem dX6_breaks_82 : decode cX6_breaks 82 = .ok (.ireturn, 1) := by decide +kernel
theorem dX6_undo_0 : decode cX6_undo 0 = .ok (.aload_n 0, 1) := by decide +kernel
theorem dX6_undo_1 : decode cX6_undo 1 = .ok (.iconst 0, 1) := by decide +kernel
theorem dX6_undo_2 : decode cX6_undo 2 = .ok (.putfield 56, 3) := by decide +kernel
theorem dX6_undo_5 : decode cX6_undo 5 = .ok (.aload_n 0, 1) := by decide +kernel
theorem dX6_undo_6 : decode cX6_undo 6 = .ok (.getfield 126, 3) := by decide +kernel
theorem dX6_undo_9 : decode cX6_undo 9 = .ok (.ifCond .ne 6, 3) := by decide +kernel
theorem dX6_undo_12 : decode cX6_undo 12 = .ok (.bipush (-2), 2) := by decide +kernel
theorem dX6_undo_14 : decode cX6_undo 14 = .ok (.ireturn, 1) := by decide +kernel
theorem dX6_undo_15 : decode cX6_undo 15 = .ok (.aload_n 0, 1) := by decide +kernel
theorem dX6_undo_16 : decode cX6_undo 16 = .ok (.dup, 1) := by decide +kernel
theorem dX6_undo_17 : decode cX6_undo 17 = .ok (.getfield 126, 3) := by decide +kernel
theorem dX6_undo_20 : decode cX6_undo 20 = .ok (.iconst 1, 1) := by decide +kernel
theorem dX6_undo_21 : decode cX6_undo 21 = .ok (.isub, 1) := by decide +kernel
theorem dX6_undo_22 : decode cX6_undo 22 = .ok (.putfield 126, 3) := by decide +kernel
theorem dX6_undo_25 : decode cX6_undo 25 = .ok (.iconst 0, 1) := by decide +kernel
theorem dX6_undo_26 : decode cX6_undo 26 = .ok (.istore_n 1, 1) := by decide +kernel
theorem dX6_undo_27 : decode cX6_undo 27 = .ok (.iload_n 1, 1) := by decide +kernel
theorem dX6_undo_28 : decode cX6_undo 28 = .ok (.bipush 82, 2) := by decide +kernel
theorem dX6_undo_30 : decode cX6_undo 30 = .ok (.if_icmp .ge 29, 3) := by decide +kernel
theorem dX6_undo_33 : decode cX6_undo 33 = .ok (.aload_n 0, 1) := by decide +kernel
theorem dX6_undo_34 : decode cX6_undo 34 = .ok (.getfield 7, 3) := by decide +kernel
theorem dX6_undo_37 : decode cX6_undo 37 = .ok (.iload_n 1, 1) := by decide +kernel
theorem dX6_undo_38 : decode cX6_undo 38 = .ok (.aload_n 0, 1) := by decide +kernel
theorem dX6_undo_39 : decode cX6_undo 39 = .ok (.getfield 13, 3) := by decide +kernel
theorem dX6_undo_42 : decode cX6_undo 42 = .ok (.bipush 82, 2) := by decide +kernel
theorem dX6_undo_44 : decode cX6_undo 44 = .ok (.aload_n 0, 1) := by decide +kernel
theorem dX6_undo_45 : decode cX6_undo 45 = .ok (.getfield 126, 3) := by decide +kernel
theorem dX6_undo_48 : decode cX6_undo 48 = .ok (.imul, 1) := by decide +kernel
theorem dX6_undo_49 : decode cX6_undo 49 = .ok (.iload_n 1, 1) := by decide +kernel
theorem dX6_undo_50 : decode cX6_undo 50 = .ok (.iadd, 1) := by decide +kernel
theorem dX6_undo_51 : decode cX6_undo 51 = .ok (.iaload, 1) := by decide +kernel
theorem dX6_undo_52 : decode cX6_undo 52 = .ok (.iastore, 1) := by decide +kernel
theorem dX6_undo_53 : decode cX6_undo 53 = .ok (.iinc 1 1, 3) := by decide +kernel
theorem dX6_undo_56 : decode cX6_undo 56 = .ok (.goto (-29), 3) := by decide +kernel
theorem dX6_undo_59 : decode cX6_undo 59 = .ok (.aload_n 0, 1) := by decide +kernel
theorem dX6_undo_60 : decode cX6_undo 60 = .ok (.getfield 126, 3) := by decide +kernel
theorem dX6_undo_63 : decode cX6_undo 63 = .ok (.ireturn, 1) := by decide +kernel
theorem dX6_sees_0 : decode cX6_sees 0 = .ok (.aload_n 0, 1) := by decide +kernel
theorem dX6_sees_1 : decode cX6_sees 1 = .ok (.iconst 0, 1) := by decide +kernel
theorem dX6_sees_2 : decode cX6_sees 2 = .ok (.putfield 56, 3) := by decide +kernel
theorem dX6_sees_5 : decode cX6_sees 5 = .ok (.aload_n 0, 1) := by decide +kernel
theorem dX6_sees_6 : decode cX6_sees 6 = .ok (.iload_n 1, 1) := by decide +kernel
theorem dX6_sees_7 : decode cX6_sees 7 = .ok (.iload_n 2, 1) := by decide +kernel
theorem dX6_sees_8 : decode cX6_sees 8 = .ok (.invokevirtual 163, 3) := by decide +kernel
theorem dX6_sees_11 : decode cX6_sees 11 = .ok (.ifCond .eq 12, 3) := by decide +kernel
theorem dX6_sees_14 : decode cX6_sees 14 = .ok (.iload_n 3, 1) := by decide +kernel
theorem dX6_sees_15 : decode cX6_sees 15 = .ok (.iconst 0, 1) := by decide +kernel
theorem dX6_sees_16 : decode cX6_sees 16 = .ok (.iconst 1, 1) := by decide +kernel
theorem dX6_sees_17 : decode cX6_sees 17 = .ok (.invokestatic 63, 3) := by decide +kernel
theorem dX6_sees_20 : decode cX6_sees 20 = .ok (.ifCond .ne 5, 3) := by decide +kernel
theorem dX6_sees_23 : decode cX6_sees 23 = .ok (.iconst (-1), 1) := by decide +kernel
theorem dX6_sees_24 : decode cX6_sees 24 = .ok (.ireturn, 1) := by decide +kernel
theorem dX6_sees_25 : decode cX6_sees 25 = .ok (.aload_n 0, 1) := by decide +kernel
theorem dX6_sees_26 : decode cX6_sees 26 = .ok (.getfield 129, 3) := by decide +kernel
theorem dX6_sees_29 : decode cX6_sees 29 = .ok (.bipush 6, 2) := by decide +kernel
theorem dX6_sees_31 : decode cX6_sees 31 = .ok (.if_icmp .ne 6, 3) := by decide +kernel
theorem dX6_sees_34 : decode cX6_sees 34 = .ok (.bipush (-3), 2) := by decide +kernel
theorem dX6_sees_36 : decode cX6_sees 36 = .ok (.ireturn, 1) := by decide +kernel
theorem dX6_sees_37 : decode cX6_sees 37 = .ok (.aload_n 0, 1) := by decide +kernel
theorem dX6_sees_38 : decode cX6_sees 38 = .ok (.getfield 23, 3) := by decide +kernel
theorem dX6_sees_41 : decode cX6_sees 41 = .ok (.aload_n 0, 1) := by decide +kernel
theorem dX6_sees_42 : decode cX6_sees 42 = .ok (.getfield 129, 3) := by decide +kernel
theorem dX6_sees_45 : decode cX6_sees 45 = .ok (.iload_n 1, 1) := by decide +kernel
theorem dX6_sees_46 : decode cX6_sees 46 = .ok (.iastore, 1) := by decide +kernel
theorem dX6_sees_47 : decode cX6_sees 47 = .ok (.aload_n 0, 1) := by decide +kernel
theorem dX6_sees_48 : decode cX6_sees 48 = .ok (.getfield 26, 3) := by decide +kernel
theorem dX6_sees_51 : decode cX6_sees 51 = .ok (.aload_n 0, 1) := by decide +kernel
theorem dX6_sees_52 : decode cX6_sees 52 = .ok (.getfield 129, 3) := by decide +kernel
theorem dX6_sees_55 : decode cX6_sees 55 = .ok (.iload_n 2, 1) := by decide +kernel
theorem dX6_sees_56 : decode cX6_sees 56 = .ok (.iastore, 1) := by decide +kernel
theorem dX6_sees_57 : decode cX6_sees 57 = .ok (.aload_n 0, 1) := by decide +kernel
theorem dX6_sees_58 : decode cX6_sees 58 = .ok (.getfield 29, 3) := by decide +kernel
theorem dX6_sees_61 : decode cX6_sees 61 = .ok (.aload_n 0, 1) := by decide +kernel
theorem dX6_sees_62 : decode cX6_sees 62 = .ok (.getfield 129, 3) := by decide +kernel
theorem dX6_sees_65 : decode cX6_sees 65 = .ok (.iload_n 3, 1) := by decide +kernel
theorem dX6_sees_66 : decode cX6_sees 66 = .ok (.iastore, 1) := by decide +kernel
theorem dX6_sees_67 : decode cX6_sees 67 = .ok (.aload_n 0, 1) := by decide +kernel
theorem dX6_sees_68 : decode cX6_sees 68 = .ok (.dup, 1) := by decide +kernel
theorem dX6_sees_69 : decode cX6_sees 69 = .ok (.getfield 129, 3) := by decide +kernel
theorem dX6_sees_72 : decode cX6_sees 72 = .ok (.iconst 1, 1) := by decide +kernel
theorem dX6_sees_73 : decode cX6_sees 73 = .ok (.iadd, 1) := by decide +kernel
theorem dX6_sees_74 : decode cX6_sees 74 = .ok (.putfield 129, 3) := by decide +kernel
theorem dX6_sees_77 : decode cX6_sees 77 = .ok (.aload_n 0, 1) := by decide +kernel
theorem dX6_sees_78 : decode cX6_sees 78 = .ok (.getfield 129, 3) := by decide +kernel
theorem dX6_sees_81 : decode cX6_sees 81 = .ok (.ireturn, 1) := by decide +kernel
theorem dX6_forget_0 : decode cX6_forget 0 = .ok (.aload_n 0, 1) := by decide +kernel
theorem dX6_forget_1 : decode cX6_forget 1 = .ok (.iconst 0, 1) := by decide +kernel
theorem dX6_forget_2 : decode cX6_forget 2 = .ok (.putfield 56, 3) := by decide +kernel
theorem dX6_forget_5 : decode cX6_forget 5 = .ok (.aload_n 0, 1) := by decide +kernel
theorem dX6_forget_6 : decode cX6_forget 6 = .ok (.getfield 129, 3) := by decide +kernel
theorem dX6_forget_9 : decode cX6_forget 9 = .ok (.istore_n 1, 1) := by decide +kernel
theorem dX6_forget_10 : decode cX6_forget 10 = .ok (.aload_n 0, 1) := by decide +kernel
theorem dX6_forget_11 : decode cX6_forget 11 = .ok (.iconst 0, 1) := by decide +kernel
theorem dX6_forget_12 : decode cX6_forget 12 = .ok (.putfield 129, 3) := by decide +kernel
theorem dX6_forget_15 : decode cX6_forget 15 = .ok (.iload_n 1, 1) := by decide +kernel
theorem dX6_forget_16 : decode cX6_forget 16 = .ok (.ireturn, 1) := by decide +kernel
theorem dX6_unseen_0 : decode cX6_unseen 0 = .ok (.aload_n 0, 1) := by decide +kernel
theorem dX6_unseen_1 : decode cX6_unseen 1 = .ok (.iconst 0, 1) := by decide +kernel
theorem dX6_unseen_2 : decode cX6_unseen 2 = .ok (.putfield 56, 3) := by decide +kernel
theorem dX6_unseen_5 : decode cX6_unseen 5 = .ok (.iconst 0, 1) := by decide +kernel
theorem dX6_unseen_6 : decode cX6_unseen 6 = .ok (.istore_n 1, 1) := by decide +kernel
theorem dX6_unseen_7 : decode cX6_unseen 7 = .ok (.iconst 0, 1) := by decide +kernel
theorem dX6_unseen_8 : decode cX6_unseen 8 = .ok (.istore_n 2, 1) := by decide +kernel
theorem dX6_unseen_9 : decode cX6_unseen 9 = .ok (.iload_n 2, 1) := by decide +kernel
theorem dX6_unseen_10 : decode cX6_unseen 10 = .ok (.aload_n 0, 1) := by decide +kernel
theorem dX6_unseen_11 : decode cX6_unseen 11 = .ok (.getfield 7, 3) := by decide +kernel
theorem dX6_unseen_14 : decode cX6_unseen 14 = .ok (.iconst 0, 1) := by decide +kernel
theorem dX6_unseen_15 : decode cX6_unseen 15 = .ok (.iaload, 1) := by decide +kernel
theorem dX6_unseen_16 : decode cX6_unseen 16 = .ok (.if_icmp .ge 129, 3) := by decide +kernel
theorem dX6_unseen_19 : decode cX6_unseen 19 = .ok (.aload_n 0, 1) := by decide +kernel
theorem dX6_unseen_20 : decode cX6_unseen 20 = .ok (.iload_n 2, 1) := by decide +kernel
theorem dX6_unseen_21 : decode cX6_unseen 21 = .ok (.iconst 2, 1) := by decide +kernel
theorem dX6_unseen_22 : decode cX6_unseen 22 = .ok (.invokevirtual 70, 3) := by decide +kernel
theorem dX6_unseen_25 : decode cX6_unseen 25 = .ok (.iconst 1, 1) := by decide +kernel
theorem dX6_unseen_26 : decode cX6_unseen 26 = .ok (.if_icmp .ne 7, 3) := by decide +kernel
theorem dX6_unseen_29 : decode cX6_unseen 29 = .ok (.iconst 1, 1) := by decide +kernel
theorem dX6_unseen_30 : decode cX6_unseen 30 = .ok (.goto 4, 3) := by decide +kernel
theorem dX6_unseen_33 : decode cX6_unseen 33 = .ok (.iconst 0, 1) := by decide +kernel
theorem dX6_unseen_34 : decode cX6_unseen 34 = .ok (.istore_n 3, 1) := by decide +kernel
theorem dX6_unseen_35 : decode cX6_unseen 35 = .ok (.iconst 0, 1) := by decide +kernel
theorem dX6_unseen_36 : decode cX6_unseen 36 = .ok (.istore 4, 2) := by decide +kernel
theorem dX6_unseen_38 : decode cX6_unseen 38 = .ok (.iload 4, 2) := by decide +kernel
theorem dX6_unseen_40 : decode cX6_unseen 40 = .ok (.aload_n 0, 1) := by decide +kernel
theorem dX6_unseen_41 : decode cX6_unseen 41 = .ok (.getfield 129, 3) := by decide +kernel
theorem dX6_unseen_44 : decode cX6_unseen 44 = .ok (.if_icmp .ge 81, 3) := by decide +kernel
theorem dX6_unseen_47 : decode cX6_unseen 47 = .ok (.aload_n 0, 1) := by decide +kernel
theorem dX6_unseen_48 : decode cX6_unseen 48 = .ok (.aload_n 0, 1) := by decide +kernel
theorem dX6_unseen_49 : decode cX6_unseen 49 = .ok (.getfield 23, 3) := by decide +kernel
theorem dX6_unseen_52 : decode cX6_unseen 52 = .ok (.iload 4, 2) := by decide +kernel
theorem dX6_unseen_54 : decode cX6_unseen 54 = .ok (.iaload, 1) := by decide +kernel
theorem dX6_unseen_55 : decode cX6_unseen 55 = .ok (.aload_n 0, 1) := by decide +kernel
theorem dX6_unseen_56 : decode cX6_unseen 56 = .ok (.getfield 26, 3) := by decide +kernel
theorem dX6_unseen_59 : decode cX6_unseen 59 = .ok (.iload 4, 2) := by decide +kernel
theorem dX6_unseen_61 : decode cX6_unseen 61 = .ok (.iaload, 1) := by decide +kernel
theorem dX6_unseen_62 : decode cX6_unseen 62 = .ok (.bipush (-9), 2) := by decide +kernel
theorem dX6_unseen_64 : decode cX6_unseen 64 = .ok (.invokevirtual 155, 3) := by decide +kernel
theorem dX6_unseen_67 : decode cX6_unseen 67 = .ok (.aload_n 0, 1) := by decide +kernel
theorem dX6_unseen_68 : decode cX6_unseen 68 = .ok (.invokevirtual 159, 3) := by decide +kernel
theorem dX6_unseen_71 : decode cX6_unseen 71 = .ok (.iand, 1) := by decide +kernel
theorem dX6_unseen_72 : decode cX6_unseen 72 = .ok (.iconst 1, 1) := by decide +kernel
theorem dX6_unseen_73 : decode cX6_unseen 73 = .ok (.iload_n 2, 1) := by decide +kernel
theorem dX6_unseen_74 : decode cX6_unseen 74 = .ok (.ishl, 1) := by decide +kernel
theorem dX6_unseen_75 : decode cX6_unseen 75 = .ok (.iconst (-1), 1) := by decide +kernel
theorem dX6_unseen_76 : decode cX6_unseen 76 = .ok (.ixor, 1) := by decide +kernel
theorem dX6_unseen_77 : decode cX6_unseen 77 = .ok (.iand, 1) := by decide +kernel
theorem dX6_unseen_78 : decode cX6_unseen 78 = .ok (.istore 5, 2) := by decide +kernel
theorem dX6_unseen_80 : decode cX6_unseen 80 = .ok (.iload_n 3, 1) := by decide +kernel
theorem dX6_unseen_81 : decode cX6_unseen 81 = .ok (.ifCond .eq 36, 3) := by decide +kernel
theorem dX6_unseen_84 : decode cX6_unseen 84 = .ok (.iload 5, 2) := by decide +kernel
theorem dX6_unseen_86 : decode cX6_unseen 86 = .ok (.ifCond .eq 7, 3) := by decide +kernel
theorem dX6_unseen_89 : decode cX6_unseen 89 = .ok (.iconst 1, 1) := by decide +kernel
theorem dX6_unseen_90 : decode cX6_unseen 90 = .ok (.goto 4, 3) := by decide +kernel
theorem dX6_unseen_93 : decode cX6_unseen 93 = .ok (.iconst 0, 1) := by decide +kernel
theorem dX6_unseen_94 : decode cX6_unseen 94 = .ok (.aload_n 0, 1) := by decide +kernel
theorem dX6_unseen_95 : decode cX6_unseen 95 = .ok (.getfield 29, 3) := by decide +kernel
theorem dX6_unseen_98 : decode cX6_unseen 98 = .ok (.iload 4, 2) := by decide +kernel
theorem dX6_unseen_100 : decode cX6_unseen 100 = .ok (.iaload, 1) := by decide +kernel
theorem dX6_unseen_101 : decode cX6_unseen 101 = .ok (.iconst 1, 1) := by decide +kernel
theorem dX6_unseen_102 : decode cX6_unseen 102 = .ok (.if_icmp .ne 7, 3) := by decide +kernel
theorem dX6_unseen_105 : decode cX6_unseen 105 = .ok (.iconst 1, 1) := by decide +kernel
theorem dX6_unseen_106 : decode cX6_unseen 106 = .ok (.goto 4, 3) := by decide +kernel
theorem dX6_unseen_109 : decode cX6_unseen 109 = .ok (.iconst 0, 1) := by decide +kernel
theorem dX6_unseen_110 : decode cX6_unseen 110 = .ok (.if_icmp .ne 7, 3) := by decide +kernel
theorem dX6_unseen_113 : decode cX6_unseen 113 = .ok (.iconst 1, 1) := by decide +kernel
theorem dX6_unseen_114 : decode cX6_unseen 114 = .ok (.goto 4, 3) := by decide +kernel
theorem dX6_unseen_117 : decode cX6_unseen 117 = .ok (.iconst 0, 1) := by decide +kernel
theorem dX6_unseen_118 : decode cX6_unseen 118 = .ok (.istore_n 3, 1) := by decide +kernel
theorem dX6_unseen_119 : decode cX6_unseen 119 = .ok (.iinc 4 1, 3) := by decide +kernel
theorem dX6_unseen_122 : decode cX6_unseen 122 = .ok (.goto (-84), 3) := by decide +kernel
theorem dX6_unseen_125 : decode cX6_unseen 125 = .ok (.iload_n 1, 1) := by decide +kernel
theorem dX6_unseen_126 : decode cX6_unseen 126 = .ok (.iload_n 3, 1) := by decide +kernel
theorem dX6_unseen_127 : decode cX6_unseen 127 = .ok (.ifCond .eq 9, 3) := by decide +kernel
theorem dX6_unseen_130 : decode cX6_unseen 130 = .ok (.iconst 1, 1) := by decide +kernel
theorem dX6_unseen_131 : decode cX6_unseen 131 = .ok (.iload_n 2, 1) := by decide +kernel
theorem dX6_unseen_132 : decode cX6_unseen 132 = .ok (.ishl, 1) := by decide +kernel
theorem dX6_unseen_133 : decode cX6_unseen 133 = .ok (.goto 4, 3) := by decide +kernel
theorem dX6_unseen_136 : decode cX6_unseen 136 = .ok (.iconst 0, 1) := by decide +kernel
theorem dX6_unseen_137 : decode cX6_unseen 137 = .ok (.ior, 1) := by decide +kernel
theorem dX6_unseen_138 : decode cX6_unseen 138 = .ok (.istore_n 1, 1) := by decide +kernel
theorem dX6_unseen_139 : decode cX6_unseen 139 = .ok (.iinc 2 1, 3) := by decide +kernel
theorem dX6_unseen_142 : decode cX6_unseen 142 = .ok (.goto (-133), 3) := by decide +kernel
theorem dX6_unseen_145 : decode cX6_unseen 145 = .ok (.iload_n 1, 1) := by decide +kernel
theorem dX6_unseen_146 : decode cX6_unseen 146 = .ok (.ireturn, 1) := by decide +kernel
theorem dX6_keep_0 : decode cX6_keep 0 = .ok (.aload_n 0, 1) := by decide +kernel
theorem dX6_keep_1 : decode cX6_keep 1 = .ok (.iconst 0, 1) := by decide +kernel
theorem dX6_keep_2 : decode cX6_keep 2 = .ok (.putfield 56, 3) := by decide +kernel
theorem dX6_keep_5 : decode cX6_keep 5 = .ok (.iload_n 1, 1) := by decide +kernel
theorem dX6_keep_6 : decode cX6_keep 6 = .ok (.iconst 0, 1) := by decide +kernel
theorem dX6_keep_7 : decode cX6_keep 7 = .ok (.iconst 1, 1) := by decide +kernel
theorem dX6_keep_8 : decode cX6_keep 8 = .ok (.invokestatic 63, 3) := by decide +kernel
theorem dX6_keep_11 : decode cX6_keep 11 = .ok (.ifCond .ne 5, 3) := by decide +kernel
theorem dX6_keep_14 : decode cX6_keep 14 = .ok (.iconst (-1), 1) := by decide +kernel
theorem dX6_keep_15 : decode cX6_keep 15 = .ok (.ireturn, 1) := by decide +kernel
theorem dX6_keep_16 : decode cX6_keep 16 = .ok (.iconst 0, 1) := by decide +kernel
theorem dX6_keep_17 : decode cX6_keep 17 = .ok (.istore_n 2, 1) := by decide +kernel
theorem dX6_keep_18 : decode cX6_keep 18 = .ok (.iload_n 2, 1) := by decide +kernel
theorem dX6_keep_19 : decode cX6_keep 19 = .ok (.bipush 82, 2) := by decide +kernel
theorem dX6_keep_21 : decode cX6_keep 21 = .ok (.if_icmp .ge 26, 3) := by decide +kernel
theorem dX6_keep_24 : decode cX6_keep 24 = .ok (.aload_n 0, 1) := by decide +kernel
theorem dX6_keep_25 : decode cX6_keep 25 = .ok (.getfield 16, 3) := by decide +kernel
theorem dX6_keep_28 : decode cX6_keep 28 = .ok (.bipush 82, 2) := by decide +kernel
theorem dX6_keep_30 : decode cX6_keep 30 = .ok (.iload_n 1, 1) := by decide +kernel
theorem dX6_keep_31 : decode cX6_keep 31 = .ok (.imul, 1) := by decide +kernel
theorem dX6_keep_32 : decode cX6_keep 32 = .ok (.iload_n 2, 1) := by decide +kernel
theorem dX6_keep_33 : decode cX6_keep 33 = .ok (.iadd, 1) := by decide +kernel
theorem dX6_keep_34 : decode cX6_keep 34 = .ok (.aload_n 0, 1) := by decide +kernel
theorem dX6_keep_35 : decode cX6_keep 35 = .ok (.getfield 7, 3) := by decide +kernel
theorem dX6_keep_38 : decode cX6_keep 38 = .ok (.iload_n 2, 1) := by decide +kernel
theorem dX6_keep_39 : decode cX6_keep 39 = .ok (.iaload, 1) := by decide +kernel
theorem dX6_keep_40 : decode cX6_keep 40 = .ok (.iastore, 1) := by decide +kernel
theorem dX6_keep_41 : decode cX6_keep 41 = .ok (.iinc 2 1, 3) := by decide +kernel
theorem dX6_keep_44 : decode cX6_keep 44 = .ok (.goto (-26), 3) := by decide +kernel
theorem dX6_keep_47 : decode cX6_keep 47 = .ok (.aload_n 0, 1) := by decide +kernel
theorem dX6_keep_48 : decode cX6_keep 48 = .ok (.getfield 19, 3) := by decide +kernel
theorem dX6_keep_51 : decode cX6_keep 51 = .ok (.iload_n 1, 1) := by decide +kernel
theorem dX6_keep_52 : decode cX6_keep 52 = .ok (.iconst 1, 1) := by decide +kernel
theorem dX6_keep_53 : decode cX6_keep 53 = .ok (.bastore, 1) := by decide +kernel
theorem dX6_keep_54 : decode cX6_keep 54 = .ok (.aload_n 0, 1) := by decide +kernel
theorem dX6_keep_55 : decode cX6_keep 55 = .ok (.getfield 7, 3) := by decide +kernel
theorem dX6_keep_58 : decode cX6_keep 58 = .ok (.iconst 0, 1) := by decide +kernel
theorem dX6_keep_59 : decode cX6_keep 59 = .ok (.iaload, 1) := by decide +kernel
theorem dX6_keep_60 : decode cX6_keep 60 = .ok (.ireturn, 1) := by decide +kernel
theorem dX6_back_0 : decode cX6_back 0 = .ok (.aload_n 0, 1) := by decide +kernel
theorem dX6_back_1 : decode cX6_back 1 = .ok (.iconst 0, 1) := by decide +kernel
theorem dX6_back_2 : decode cX6_back 2 = .ok (.putfield 56, 3) := by decide +kernel
theorem dX6_back_5 : decode cX6_back 5 = .ok (.iload_n 1, 1) := by decide +kernel
theorem dX6_back_6 : decode cX6_back 6 = .ok (.iconst 0, 1) := by decide +kernel
theorem dX6_back_7 : decode cX6_back 7 = .ok (.iconst 1, 1) := by decide +kernel
theorem dX6_back_8 : decode cX6_back 8 = .ok (.invokestatic 63, 3) := by decide +kernel
theorem dX6_back_11 : decode cX6_back 11 = .ok (.ifCond .ne 5, 3) := by decide +kernel
theorem dX6_back_14 : decode cX6_back 14 = .ok (.iconst (-1), 1) := by decide +kernel
theorem dX6_back_15 : decode cX6_back 15 = .ok (.ireturn, 1) := by decide +kernel
theorem dX6_back_16 : decode cX6_back 16 = .ok (.aload_n 0, 1) := by decide +kernel
theorem dX6_back_17 : decode cX6_back 17 = .ok (.getfield 19, 3) := by decide +kernel
theorem dX6_back_20 : decode cX6_back 20 = .ok (.iload_n 1, 1) := by decide +kernel
theorem dX6_back_21 : decode cX6_back 21 = .ok (.baload, 1) := by decide +kernel
theorem dX6_back_22 : decode cX6_back 22 = .ok (.ifCond .ne 6, 3) := by decide +kernel
theorem dX6_back_25 : decode cX6_back 25 = .ok (.bipush (-2), 2) := by decide +kernel
theorem dX6_back_27 : decode cX6_back 27 = .ok (.ireturn, 1) := by decide +kernel
theorem dX6_back_28 : decode cX6_back 28 = .ok (.iconst 0, 1) := by decide +kernel
theorem dX6_back_29 : decode cX6_back 29 = .ok (.istore_n 2, 1) := by decide +kernel
theorem dX6_back_30 : decode cX6_back 30 = .ok (.iload_n 2, 1) := by decide +kernel
theorem dX6_back_31 : decode cX6_back 31 = .ok (.bipush 82, 2) := by decide +kernel
theorem dX6_back_33 : decode cX6_back 33 = .ok (.if_icmp .ge 26, 3) := by decide +kernel
theorem dX6_back_36 : decode cX6_back 36 = .ok (.aload_n 0, 1) := by decide +kernel
theorem dX6_back_37 : decode cX6_back 37 = .ok (.getfield 7, 3) := by decide +kernel
theorem dX6_back_40 : decode cX6_back 40 = .ok (.iload_n 2, 1) := by decide +kernel
theorem dX6_back_41 : decode cX6_back 41 = .ok (.aload_n 0, 1) := by decide +kernel
theorem dX6_back_42 : decode cX6_back 42 = .ok (.getfield 16, 3) := by decide +kernel
theorem dX6_back_45 : decode cX6_back 45 = .ok (.bipush 82, 2) := by decide +kernel
theorem dX6_back_47 : decode cX6_back 47 = .ok (.iload_n 1, 1) := by decide +kernel
theorem dX6_back_48 : decode cX6_back 48 = .ok (.imul, 1) := by decide +kernel
theorem dX6_back_49 : decode cX6_back 49 = .ok (.iload_n 2, 1) := by decide +kernel
theorem dX6_back_50 : decode cX6_back 50 = .ok (.iadd, 1) := by decide +kernel
theorem dX6_back_51 : decode cX6_back 51 = .ok (.iaload, 1) := by decide +kernel
theorem dX6_back_52 : decode cX6_back 52 = .ok (.iastore, 1) := by decide +kernel
theorem dX6_back_53 : decode cX6_back 53 = .ok (.iinc 2 1, 3) := by decide +kernel
theorem dX6_back_56 : decode cX6_back 56 = .ok (.goto (-26), 3) := by decide +kernel
theorem dX6_back_59 : decode cX6_back 59 = .ok (.aload_n 0, 1) := by decide +kernel
theorem dX6_back_60 : decode cX6_back 60 = .ok (.iconst 0, 1) := by decide +kernel
theorem dX6_back_61 : decode cX6_back 61 = .ok (.putfield 126, 3) := by decide +kernel
theorem dX6_back_64 : decode cX6_back 64 = .ok (.aload_n 0, 1) := by decide +kernel
theorem dX6_back_65 : decode cX6_back 65 = .ok (.getfield 7, 3) := by decide +kernel
theorem dX6_back_68 : decode cX6_back 68 = .ok (.iconst 0, 1) := by decide +kernel
theorem dX6_back_69 : decode cX6_back 69 = .ok (.iaload, 1) := by decide +kernel
theorem dX6_back_70 : decode cX6_back 70 = .ok (.ireturn, 1) := by decide +kernel
theorem dX6_count_0 : decode cX6_count 0 = .ok (.aload_n 0, 1) := by decide +kernel
theorem dX6_count_1 : decode cX6_count 1 = .ok (.iconst 0, 1) := by decide +kernel
theorem dX6_count_2 : decode cX6_count 2 = .ok (.putfield 56, 3) := by decide +kernel
theorem dX6_count_5 : decode cX6_count 5 = .ok (.iload_n 1, 1) := by decide +kernel
theorem dX6_count_6 : decode cX6_count 6 = .ok (.tableswitch 81 0 6 #[42, 47, 52, 59, 66, 71, 76], 42) := by decide +kernel
theorem dX6_count_48 : decode cX6_count 48 = .ok (.aload_n 0, 1) := by decide +kernel
theorem dX6_count_49 : decode cX6_count 49 = .ok (.getfield 60, 3) := by decide +kernel
theorem dX6_count_52 : decode cX6_count 52 = .ok (.ireturn, 1) := by decide +kernel
theorem dX6_count_53 : decode cX6_count 53 = .ok (.aload_n 0, 1) := by decide +kernel
theorem dX6_count_54 : decode cX6_count 54 = .ok (.getfield 67, 3) := by decide +kernel
theorem dX6_count_57 : decode cX6_count 57 = .ok (.ireturn, 1) := by decide +kernel
theorem dX6_count_58 : decode cX6_count 58 = .ok (.aload_n 0, 1) := by decide +kernel
theorem dX6_count_59 : decode cX6_count 59 = .ok (.getfield 7, 3) := by decide +kernel
theorem dX6_count_62 : decode cX6_count 62 = .ok (.iconst 1, 1) := by decide +kernel
theorem dX6_count_63 : decode cX6_count 63 = .ok (.iaload, 1) := by decide +kernel
theorem dX6_count_64 : decode cX6_count 64 = .ok (.ireturn, 1) := by decide +kernel
theorem dX6_count_65 : decode cX6_count 65 = .ok (.aload_n 0, 1) := by decide +kernel
theorem dX6_count_66 : decode cX6_count 66 = .ok (.getfield 7, 3) := by decide +kernel
theorem dX6_count_69 : decode cX6_count 69 = .ok (.iconst 0, 1) := by decide +kernel
theorem dX6_count_70 : decode cX6_count 70 = .ok (.iaload, 1) := by decide +kernel
theorem dX6_count_71 : decode cX6_count 71 = .ok (.ireturn, 1) := by decide +kernel
theorem dX6_count_72 : decode cX6_count 72 = .ok (.aload_n 0, 1) := by decide +kernel
theorem dX6_count_73 : decode cX6_count 73 = .ok (.getfield 129, 3) := by decide +kernel
theorem dX6_count_76 : decode cX6_count 76 = .ok (.ireturn, 1) := by decide +kernel
theorem dX6_count_77 : decode cX6_count 77 = .ok (.aload_n 0, 1) := by decide +kernel
theorem dX6_count_78 : decode cX6_count 78 = .ok (.getfield 74, 3) := by decide +kernel
theorem dX6_count_81 : decode cX6_count 81 = .ok (.ireturn, 1) := by decide +kernel
theorem dX6_count_82 : decode cX6_count 82 = .ok (.aload_n 0, 1) := by decide +kernel
theorem dX6_count_83 : decode cX6_count 83 = .ok (.getfield 126, 3) := by decide +kernel
theorem dX6_count_86 : decode cX6_count 86 = .ok (.ireturn, 1) := by decide +kernel
theorem dX6_count_87 : decode cX6_count 87 = .ok (.iconst (-1), 1) := by decide +kernel
theorem dX6_count_88 : decode cX6_count 88 = .ok (.ireturn, 1) := by decide +kernel
theorem dJ6_bitCount_0f7a4_0 : decode cJ6_bitCount_0f7a4 0 = .ok (.iload_n 0, 1) := by decide +kernel
theorem dJ6_bitCount_0f7a4_1 : decode cJ6_bitCount_0f7a4 1 = .ok (.iload_n 0, 1) := by decide +kernel
theorem dJ6_bitCount_0f7a4_2 : decode cJ6_bitCount_0f7a4 2 = .ok (.iconst 1, 1) := by decide +kernel
theorem dJ6_bitCount_0f7a4_3 : decode cJ6_bitCount_0f7a4 3 = .ok (.iushr, 1) := by decide +kernel
theorem dJ6_bitCount_0f7a4_4 : decode cJ6_bitCount_0f7a4 4 = .ok (.ldc_w 265, 3) := by decide +kernel
theorem dJ6_bitCount_0f7a4_7 : decode cJ6_bitCount_0f7a4 7 = .ok (.iand, 1) := by decide +kernel
theorem dJ6_bitCount_0f7a4_8 : decode cJ6_bitCount_0f7a4 8 = .ok (.isub, 1) := by decide +kernel
theorem dJ6_bitCount_0f7a4_9 : decode cJ6_bitCount_0f7a4 9 = .ok (.istore_n 0, 1) := by decide +kernel
theorem dJ6_bitCount_0f7a4_10 : decode cJ6_bitCount_0f7a4 10 = .ok (.iload_n 0, 1) := by decide +kernel
theorem dJ6_bitCount_0f7a4_11 : decode cJ6_bitCount_0f7a4 11 = .ok (.ldc_w 266, 3) := by decide +kernel
theorem dJ6_bitCount_0f7a4_14 : decode cJ6_bitCount_0f7a4 14 = .ok (.iand, 1) := by decide +kernel
theorem dJ6_bitCount_0f7a4_15 : decode cJ6_bitCount_0f7a4 15 = .ok (.iload_n 0, 1) := by decide +kernel
theorem dJ6_bitCount_0f7a4_16 : decode cJ6_bitCount_0f7a4 16 = .ok (.iconst 2, 1) := by decide +kernel
theorem dJ6_bitCount_0f7a4_17 : decode cJ6_bitCount_0f7a4 17 = .ok (.iushr, 1) := by decide +kernel
theorem dJ6_bitCount_0f7a4_18 : decode cJ6_bitCount_0f7a4 18 = .ok (.ldc_w 266, 3) := by decide +kernel
theorem dJ6_bitCount_0f7a4_21 : decode cJ6_bitCount_0f7a4 21 = .ok (.iand, 1) := by decide +kernel
theorem dJ6_bitCount_0f7a4_22 : decode cJ6_bitCount_0f7a4 22 = .ok (.iadd, 1) := by decide +kernel
theorem dJ6_bitCount_0f7a4_23 : decode cJ6_bitCount_0f7a4 23 = .ok (.istore_n 0, 1) := by decide +kernel
theorem dJ6_bitCount_0f7a4_24 : decode cJ6_bitCount_0f7a4 24 = .ok (.iload_n 0, 1) := by decide +kernel
theorem dJ6_bitCount_0f7a4_25 : decode cJ6_bitCount_0f7a4 25 = .ok (.iload_n 0, 1) := by decide +kernel
theorem dJ6_bitCount_0f7a4_26 : decode cJ6_bitCount_0f7a4 26 = .ok (.iconst 4, 1) := by decide +kernel
theorem dJ6_bitCount_0f7a4_27 : decode cJ6_bitCount_0f7a4 27 = .ok (.iushr, 1) := by decide +kernel
theorem dJ6_bitCount_0f7a4_28 : decode cJ6_bitCount_0f7a4 28 = .ok (.iadd, 1) := by decide +kernel
theorem dJ6_bitCount_0f7a4_29 : decode cJ6_bitCount_0f7a4 29 = .ok (.ldc_w 267, 3) := by decide +kernel
theorem dJ6_bitCount_0f7a4_32 : decode cJ6_bitCount_0f7a4 32 = .ok (.iand, 1) := by decide +kernel
theorem dJ6_bitCount_0f7a4_33 : decode cJ6_bitCount_0f7a4 33 = .ok (.istore_n 0, 1) := by decide +kernel
theorem dJ6_bitCount_0f7a4_34 : decode cJ6_bitCount_0f7a4 34 = .ok (.iload_n 0, 1) := by decide +kernel
theorem dJ6_bitCount_0f7a4_35 : decode cJ6_bitCount_0f7a4 35 = .ok (.iload_n 0, 1) := by decide +kernel
theorem dJ6_bitCount_0f7a4_36 : decode cJ6_bitCount_0f7a4 36 = .ok (.bipush 8, 2) := by decide +kernel
theorem dJ6_bitCount_0f7a4_38 : decode cJ6_bitCount_0f7a4 38 = .ok (.iushr, 1) := by decide +kernel
theorem dJ6_bitCount_0f7a4_39 : decode cJ6_bitCount_0f7a4 39 = .ok (.iadd, 1) := by decide +kernel
theorem dJ6_bitCount_0f7a4_40 : decode cJ6_bitCount_0f7a4 40 = .ok (.istore_n 0, 1) := by decide +kernel
theorem dJ6_bitCount_0f7a4_41 : decode cJ6_bitCount_0f7a4 41 = .ok (.iload_n 0, 1) := by decide +kernel
theorem dJ6_bitCount_0f7a4_42 : decode cJ6_bitCount_0f7a4 42 = .ok (.iload_n 0, 1) := by decide +kernel
theorem dJ6_bitCount_0f7a4_43 : decode cJ6_bitCount_0f7a4 43 = .ok (.bipush 16, 2) := by decide +kernel
theorem dJ6_bitCount_0f7a4_45 : decode cJ6_bitCount_0f7a4 45 = .ok (.iushr, 1) := by decide +kernel
theorem dJ6_bitCount_0f7a4_46 : decode cJ6_bitCount_0f7a4 46 = .ok (.iadd, 1) := by decide +kernel
theorem dJ6_bitCount_0f7a4_47 : decode cJ6_bitCount_0f7a4 47 = .ok (.istore_n 0, 1) := by decide +kernel
theorem dJ6_bitCount_0f7a4_48 : decode cJ6_bitCount_0f7a4 48 = .ok (.iload_n 0, 1) := by decide +kernel
theorem dJ6_bitCount_0f7a4_49 : decode cJ6_bitCount_0f7a4 49 = .ok (.bipush 63, 2) := by decide +kernel
theorem dJ6_bitCount_0f7a4_51 : decode cJ6_bitCount_0f7a4 51 = .ok (.iand, 1) := by decide +kernel
theorem dJ6_bitCount_0f7a4_52 : decode cJ6_bitCount_0f7a4 52 = .ok (.ireturn, 1) := by decide +kernel
theorem dJ9_abs_0f7a4_0 : decode cJ9_abs_0f7a4 0 = .ok (.iload_n 0, 1) := by decide +kernel
theorem dJ9_abs_0f7a4_1 : decode cJ9_abs_0f7a4 1 = .ok (.ifCond .ge 8, 3) := by decide +kernel
theorem dJ9_abs_0f7a4_4 : decode cJ9_abs_0f7a4 4 = .ok (.iload_n 0, 1) := by decide +kernel
theorem dJ9_abs_0f7a4_5 : decode cJ9_abs_0f7a4 5 = .ok (.ineg, 1) := by decide +kernel
theorem dJ9_abs_0f7a4_6 : decode cJ9_abs_0f7a4 6 = .ok (.goto 4, 3) := by decide +kernel
theorem dJ9_abs_0f7a4_9 : decode cJ9_abs_0f7a4 9 = .ok (.iload_n 0, 1) := by decide +kernel
theorem dJ9_abs_0f7a4_10 : decode cJ9_abs_0f7a4 10 = .ok (.ireturn, 1) := by decide +kernel
theorem dJ9_min_7cf53_0 : decode cJ9_min_7cf53 0 = .ok (.iload_n 0, 1) := by decide +kernel
theorem dJ9_min_7cf53_1 : decode cJ9_min_7cf53 1 = .ok (.iload_n 1, 1) := by decide +kernel
theorem dJ9_min_7cf53_2 : decode cJ9_min_7cf53 2 = .ok (.if_icmp .gt 7, 3) := by decide +kernel
theorem dJ9_min_7cf53_5 : decode cJ9_min_7cf53 5 = .ok (.iload_n 0, 1) := by decide +kernel
theorem dJ9_min_7cf53_6 : decode cJ9_min_7cf53 6 = .ok (.goto 4, 3) := by decide +kernel
theorem dJ9_min_7cf53_9 : decode cJ9_min_7cf53 9 = .ok (.iload_n 1, 1) := by decide +kernel
theorem dJ9_min_7cf53_10 : decode cJ9_min_7cf53 10 = .ok (.ireturn, 1) := by decide +kernel
theorem dL_law_0 : decode cL_law 0 = .ok (.new 7, 3) := by decide +kernel
theorem dL_law_3 : decode cL_law 3 = .ok (.dup, 1) := by decide +kernel
theorem dL_law_4 : decode cL_law 4 = .ok (.invokespecial 9, 3) := by decide +kernel
theorem dL_law_7 : decode cL_law 7 = .ok (.astore_n 1, 1) := by decide +kernel
theorem dL_law_8 : decode cL_law 8 = .ok (.new 10, 3) := by decide +kernel
theorem dL_law_11 : decode cL_law 11 = .ok (.dup, 1) := by decide +kernel
theorem dL_law_12 : decode cL_law 12 = .ok (.invokespecial 12, 3) := by decide +kernel
theorem dL_law_15 : decode cL_law 15 = .ok (.astore_n 2, 1) := by decide +kernel
theorem dL_law_16 : decode cL_law 16 = .ok (.iconst 0, 1) := by decide +kernel
theorem dL_law_17 : decode cL_law 17 = .ok (.istore_n 3, 1) := by decide +kernel
theorem dL_law_18 : decode cL_law 18 = .ok (.iload_n 3, 1) := by decide +kernel
theorem dL_law_19 : decode cL_law 19 = .ok (.aload_n 0, 1) := by decide +kernel
theorem dL_law_20 : decode cL_law 20 = .ok (.arraylength, 1) := by decide +kernel
theorem dL_law_21 : decode cL_law 21 = .ok (.iconst 5, 1) := by decide +kernel
theorem dL_law_22 : decode cL_law 22 = .ok (.isub, 1) := by decide +kernel
theorem dL_law_23 : decode cL_law 23 = .ok (.if_icmp .gt 884, 3) := by decide +kernel
theorem dL_law_26 : decode cL_law 26 = .ok (.aload_n 0, 1) := by decide +kernel
theorem dL_law_27 : decode cL_law 27 = .ok (.iload_n 3, 1) := by decide +kernel
theorem dL_law_28 : decode cL_law 28 = .ok (.iaload, 1) := by decide +kernel
theorem dL_law_29 : decode cL_law 29 = .ok (.bipush 31, 2) := by decide +kernel
theorem dL_law_31 : decode cL_law 31 = .ok (.iand, 1) := by decide +kernel
theorem dL_law_32 : decode cL_law 32 = .ok (.tableswitch 869 0 28 #[132, 155, 168, 181, 214, 247, 280, 303, 326, 379, 402, 415, 458, 491, 514, 527, 550, 593, 636, 659, 672, 695, 718, 731, 774, 787, 800, 823, 846], 132) := by decide +kernel
theorem dL_law_164 : decode cL_law 164 = .ok (.aload_n 1, 1) := by decide +kernel
theorem dL_law_165 : decode cL_law 165 = .ok (.aload_n 0, 1) := by decide +kernel
theorem dL_law_166 : decode cL_law 166 = .ok (.iload_n 3, 1) := by decide +kernel
theorem dL_law_167 : decode cL_law 167 = .ok (.iconst 1, 1) := by decide +kernel
theorem dL_law_168 : decode cL_law 168 = .ok (.iadd, 1) := by decide +kernel
theorem dL_law_169 : decode cL_law 169 = .ok (.iaload, 1) := by decide +kernel
theorem dL_law_170 : decode cL_law 170 = .ok (.invokevirtual 13, 3) := by decide +kernel
theorem dL_law_173 : decode cL_law 173 = .ok (.aload_n 2, 1) := by decide +kernel
theorem dL_law_174 : decode cL_law 174 = .ok (.aload_n 0, 1) := by decide +kernel
theorem dL_law_175 : decode cL_law 175 = .ok (.iload_n 3, 1) := by decide +kernel
theorem dL_law_176 : decode cL_law 176 = .ok (.iconst 1, 1) := by decide +kernel
theorem dL_law_177 : decode cL_law 177 = .ok (.iadd, 1) := by decide +kernel
theorem dL_law_178 : decode cL_law 178 = .ok (.iaload, 1) := by decide +kernel
theorem dL_law_179 : decode cL_law 179 = .ok (.invokevirtual 17, 3) := by decide +kernel
theorem dL_law_182 : decode cL_law 182 = .ok (.if_icmp .eq 719, 3) := by decide +kernel
theorem dL_law_185 : decode cL_law 185 = .ok (.iconst 0, 1) := by decide +kernel
theorem dL_law_186 : decode cL_law 186 = .ok (.ireturn, 1) := by decide +kernel
theorem dL_law_187 : decode cL_law 187 = .ok (.aload_n 1, 1) := by decide +kernel
theorem dL_law_188 : decode cL_law 188 = .ok (.invokevirtual 18, 3) := by decide +kernel
theorem dL_law_191 : decode cL_law 191 = .ok (.aload_n 2, 1) := by decide +kernel
theorem dL_law_192 : decode cL_law 192 = .ok (.invokevirtual 22, 3) := by decide +kernel
theorem dL_law_195 : decode cL_law 195 = .ok (.if_icmp .eq 706, 3) := by decide +kernel
theorem dL_law_198 : decode cL_law 198 = .ok (.iconst 0, 1) := by decide +kernel
theorem dL_law_199 : decode cL_law 199 = .ok (.ireturn, 1) := by decide +kernel
theorem dL_law_200 : decode cL_law 200 = .ok (.aload_n 1, 1) := by decide +kernel
theorem dL_law_201 : decode cL_law 201 = .ok (.invokevirtual 23, 3) := by decide +kernel
theorem dL_law_204 : decode cL_law 204 = .ok (.aload_n 2, 1) := by decide +kernel
theorem dL_law_205 : decode cL_law 205 = .ok (.invokevirtual 26, 3) := by decide +kernel
theorem dL_law_208 : decode cL_law 208 = .ok (.if_icmp .eq 693, 3) := by decide +kernel
theorem dL_law_211 : decode cL_law 211 = .ok (.iconst 0, 1) := by decide +kernel
theorem dL_law_212 : decode cL_law 212 = .ok (.ireturn, 1) := by decide +kernel
theorem dL_law_213 : decode cL_law 213 = .ok (.aload_n 1, 1) := by decide +kernel
theorem dL_law_214 : decode cL_law 214 = .ok (.aload_n 0, 1) := by decide +kernel
theorem dL_law_215 : decode cL_law 215 = .ok (.iload_n 3, 1) := by decide +kernel
theorem dL_law_216 : decode cL_law 216 = .ok (.iconst 1, 1) := by decide +kernel
theorem dL_law_217 : decode cL_law 217 = .ok (.iadd, 1) := by decide +kernel
theorem dL_law_218 : decode cL_law 218 = .ok (.iaload, 1) := by decide +kernel
theorem dL_law_219 : decode cL_law 219 = .ok (.aload_n 0, 1) := by decide +kernel
theorem dL_law_220 : decode cL_law 220 = .ok (.iload_n 3, 1) := by decide +kernel
theorem dL_law_221 : decode cL_law 221 = .ok (.iconst 2, 1) := by decide +kernel
theorem dL_law_222 : decode cL_law 222 = .ok (.iadd, 1) := by decide +kernel
theorem dL_law_223 : decode cL_law 223 = .ok (.iaload, 1) := by decide +kernel
theorem dL_law_224 : decode cL_law 224 = .ok (.invokevirtual 27, 3) := by decide +kernel
theorem dL_law_227 : decode cL_law 227 = .ok (.aload_n 2, 1) := by decide +kernel
theorem dL_law_228 : decode cL_law 228 = .ok (.aload_n 0, 1) := by decide +kernel
theorem dL_law_229 : decode cL_law 229 = .ok (.iload_n 3, 1) := by decide +kernel
theorem dL_law_230 : decode cL_law 230 = .ok (.iconst 1, 1) := by decide +kernel
theorem dL_law_231 : decode cL_law 231 = .ok (.iadd, 1) := by decide +kernel
theorem dL_law_232 : decode cL_law 232 = .ok (.iaload, 1) := by decide +kernel
theorem dL_law_233 : decode cL_law 233 = .ok (.aload_n 0, 1) := by decide +kernel
theorem dL_law_234 : decode cL_law 234 = .ok (.iload_n 3, 1) := by decide +kernel
theorem dL_law_235 : decode cL_law 235 = .ok (.iconst 2, 1) := by decide +kernel
theorem dL_law_236 : decode cL_law 236 = .ok (.iadd, 1) := by decide +kernel
theorem dL_law_237 : decode cL_law 237 = .ok (.iaload, 1) := by decide +kernel
theorem dL_law_238 : decode cL_law 238 = .ok (.invokevirtual 31, 3) := by decide +kernel
theorem dL_law_241 : decode cL_law 241 = .ok (.if_icmp .eq 660, 3) := by decide +kernel
theorem dL_law_244 : decode cL_law 244 = .ok (.iconst 0, 1) := by decide +kernel
theorem dL_law_245 : decode cL_law 245 = .ok (.ireturn, 1) := by decide +kernel
theorem dL_law_246 : decode cL_law 246 = .ok (.aload_n 1, 1) := by decide +kernel
theorem dL_law_247 : decode cL_law 247 = .ok (.aload_n 0, 1) := by decide +kernel
theorem dL_law_248 : decode cL_law 248 = .ok (.iload_n 3, 1) := by decide +kernel
theorem dL_law_249 : decode cL_law 249 = .ok (.iconst 1, 1) := by decide +kernel
theorem dL_law_250 : decode cL_law 250 = .ok (.iadd, 1) := by decide +kernel
theorem dL_law_251 : decode cL_law 251 = .ok (.iaload, 1) := by decide +kernel
theorem dL_law_252 : decode cL_law 252 = .ok (.aload_n 0, 1) := by decide +kernel
theorem dL_law_253 : decode cL_law 253 = .ok (.iload_n 3, 1) := by decide +kernel
theorem dL_law_254 : decode cL_law 254 = .ok (.iconst 2, 1) := by decide +kernel
theorem dL_law_255 : decode cL_law 255 = .ok (.iadd, 1) := by decide +kernel
theorem dL_law_256 : decode cL_law 256 = .ok (.iaload, 1) := by decide +kernel
theorem dL_law_257 : decode cL_law 257 = .ok (.invokevirtual 32, 3) := by decide +kernel
theorem dL_law_260 : decode cL_law 260 = .ok (.aload_n 2, 1) := by decide +kernel
theorem dL_law_261 : decode cL_law 261 = .ok (.aload_n 0, 1) := by decide +kernel
theorem dL_law_262 : decode cL_law 262 = .ok (.iload_n 3, 1) := by decide +kernel
theorem dL_law_263 : decode cL_law 263 = .ok (.iconst 1, 1) := by decide +kernel
theorem dL_law_264 : decode cL_law 264 = .ok (.iadd, 1) := by decide +kernel
theorem dL_law_265 : decode cL_law 265 = .ok (.iaload, 1) := by decide +kernel
theorem dL_law_266 : decode cL_law 266 = .ok (.aload_n 0, 1) := by decide +kernel
theorem dL_law_267 : decode cL_law 267 = .ok (.iload_n 3, 1) := by decide +kernel
theorem dL_law_268 : decode cL_law 268 = .ok (.iconst 2, 1) := by decide +kernel
theorem dL_law_269 : decode cL_law 269 = .ok (.iadd, 1) := by decide +kernel
theorem dL_law_270 : decode cL_law 270 = .ok (.iaload, 1) := by decide +kernel
theorem dL_law_271 : decode cL_law 271 = .ok (.invokevirtual 35, 3) := by decide +kernel
theorem dL_law_274 : decode cL_law 274 = .ok (.if_icmp .eq 627, 3) := by decide +kernel
theorem dL_law_277 : decode cL_law 277 = .ok (.iconst 0, 1) := by decide +kernel
theorem dL_law_278 : decode cL_law 278 = .ok (.ireturn, 1) := by decide +kernel
theorem dL_law_279 : decode cL_law 279 = .ok (.aload_n 1, 1) := by decide +kernel
theorem dL_law_280 : decode cL_law 280 = .ok (.aload_n 0, 1) := by decide +kernel
theorem dL_law_281 : decode cL_law 281 = .ok (.iload_n 3, 1) := by decide +kernel
theorem dL_law_282 : decode cL_law 282 = .ok (.iconst 1, 1) := by decide +kernel
theorem dL_law_283 : decode cL_law 283 = .ok (.iadd, 1) := by decide +kernel
theorem dL_law_284 : decode cL_law 284 = .ok (.iaload, 1) := by decide +kernel
theorem dL_law_285 : decode cL_law 285 = .ok (.aload_n 0, 1) := by decide +kernel
theorem dL_law_286 : decode cL_law 286 = .ok (.iload_n 3, 1) := by decide +kernel
theorem dL_law_287 : decode cL_law 287 = .ok (.iconst 2, 1) := by decide +kernel
theorem dL_law_288 : decode cL_law 288 = .ok (.iadd, 1) := by decide +kernel
theorem dL_law_289 : decode cL_law 289 = .ok (.iaload, 1) := by decide +kernel
theorem dL_law_290 : decode cL_law 290 = .ok (.invokevirtual 36, 3) := by decide +kernel
theorem dL_law_293 : decode cL_law 293 = .ok (.aload_n 2, 1) := by decide +kernel
theorem dL_law_294 : decode cL_law 294 = .ok (.aload_n 0, 1) := by decide +kernel
theorem dL_law_295 : decode cL_law 295 = .ok (.iload_n 3, 1) := by decide +kernel
theorem dL_law_296 : decode cL_law 296 = .ok (.iconst 1, 1) := by decide +kernel
theorem dL_law_297 : decode cL_law 297 = .ok (.iadd, 1) := by decide +kernel
theorem dL_law_298 : decode cL_law 298 = .ok (.iaload, 1) := by decide +kernel
theorem dL_law_299 : decode cL_law 299 = .ok (.aload_n 0, 1) := by decide +kernel
theorem dL_law_300 : decode cL_law 300 = .ok (.iload_n 3, 1) := by decide +kernel
theorem dL_law_301 : decode cL_law 301 = .ok (.iconst 2, 1) := by decide +kernel
theorem dL_law_302 : decode cL_law 302 = .ok (.iadd, 1) := by decide +kernel
theorem dL_law_303 : decode cL_law 303 = .ok (.iaload, 1) := by decide +kernel
theorem dL_law_304 : decode cL_law 304 = .ok (.invokevirtual 39, 3) := by decide +kernel
theorem dL_law_307 : decode cL_law 307 = .ok (.if_icmp .eq 594, 3) := by decide +kernel
theorem dL_law_310 : decode cL_law 310 = .ok (.iconst 0, 1) := by decide +kernel
theorem dL_law_311 : decode cL_law 311 = .ok (.ireturn, 1) := by decide +kernel
theorem dL_law_312 : decode cL_law 312 = .ok (.aload_n 1, 1) := by decide +kernel
theorem dL_law_313 : decode cL_law 313 = .ok (.aload_n 0, 1) := by decide +kernel
theorem dL_law_314 : decode cL_law 314 = .ok (.iload_n 3, 1) := by decide +kernel
theorem dL_law_315 : decode cL_law 315 = .ok (.iconst 1, 1) := by decide +kernel
theorem dL_law_316 : decode cL_law 316 = .ok (.iadd, 1) := by decide +kernel
theorem dL_law_317 : decode cL_law 317 = .ok (.iaload, 1) := by decide +kernel
theorem dL_law_318 : decode cL_law 318 = .ok (.invokevirtual 40, 3) := by decide +kernel
theorem dL_law_321 : decode cL_law 321 = .ok (.aload_n 2, 1) := by decide +kernel
theorem dL_law_322 : decode cL_law 322 = .ok (.aload_n 0, 1) := by decide +kernel
theorem dL_law_323 : decode cL_law 323 = .ok (.iload_n 3, 1) := by decide +kernel
theorem dL_law_324 : decode cL_law 324 = .ok (.iconst 1, 1) := by decide +kernel
theorem dL_law_325 : decode cL_law 325 = .ok (.iadd, 1) := by decide +kernel
theorem dL_law_326 : decode cL_law 326 = .ok (.iaload, 1) := by decide +kernel
theorem dL_law_327 : decode cL_law 327 = .ok (.invokevirtual 43, 3) := by decide +kernel
theorem dL_law_330 : decode cL_law 330 = .ok (.if_icmp .eq 571, 3) := by decide +kernel
theorem dL_law_333 : decode cL_law 333 = .ok (.iconst 0, 1) := by decide +kernel
theorem dL_law_334 : decode cL_law 334 = .ok (.ireturn, 1) := by decide +kernel
theorem dL_law_335 : decode cL_law 335 = .ok (.aload_n 1, 1) := by decide +kernel
theorem dL_law_336 : decode cL_law 336 = .ok (.aload_n 0, 1) := by decide +kernel
theorem dL_law_337 : decode cL_law 337 = .ok (.iload_n 3, 1) := by decide +kernel
theorem dL_law_338 : decode cL_law 338 = .ok (.iconst 1, 1) := by decide +kernel
theorem dL_law_339 : decode cL_law 339 = .ok (.iadd, 1) := by decide +kernel
theorem dL_law_340 : decode cL_law 340 = .ok (.iaload, 1) := by decide +kernel
theorem dL_law_341 : decode cL_law 341 = .ok (.invokevirtual 44, 3) := by decide +kernel
theorem dL_law_344 : decode cL_law 344 = .ok (.aload_n 2, 1) := by decide +kernel
theorem dL_law_345 : decode cL_law 345 = .ok (.aload_n 0, 1) := by decide +kernel
theorem dL_law_346 : decode cL_law 346 = .ok (.iload_n 3, 1) := by decide +kernel
theorem dL_law_347 : decode cL_law 347 = .ok (.iconst 1, 1) := by decide +kernel
theorem dL_law_348 : decode cL_law 348 = .ok (.iadd, 1) := by decide +kernel
theorem dL_law_349 : decode cL_law 349 = .ok (.iaload, 1) := by decide +kernel
theorem dL_law_350 : decode cL_law 350 = .ok (.invokevirtual 47, 3) := by decide +kernel
theorem dL_law_353 : decode cL_law 353 = .ok (.if_icmp .eq 548, 3) := by decide +kernel
theorem dL_law_356 : decode cL_law 356 = .ok (.iconst 0, 1) := by decide +kernel
theorem dL_law_357 : decode cL_law 357 = .ok (.ireturn, 1) := by decide +kernel
theorem dL_law_358 : decode cL_law 358 = .ok (.aload_n 1, 1) := by decide +kernel
theorem dL_law_359 : decode cL_law 359 = .ok (.aload_n 0, 1) := by decide +kernel
theorem dL_law_360 : decode cL_law 360 = .ok (.iload_n 3, 1) := by decide +kernel
theorem dL_law_361 : decode cL_law 361 = .ok (.iconst 1, 1) := by decide +kernel
theorem dL_law_362 : decode cL_law 362 = .ok (.iadd, 1) := by decide +kernel
theorem dL_law_363 : decode cL_law 363 = .ok (.iaload, 1) := by decide +kernel
theorem dL_law_364 : decode cL_law 364 = .ok (.aload_n 0, 1) := by decide +kernel
theorem dL_law_365 : decode cL_law 365 = .ok (.iload_n 3, 1) := by decide +kernel
theorem dL_law_366 : decode cL_law 366 = .ok (.iconst 2, 1) := by decide +kernel
theorem dL_law_367 : decode cL_law 367 = .ok (.iadd, 1) := by decide +kernel
theorem dL_law_368 : decode cL_law 368 = .ok (.iaload, 1) := by decide +kernel
theorem dL_law_369 : decode cL_law 369 = .ok (.aload_n 0, 1) := by decide +kernel
theorem dL_law_370 : decode cL_law 370 = .ok (.iload_n 3, 1) := by decide +kernel
theorem dL_law_371 : decode cL_law 371 = .ok (.iconst 3, 1) := by decide +kernel
theorem dL_law_372 : decode cL_law 372 = .ok (.iadd, 1) := by decide +kernel
theorem dL_law_373 : decode cL_law 373 = .ok (.iaload, 1) := by decide +kernel
theorem dL_law_374 : decode cL_law 374 = .ok (.aload_n 0, 1) := by decide +kernel
theorem dL_law_375 : decode cL_law 375 = .ok (.iload_n 3, 1) := by decide +kernel
theorem dL_law_376 : decode cL_law 376 = .ok (.iconst 4, 1) := by decide +kernel
theorem dL_law_377 : decode cL_law 377 = .ok (.iadd, 1) := by decide +kernel
theorem dL_law_378 : decode cL_law 378 = .ok (.iaload, 1) := by decide +kernel
theorem dL_law_379 : decode cL_law 379 = .ok (.invokevirtual 48, 3) := by decide +kernel
theorem dL_law_382 : decode cL_law 382 = .ok (.aload_n 2, 1) := by decide +kernel
theorem dL_law_383 : decode cL_law 383 = .ok (.aload_n 0, 1) := by decide +kernel
theorem dL_law_384 : decode cL_law 384 = .ok (.iload_n 3, 1) := by decide +kernel
theorem dL_law_385 : decode cL_law 385 = .ok (.iconst 1, 1) := by decide +kernel
theorem dL_law_386 : decode cL_law 386 = .ok (.iadd, 1) := by decide +kernel
theorem dL_law_387 : decode cL_law 387 = .ok (.iaload, 1) := by decide +kernel
theorem dL_law_388 : decode cL_law 388 = .ok (.aload_n 0, 1) := by decide +kernel
theorem dL_law_389 : decode cL_law 389 = .ok (.iload_n 3, 1) := by decide +kernel
theorem dL_law_390 : decode cL_law 390 = .ok (.iconst 2, 1) := by decide +kernel
theorem dL_law_391 : decode cL_law 391 = .ok (.iadd, 1) := by decide +kernel
theorem dL_law_392 : decode cL_law 392 = .ok (.iaload, 1) := by decide +kernel
theorem dL_law_393 : decode cL_law 393 = .ok (.aload_n 0, 1) := by decide +kernel
theorem dL_law_394 : decode cL_law 394 = .ok (.iload_n 3, 1) := by decide +kernel
theorem dL_law_395 : decode cL_law 395 = .ok (.iconst 3, 1) := by decide +kernel
theorem dL_law_396 : decode cL_law 396 = .ok (.iadd, 1) := by decide +kernel
theorem dL_law_397 : decode cL_law 397 = .ok (.iaload, 1) := by decide +kernel
theorem dL_law_398 : decode cL_law 398 = .ok (.aload_n 0, 1) := by decide +kernel
theorem dL_law_399 : decode cL_law 399 = .ok (.iload_n 3, 1) := by decide +kernel
theorem dL_law_400 : decode cL_law 400 = .ok (.iconst 4, 1) := by decide +kernel
theorem dL_law_401 : decode cL_law 401 = .ok (.iadd, 1) := by decide +kernel
theorem dL_law_402 : decode cL_law 402 = .ok (.iaload, 1) := by decide +kernel
theorem dL_law_403 : decode cL_law 403 = .ok (.invokevirtual 52, 3) := by decide +kernel
theorem dL_law_406 : decode cL_law 406 = .ok (.if_icmp .eq 495, 3) := by decide +kernel
theorem dL_law_409 : decode cL_law 409 = .ok (.iconst 0, 1) := by decide +kernel
theorem dL_law_410 : decode cL_law 410 = .ok (.ireturn, 1) := by decide +kernel
theorem dL_law_411 : decode cL_law 411 = .ok (.aload_n 1, 1) := by decide +kernel
theorem dL_law_412 : decode cL_law 412 = .ok (.aload_n 0, 1) := by decide +kernel
theorem dL_law_413 : decode cL_law 413 = .ok (.iload_n 3, 1) := by decide +kernel
theorem dL_law_414 : decode cL_law 414 = .ok (.iconst 1, 1) := by decide +kernel
theorem dL_law_415 : decode cL_law 415 = .ok (.iadd, 1) := by decide +kernel
theorem dL_law_416 : decode cL_law 416 = .ok (.iaload, 1) := by decide +kernel
theorem dL_law_417 : decode cL_law 417 = .ok (.invokevirtual 53, 3) := by decide +kernel
theorem dL_law_420 : decode cL_law 420 = .ok (.aload_n 2, 1) := by decide +kernel
theorem dL_law_421 : decode cL_law 421 = .ok (.aload_n 0, 1) := by decide +kernel
theorem dL_law_422 : decode cL_law 422 = .ok (.iload_n 3, 1) := by decide +kernel
theorem dL_law_423 : decode cL_law 423 = .ok (.iconst 1, 1) := by decide +kernel
theorem dL_law_424 : decode cL_law 424 = .ok (.iadd, 1) := by decide +kernel
theorem dL_law_425 : decode cL_law 425 = .ok (.iaload, 1) := by decide +kernel
theorem dL_law_426 : decode cL_law 426 = .ok (.invokevirtual 56, 3) := by decide +kernel
theorem dL_law_429 : decode cL_law 429 = .ok (.if_icmp .eq 472, 3) := by decide +kernel
theorem dL_law_432 : decode cL_law 432 = .ok (.iconst 0, 1) := by decide +kernel
theorem dL_law_433 : decode cL_law 433 = .ok (.ireturn, 1) := by decide +kernel
theorem dL_law_434 : decode cL_law 434 = .ok (.aload_n 1, 1) := by decide +kernel
theorem dL_law_435 : decode cL_law 435 = .ok (.invokevirtual 57, 3) := by decide +kernel
theorem dL_law_438 : decode cL_law 438 = .ok (.aload_n 2, 1) := by decide +kernel
theorem dL_law_439 : decode cL_law 439 = .ok (.invokevirtual 60, 3) := by decide +kernel
theorem dL_law_442 : decode cL_law 442 = .ok (.if_icmp .eq 459, 3) := by decide +kernel
theorem dL_law_445 : decode cL_law 445 = .ok (.iconst 0, 1) := by decide +kernel
theorem dL_law_446 : decode cL_law 446 = .ok (.ireturn, 1) := by decide +kernel
theorem dL_law_447 : decode cL_law 447 = .ok (.aload_n 1, 1) := by decide +kernel
theorem dL_law_448 : decode cL_law 448 = .ok (.aload_n 0, 1) := by decide +kernel
theorem dL_law_449 : decode cL_law 449 = .ok (.iload_n 3, 1) := by decide +kernel
theorem dL_law_450 : decode cL_law 450 = .ok (.iconst 1, 1) := by decide +kernel
theorem dL_law_451 : decode cL_law 451 = .ok (.iadd, 1) := by decide +kernel
theorem dL_law_452 : decode cL_law 452 = .ok (.iaload, 1) := by decide +kernel
theorem dL_law_453 : decode cL_law 453 = .ok (.aload_n 0, 1) := by decide +kernel
theorem dL_law_454 : decode cL_law 454 = .ok (.iload_n 3, 1) := by decide +kernel
theorem dL_law_455 : decode cL_law 455 = .ok (.iconst 2, 1) := by decide +kernel
theorem dL_law_456 : decode cL_law 456 = .ok (.iadd, 1) := by decide +kernel
theorem dL_law_457 : decode cL_law 457 = .ok (.iaload, 1) := by decide +kernel
theorem dL_law_458 : decode cL_law 458 = .ok (.aload_n 0, 1) := by decide +kernel
theorem dL_law_459 : decode cL_law 459 = .ok (.iload_n 3, 1) := by decide +kernel
theorem dL_law_460 : decode cL_law 460 = .ok (.iconst 3, 1) := by decide +kernel
theorem dL_law_461 : decode cL_law 461 = .ok (.iadd, 1) := by decide +kernel
theorem dL_law_462 : decode cL_law 462 = .ok (.iaload, 1) := by decide +kernel
theorem dL_law_463 : decode cL_law 463 = .ok (.invokevirtual 61, 3) := by decide +kernel
theorem dL_law_466 : decode cL_law 466 = .ok (.aload_n 2, 1) := by decide +kernel
theorem dL_law_467 : decode cL_law 467 = .ok (.aload_n 0, 1) := by decide +kernel
theorem dL_law_468 : decode cL_law 468 = .ok (.iload_n 3, 1) := by decide +kernel
theorem dL_law_469 : decode cL_law 469 = .ok (.iconst 1, 1) := by decide +kernel
theorem dL_law_470 : decode cL_law 470 = .ok (.iadd, 1) := by decide +kernel
theorem dL_law_471 : decode cL_law 471 = .ok (.iaload, 1) := by decide +kernel
theorem dL_law_472 : decode cL_law 472 = .ok (.aload_n 0, 1) := by decide +kernel
theorem dL_law_473 : decode cL_law 473 = .ok (.iload_n 3, 1) := by decide +kernel
theorem dL_law_474 : decode cL_law 474 = .ok (.iconst 2, 1) := by decide +kernel
theorem dL_law_475 : decode cL_law 475 = .ok (.iadd, 1) := by decide +kernel
theorem dL_law_476 : decode cL_law 476 = .ok (.iaload, 1) := by decide +kernel
theorem dL_law_477 : decode cL_law 477 = .ok (.aload_n 0, 1) := by decide +kernel
theorem dL_law_478 : decode cL_law 478 = .ok (.iload_n 3, 1) := by decide +kernel
theorem dL_law_479 : decode cL_law 479 = .ok (.iconst 3, 1) := by decide +kernel
theorem dL_law_480 : decode cL_law 480 = .ok (.iadd, 1) := by decide +kernel
theorem dL_law_481 : decode cL_law 481 = .ok (.iaload, 1) := by decide +kernel
theorem dL_law_482 : decode cL_law 482 = .ok (.invokevirtual 65, 3) := by decide +kernel
theorem dL_law_485 : decode cL_law 485 = .ok (.if_icmp .eq 416, 3) := by decide +kernel
theorem dL_law_488 : decode cL_law 488 = .ok (.iconst 0, 1) := by decide +kernel
theorem dL_law_489 : decode cL_law 489 = .ok (.ireturn, 1) := by decide +kernel
theorem dL_law_490 : decode cL_law 490 = .ok (.aload_n 1, 1) := by decide +kernel
theorem dL_law_491 : decode cL_law 491 = .ok (.aload_n 0, 1) := by decide +kernel
theorem dL_law_492 : decode cL_law 492 = .ok (.iload_n 3, 1) := by decide +kernel
theorem dL_law_493 : decode cL_law 493 = .ok (.iconst 1, 1) := by decide +kernel
theorem dL_law_494 : decode cL_law 494 = .ok (.iadd, 1) := by decide +kernel
theorem dL_law_495 : decode cL_law 495 = .ok (.iaload, 1) := by decide +kernel
theorem dL_law_496 : decode cL_law 496 = .ok (.aload_n 0, 1) := by decide +kernel
theorem dL_law_497 : decode cL_law 497 = .ok (.iload_n 3, 1) := by decide +kernel
theorem dL_law_498 : decode cL_law 498 = .ok (.iconst 2, 1) := by decide +kernel
theorem dL_law_499 : decode cL_law 499 = .ok (.iadd, 1) := by decide +kernel
theorem dL_law_500 : decode cL_law 500 = .ok (.iaload, 1) := by decide +kernel
theorem dL_law_501 : decode cL_law 501 = .ok (.invokevirtual 66, 3) := by decide +kernel
theorem dL_law_504 : decode cL_law 504 = .ok (.aload_n 2, 1) := by decide +kernel
theorem dL_law_505 : decode cL_law 505 = .ok (.aload_n 0, 1) := by decide +kernel
theorem dL_law_506 : decode cL_law 506 = .ok (.iload_n 3, 1) := by decide +kernel
theorem dL_law_507 : decode cL_law 507 = .ok (.iconst 1, 1) := by decide +kernel
theorem dL_law_508 : decode cL_law 508 = .ok (.iadd, 1) := by decide +kernel
theorem dL_law_509 : decode cL_law 509 = .ok (.iaload, 1) := by decide +kernel
theorem dL_law_510 : decode cL_law 510 = .ok (.aload_n 0, 1) := by decide +kernel
theorem dL_law_511 : decode cL_law 511 = .ok (.iload_n 3, 1) := by decide +kernel
theorem dL_law_512 : decode cL_law 512 = .ok (.iconst 2, 1) := by decide +kernel
theorem dL_law_513 : decode cL_law 513 = .ok (.iadd, 1) := by decide +kernel
theorem dL_law_514 : decode cL_law 514 = .ok (.iaload, 1) := by decide +kernel
theorem dL_law_515 : decode cL_law 515 = .ok (.invokevirtual 69, 3) := by decide +kernel
theorem dL_law_518 : decode cL_law 518 = .ok (.if_icmp .eq 383, 3) := by decide +kernel
theorem dL_law_521 : decode cL_law 521 = .ok (.iconst 0, 1) := by decide +kernel
theorem dL_law_522 : decode cL_law 522 = .ok (.ireturn, 1) := by decide +kernel
theorem dL_law_523 : decode cL_law 523 = .ok (.aload_n 1, 1) := by decide +kernel
theorem dL_law_524 : decode cL_law 524 = .ok (.aload_n 0, 1) := by decide +kernel
theorem dL_law_525 : decode cL_law 525 = .ok (.iload_n 3, 1) := by decide +kernel
theorem dL_law_526 : decode cL_law 526 = .ok (.iconst 1, 1) := by decide +kernel
theorem dL_law_527 : decode cL_law 527 = .ok (.iadd, 1) := by decide +kernel
theorem dL_law_528 : decode cL_law 528 = .ok (.iaload, 1) := by decide +kernel
theorem dL_law_529 : decode cL_law 529 = .ok (.invokevirtual 70, 3) := by decide +kernel
theorem dL_law_532 : decode cL_law 532 = .ok (.aload_n 2, 1) := by decide +kernel
theorem dL_law_533 : decode cL_law 533 = .ok (.aload_n 0, 1) := by decide +kernel
theorem dL_law_534 : decode cL_law 534 = .ok (.iload_n 3, 1) := by decide +kernel
theorem dL_law_535 : decode cL_law 535 = .ok (.iconst 1, 1) := by decide +kernel
theorem dL_law_536 : decode cL_law 536 = .ok (.iadd, 1) := by decide +kernel
theorem dL_law_537 : decode cL_law 537 = .ok (.iaload, 1) := by decide +kernel
theorem dL_law_538 : decode cL_law 538 = .ok (.invokevirtual 73, 3) := by decide +kernel
theorem dL_law_541 : decode cL_law 541 = .ok (.if_icmp .eq 360, 3) := by decide +kernel
theorem dL_law_544 : decode cL_law 544 = .ok (.iconst 0, 1) := by decide +kernel
theorem dL_law_545 : decode cL_law 545 = .ok (.ireturn, 1) := by decide +kernel
theorem dL_law_546 : decode cL_law 546 = .ok (.aload_n 1, 1) := by decide +kernel
theorem dL_law_547 : decode cL_law 547 = .ok (.invokevirtual 74, 3) := by decide +kernel
theorem dL_law_550 : decode cL_law 550 = .ok (.aload_n 2, 1) := by decide +kernel
theorem dL_law_551 : decode cL_law 551 = .ok (.invokevirtual 77, 3) := by decide +kernel
theorem dL_law_554 : decode cL_law 554 = .ok (.if_icmp .eq 347, 3) := by decide +kernel
theorem dL_law_557 : decode cL_law 557 = .ok (.iconst 0, 1) := by decide +kernel
theorem dL_law_558 : decode cL_law 558 = .ok (.ireturn, 1) := by decide +kernel
theorem dL_law_559 : decode cL_law 559 = .ok (.aload_n 1, 1) := by decide +kernel
theorem dL_law_560 : decode cL_law 560 = .ok (.aload_n 0, 1) := by decide +kernel
theorem dL_law_561 : decode cL_law 561 = .ok (.iload_n 3, 1) := by decide +kernel
theorem dL_law_562 : decode cL_law 562 = .ok (.iconst 1, 1) := by decide +kernel
theorem dL_law_563 : decode cL_law 563 = .ok (.iadd, 1) := by decide +kernel
theorem dL_law_564 : decode cL_law 564 = .ok (.iaload, 1) := by decide +kernel
theorem dL_law_565 : decode cL_law 565 = .ok (.invokevirtual 78, 3) := by decide +kernel
theorem dL_law_568 : decode cL_law 568 = .ok (.aload_n 2, 1) := by decide +kernel
theorem dL_law_569 : decode cL_law 569 = .ok (.aload_n 0, 1) := by decide +kernel
theorem dL_law_570 : decode cL_law 570 = .ok (.iload_n 3, 1) := by decide +kernel
theorem dL_law_571 : decode cL_law 571 = .ok (.iconst 1, 1) := by decide +kernel
theorem dL_law_572 : decode cL_law 572 = .ok (.iadd, 1) := by decide +kernel
theorem dL_law_573 : decode cL_law 573 = .ok (.iaload, 1) := by decide +kernel
theorem dL_law_574 : decode cL_law 574 = .ok (.invokevirtual 81, 3) := by decide +kernel
theorem dL_law_577 : decode cL_law 577 = .ok (.if_icmp .eq 324, 3) := by decide +kernel
theorem dL_law_580 : decode cL_law 580 = .ok (.iconst 0, 1) := by decide +kernel
theorem dL_law_581 : decode cL_law 581 = .ok (.ireturn, 1) := by decide +kernel
theorem dL_law_582 : decode cL_law 582 = .ok (.aload_n 1, 1) := by decide +kernel
theorem dL_law_583 : decode cL_law 583 = .ok (.aload_n 0, 1) := by decide +kernel
theorem dL_law_584 : decode cL_law 584 = .ok (.iload_n 3, 1) := by decide +kernel
theorem dL_law_585 : decode cL_law 585 = .ok (.iconst 1, 1) := by decide +kernel
theorem dL_law_586 : decode cL_law 586 = .ok (.iadd, 1) := by decide +kernel
theorem dL_law_587 : decode cL_law 587 = .ok (.iaload, 1) := by decide +kernel
theorem dL_law_588 : decode cL_law 588 = .ok (.aload_n 0, 1) := by decide +kernel
theorem dL_law_589 : decode cL_law 589 = .ok (.iload_n 3, 1) := by decide +kernel
theorem dL_law_590 : decode cL_law 590 = .ok (.iconst 2, 1) := by decide +kernel
theorem dL_law_591 : decode cL_law 591 = .ok (.iadd, 1) := by decide +kernel
theorem dL_law_592 : decode cL_law 592 = .ok (.iaload, 1) := by decide +kernel
theorem dL_law_593 : decode cL_law 593 = .ok (.aload_n 0, 1) := by decide +kernel
theorem dL_law_594 : decode cL_law 594 = .ok (.iload_n 3, 1) := by decide +kernel
theorem dL_law_595 : decode cL_law 595 = .ok (.iconst 3, 1) := by decide +kernel
theorem dL_law_596 : decode cL_law 596 = .ok (.iadd, 1) := by decide +kernel
theorem dL_law_597 : decode cL_law 597 = .ok (.iaload, 1) := by decide +kernel
theorem dL_law_598 : decode cL_law 598 = .ok (.invokevirtual 82, 3) := by decide +kernel
theorem dL_law_601 : decode cL_law 601 = .ok (.aload_n 2, 1) := by decide +kernel
theorem dL_law_602 : decode cL_law 602 = .ok (.aload_n 0, 1) := by decide +kernel
theorem dL_law_603 : decode cL_law 603 = .ok (.iload_n 3, 1) := by decide +kernel
theorem dL_law_604 : decode cL_law 604 = .ok (.iconst 1, 1) := by decide +kernel
theorem dL_law_605 : decode cL_law 605 = .ok (.iadd, 1) := by decide +kernel
theorem dL_law_606 : decode cL_law 606 = .ok (.iaload, 1) := by decide +kernel
theorem dL_law_607 : decode cL_law 607 = .ok (.aload_n 0, 1) := by decide +kernel
theorem dL_law_608 : decode cL_law 608 = .ok (.iload_n 3, 1) := by decide +kernel
theorem dL_law_609 : decode cL_law 609 = .ok (.iconst 2, 1) := by decide +kernel
theorem dL_law_610 : decode cL_law 610 = .ok (.iadd, 1) := by decide +kernel
theorem dL_law_611 : decode cL_law 611 = .ok (.iaload, 1) := by decide +kernel
theorem dL_law_612 : decode cL_law 612 = .ok (.aload_n 0, 1) := by decide +kernel
theorem dL_law_613 : decode cL_law 613 = .ok (.iload_n 3, 1) := by decide +kernel
theorem dL_law_614 : decode cL_law 614 = .ok (.iconst 3, 1) := by decide +kernel
theorem dL_law_615 : decode cL_law 615 = .ok (.iadd, 1) := by decide +kernel
theorem dL_law_616 : decode cL_law 616 = .ok (.iaload, 1) := by decide +kernel
theorem dL_law_617 : decode cL_law 617 = .ok (.invokevirtual 85, 3) := by decide +kernel
theorem dL_law_620 : decode cL_law 620 = .ok (.if_icmp .eq 281, 3) := by decide +kernel
theorem dL_law_623 : decode cL_law 623 = .ok (.iconst 0, 1) := by decide +kernel
theorem dL_law_624 : decode cL_law 624 = .ok (.ireturn, 1) := by decide +kernel
theorem dL_law_625 : decode cL_law 625 = .ok (.aload_n 1, 1) := by decide +kernel
theorem dL_law_626 : decode cL_law 626 = .ok (.aload_n 0, 1) := by decide +kernel
theorem dL_law_627 : decode cL_law 627 = .ok (.iload_n 3, 1) := by decide +kernel
theorem dL_law_628 : decode cL_law 628 = .ok (.iconst 1, 1) := by decide +kernel
theorem dL_law_629 : decode cL_law 629 = .ok (.iadd, 1) := by decide +kernel
theorem dL_law_630 : decode cL_law 630 = .ok (.iaload, 1) := by decide +kernel
theorem dL_law_631 : decode cL_law 631 = .ok (.aload_n 0, 1) := by decide +kernel
theorem dL_law_632 : decode cL_law 632 = .ok (.iload_n 3, 1) := by decide +kernel
theorem dL_law_633 : decode cL_law 633 = .ok (.iconst 2, 1) := by decide +kernel
theorem dL_law_634 : decode cL_law 634 = .ok (.iadd, 1) := by decide +kernel
theorem dL_law_635 : decode cL_law 635 = .ok (.iaload, 1) := by decide +kernel
theorem dL_law_636 : decode cL_law 636 = .ok (.aload_n 0, 1) := by decide +kernel
theorem dL_law_637 : decode cL_law 637 = .ok (.iload_n 3, 1) := by decide +kernel
theorem dL_law_638 : decode cL_law 638 = .ok (.iconst 3, 1) := by decide +kernel
theorem dL_law_639 : decode cL_law 639 = .ok (.iadd, 1) := by decide +kernel
theorem dL_law_640 : decode cL_law 640 = .ok (.iaload, 1) := by decide +kernel
theorem dL_law_641 : decode cL_law 641 = .ok (.invokevirtual 86, 3) := by decide +kernel
theorem dL_law_644 : decode cL_law 644 = .ok (.aload_n 2, 1) := by decide +kernel
theorem dL_law_645 : decode cL_law 645 = .ok (.aload_n 0, 1) := by decide +kernel
theorem dL_law_646 : decode cL_law 646 = .ok (.iload_n 3, 1) := by decide +kernel
theorem dL_law_647 : decode cL_law 647 = .ok (.iconst 1, 1) := by decide +kernel
theorem dL_law_648 : decode cL_law 648 = .ok (.iadd, 1) := by decide +kernel
theorem dL_law_649 : decode cL_law 649 = .ok (.iaload, 1) := by decide +kernel
theorem dL_law_650 : decode cL_law 650 = .ok (.aload_n 0, 1) := by decide +kernel
theorem dL_law_651 : decode cL_law 651 = .ok (.iload_n 3, 1) := by decide +kernel
theorem dL_law_652 : decode cL_law 652 = .ok (.iconst 2, 1) := by decide +kernel
theorem dL_law_653 : decode cL_law 653 = .ok (.iadd, 1) := by decide +kernel
theorem dL_law_654 : decode cL_law 654 = .ok (.iaload, 1) := by decide +kernel
theorem dL_law_655 : decode cL_law 655 = .ok (.aload_n 0, 1) := by decide +kernel
theorem dL_law_656 : decode cL_law 656 = .ok (.iload_n 3, 1) := by decide +kernel
theorem dL_law_657 : decode cL_law 657 = .ok (.iconst 3, 1) := by decide +kernel
theorem dL_law_658 : decode cL_law 658 = .ok (.iadd, 1) := by decide +kernel
theorem dL_law_659 : decode cL_law 659 = .ok (.iaload, 1) := by decide +kernel
theorem dL_law_660 : decode cL_law 660 = .ok (.invokevirtual 89, 3) := by decide +kernel
theorem dL_law_663 : decode cL_law 663 = .ok (.if_icmp .eq 238, 3) := by decide +kernel
theorem dL_law_666 : decode cL_law 666 = .ok (.iconst 0, 1) := by decide +kernel
theorem dL_law_667 : decode cL_law 667 = .ok (.ireturn, 1) := by decide +kernel
theorem dL_law_668 : decode cL_law 668 = .ok (.aload_n 1, 1) := by decide +kernel
theorem dL_law_669 : decode cL_law 669 = .ok (.aload_n 0, 1) := by decide +kernel
theorem dL_law_670 : decode cL_law 670 = .ok (.iload_n 3, 1) := by decide +kernel
theorem dL_law_671 : decode cL_law 671 = .ok (.iconst 1, 1) := by decide +kernel
theorem dL_law_672 : decode cL_law 672 = .ok (.iadd, 1) := by decide +kernel
theorem dL_law_673 : decode cL_law 673 = .ok (.iaload, 1) := by decide +kernel
theorem dL_law_674 : decode cL_law 674 = .ok (.invokevirtual 90, 3) := by decide +kernel
theorem dL_law_677 : decode cL_law 677 = .ok (.aload_n 2, 1) := by decide +kernel
theorem dL_law_678 : decode cL_law 678 = .ok (.aload_n 0, 1) := by decide +kernel
theorem dL_law_679 : decode cL_law 679 = .ok (.iload_n 3, 1) := by decide +kernel
theorem dL_law_680 : decode cL_law 680 = .ok (.iconst 1, 1) := by decide +kernel
theorem dL_law_681 : decode cL_law 681 = .ok (.iadd, 1) := by decide +kernel
theorem dL_law_682 : decode cL_law 682 = .ok (.iaload, 1) := by decide +kernel
theorem dL_law_683 : decode cL_law 683 = .ok (.invokevirtual 93, 3) := by decide +kernel
theorem dL_law_686 : decode cL_law 686 = .ok (.if_icmp .eq 215, 3) := by decide +kernel
theorem dL_law_689 : decode cL_law 689 = .ok (.iconst 0, 1) := by decide +kernel
theorem dL_law_690 : decode cL_law 690 = .ok (.ireturn, 1) := by decide +kernel
theorem dL_law_691 : decode cL_law 691 = .ok (.aload_n 1, 1) := by decide +kernel
theorem dL_law_692 : decode cL_law 692 = .ok (.invokevirtual 94, 3) := by decide +kernel
theorem dL_law_695 : decode cL_law 695 = .ok (.aload_n 2, 1) := by decide +kernel
theorem dL_law_696 : decode cL_law 696 = .ok (.invokevirtual 97, 3) := by decide +kernel
theorem dL_law_699 : decode cL_law 699 = .ok (.if_icmp .eq 202, 3) := by decide +kernel
theorem dL_law_702 : decode cL_law 702 = .ok (.iconst 0, 1) := by decide +kernel
theorem dL_law_703 : decode cL_law 703 = .ok (.ireturn, 1) := by decide +kernel
theorem dL_law_704 : decode cL_law 704 = .ok (.aload_n 1, 1) := by decide +kernel
theorem dL_law_705 : decode cL_law 705 = .ok (.aload_n 0, 1) := by decide +kernel
theorem dL_law_706 : decode cL_law 706 = .ok (.iload_n 3, 1) := by decide +kernel
theorem dL_law_707 : decode cL_law 707 = .ok (.iconst 1, 1) := by decide +kernel
theorem dL_law_708 : decode cL_law 708 = .ok (.iadd, 1) := by decide +kernel
theorem dL_law_709 : decode cL_law 709 = .ok (.iaload, 1) := by decide +kernel
theorem dL_law_710 : decode cL_law 710 = .ok (.invokevirtual 98, 3) := by decide +kernel
theorem dL_law_713 : decode cL_law 713 = .ok (.aload_n 2, 1) := by decide +kernel
theorem dL_law_714 : decode cL_law 714 = .ok (.aload_n 0, 1) := by decide +kernel
theorem dL_law_715 : decode cL_law 715 = .ok (.iload_n 3, 1) := by decide +kernel
theorem dL_law_716 : decode cL_law 716 = .ok (.iconst 1, 1) := by decide +kernel
theorem dL_law_717 : decode cL_law 717 = .ok (.iadd, 1) := by decide +kernel
theorem dL_law_718 : decode cL_law 718 = .ok (.iaload, 1) := by decide +kernel
theorem dL_law_719 : decode cL_law 719 = .ok (.invokevirtual 101, 3) := by decide +kernel
theorem dL_law_722 : decode cL_law 722 = .ok (.if_icmp .eq 179, 3) := by decide +kernel
theorem dL_law_725 : decode cL_law 725 = .ok (.iconst 0, 1) := by decide +kernel
theorem dL_law_726 : decode cL_law 726 = .ok (.ireturn, 1) := by decide +kernel
theorem dL_law_727 : decode cL_law 727 = .ok (.aload_n 1, 1) := by decide +kernel
theorem dL_law_728 : decode cL_law 728 = .ok (.aload_n 0, 1) := by decide +kernel
theorem dL_law_729 : decode cL_law 729 = .ok (.iload_n 3, 1) := by decide +kernel
theorem dL_law_730 : decode cL_law 730 = .ok (.iconst 1, 1) := by decide +kernel
theorem dL_law_731 : decode cL_law 731 = .ok (.iadd, 1) := by decide +kernel
theorem dL_law_732 : decode cL_law 732 = .ok (.iaload, 1) := by decide +kernel
theorem dL_law_733 : decode cL_law 733 = .ok (.invokevirtual 102, 3) := by decide +kernel
theorem dL_law_736 : decode cL_law 736 = .ok (.aload_n 2, 1) := by decide +kernel
theorem dL_law_737 : decode cL_law 737 = .ok (.aload_n 0, 1) := by decide +kernel
theorem dL_law_738 : decode cL_law 738 = .ok (.iload_n 3, 1) := by decide +kernel
theorem dL_law_739 : decode cL_law 739 = .ok (.iconst 1, 1) := by decide +kernel
theorem dL_law_740 : decode cL_law 740 = .ok (.iadd, 1) := by decide +kernel
theorem dL_law_741 : decode cL_law 741 = .ok (.iaload, 1) := by decide +kernel
theorem dL_law_742 : decode cL_law 742 = .ok (.invokevirtual 105, 3) := by decide +kernel
theorem dL_law_745 : decode cL_law 745 = .ok (.if_icmp .eq 156, 3) := by decide +kernel
theorem dL_law_748 : decode cL_law 748 = .ok (.iconst 0, 1) := by decide +kernel
theorem dL_law_749 : decode cL_law 749 = .ok (.ireturn, 1) := by decide +kernel
theorem dL_law_750 : decode cL_law 750 = .ok (.aload_n 1, 1) := by decide +kernel
theorem dL_law_751 : decode cL_law 751 = .ok (.invokevirtual 106, 3) := by decide +kernel
theorem dL_law_754 : decode cL_law 754 = .ok (.aload_n 2, 1) := by decide +kernel
theorem dL_law_755 : decode cL_law 755 = .ok (.invokevirtual 109, 3) := by decide +kernel
theorem dL_law_758 : decode cL_law 758 = .ok (.if_icmp .eq 143, 3) := by decide +kernel
theorem dL_law_761 : decode cL_law 761 = .ok (.iconst 0, 1) := by decide +kernel
theorem dL_law_762 : decode cL_law 762 = .ok (.ireturn, 1) := by decide +kernel
theorem dL_law_763 : decode cL_law 763 = .ok (.aload_n 1, 1) := by decide +kernel
theorem dL_law_764 : decode cL_law 764 = .ok (.aload_n 0, 1) := by decide +kernel
theorem dL_law_765 : decode cL_law 765 = .ok (.iload_n 3, 1) := by decide +kernel
theorem dL_law_766 : decode cL_law 766 = .ok (.iconst 1, 1) := by decide +kernel
theorem dL_law_767 : decode cL_law 767 = .ok (.iadd, 1) := by decide +kernel
theorem dL_law_768 : decode cL_law 768 = .ok (.iaload, 1) := by decide +kernel
theorem dL_law_769 : decode cL_law 769 = .ok (.aload_n 0, 1) := by decide +kernel
theorem dL_law_770 : decode cL_law 770 = .ok (.iload_n 3, 1) := by decide +kernel
theorem dL_law_771 : decode cL_law 771 = .ok (.iconst 2, 1) := by decide +kernel
theorem dL_law_772 : decode cL_law 772 = .ok (.iadd, 1) := by decide +kernel
theorem dL_law_773 : decode cL_law 773 = .ok (.iaload, 1) := by decide +kernel
theorem dL_law_774 : decode cL_law 774 = .ok (.aload_n 0, 1) := by decide +kernel
theorem dL_law_775 : decode cL_law 775 = .ok (.iload_n 3, 1) := by decide +kernel
theorem dL_law_776 : decode cL_law 776 = .ok (.iconst 3, 1) := by decide +kernel
theorem dL_law_777 : decode cL_law 777 = .ok (.iadd, 1) := by decide +kernel
theorem dL_law_778 : decode cL_law 778 = .ok (.iaload, 1) := by decide +kernel
theorem dL_law_779 : decode cL_law 779 = .ok (.invokevirtual 110, 3) := by decide +kernel
theorem dL_law_782 : decode cL_law 782 = .ok (.aload_n 2, 1) := by decide +kernel
theorem dL_law_783 : decode cL_law 783 = .ok (.aload_n 0, 1) := by decide +kernel
theorem dL_law_784 : decode cL_law 784 = .ok (.iload_n 3, 1) := by decide +kernel
theorem dL_law_785 : decode cL_law 785 = .ok (.iconst 1, 1) := by decide +kernel
theorem dL_law_786 : decode cL_law 786 = .ok (.iadd, 1) := by decide +kernel
theorem dL_law_787 : decode cL_law 787 = .ok (.iaload, 1) := by decide +kernel
theorem dL_law_788 : decode cL_law 788 = .ok (.aload_n 0, 1) := by decide +kernel
theorem dL_law_789 : decode cL_law 789 = .ok (.iload_n 3, 1) := by decide +kernel
theorem dL_law_790 : decode cL_law 790 = .ok (.iconst 2, 1) := by decide +kernel
theorem dL_law_791 : decode cL_law 791 = .ok (.iadd, 1) := by decide +kernel
theorem dL_law_792 : decode cL_law 792 = .ok (.iaload, 1) := by decide +kernel
theorem dL_law_793 : decode cL_law 793 = .ok (.aload_n 0, 1) := by decide +kernel
theorem dL_law_794 : decode cL_law 794 = .ok (.iload_n 3, 1) := by decide +kernel
theorem dL_law_795 : decode cL_law 795 = .ok (.iconst 3, 1) := by decide +kernel
theorem dL_law_796 : decode cL_law 796 = .ok (.iadd, 1) := by decide +kernel
theorem dL_law_797 : decode cL_law 797 = .ok (.iaload, 1) := by decide +kernel
theorem dL_law_798 : decode cL_law 798 = .ok (.invokevirtual 113, 3) := by decide +kernel
theorem dL_law_801 : decode cL_law 801 = .ok (.if_icmp .eq 100, 3) := by decide +kernel
theorem dL_law_804 : decode cL_law 804 = .ok (.iconst 0, 1) := by decide +kernel
theorem dL_law_805 : decode cL_law 805 = .ok (.ireturn, 1) := by decide +kernel
theorem dL_law_806 : decode cL_law 806 = .ok (.aload_n 1, 1) := by decide +kernel
theorem dL_law_807 : decode cL_law 807 = .ok (.invokevirtual 114, 3) := by decide +kernel
theorem dL_law_810 : decode cL_law 810 = .ok (.aload_n 2, 1) := by decide +kernel
theorem dL_law_811 : decode cL_law 811 = .ok (.invokevirtual 117, 3) := by decide +kernel
theorem dL_law_814 : decode cL_law 814 = .ok (.if_icmp .eq 87, 3) := by decide +kernel
theorem dL_law_817 : decode cL_law 817 = .ok (.iconst 0, 1) := by decide +kernel
theorem dL_law_818 : decode cL_law 818 = .ok (.ireturn, 1) := by decide +kernel
theorem dL_law_819 : decode cL_law 819 = .ok (.aload_n 1, 1) := by decide +kernel
theorem dL_law_820 : decode cL_law 820 = .ok (.invokevirtual 118, 3) := by decide +kernel
theorem dL_law_823 : decode cL_law 823 = .ok (.aload_n 2, 1) := by decide +kernel
theorem dL_law_824 : decode cL_law 824 = .ok (.invokevirtual 121, 3) := by decide +kernel
theorem dL_law_827 : decode cL_law 827 = .ok (.if_icmp .eq 74, 3) := by decide +kernel
theorem dL_law_830 : decode cL_law 830 = .ok (.iconst 0, 1) := by decide +kernel
theorem dL_law_831 : decode cL_law 831 = .ok (.ireturn, 1) := by decide +kernel
theorem dL_law_832 : decode cL_law 832 = .ok (.aload_n 1, 1) := by decide +kernel
theorem dL_law_833 : decode cL_law 833 = .ok (.aload_n 0, 1) := by decide +kernel
theorem dL_law_834 : decode cL_law 834 = .ok (.iload_n 3, 1) := by decide +kernel
theorem dL_law_835 : decode cL_law 835 = .ok (.iconst 1, 1) := by decide +kernel
theorem dL_law_836 : decode cL_law 836 = .ok (.iadd, 1) := by decide +kernel
theorem dL_law_837 : decode cL_law 837 = .ok (.iaload, 1) := by decide +kernel
theorem dL_law_838 : decode cL_law 838 = .ok (.invokevirtual 122, 3) := by decide +kernel
theorem dL_law_841 : decode cL_law 841 = .ok (.aload_n 2, 1) := by decide +kernel
theorem dL_law_842 : decode cL_law 842 = .ok (.aload_n 0, 1) := by decide +kernel
theorem dL_law_843 : decode cL_law 843 = .ok (.iload_n 3, 1) := by decide +kernel
theorem dL_law_844 : decode cL_law 844 = .ok (.iconst 1, 1) := by decide +kernel
theorem dL_law_845 : decode cL_law 845 = .ok (.iadd, 1) := by decide +kernel
theorem dL_law_846 : decode cL_law 846 = .ok (.iaload, 1) := by decide +kernel
theorem dL_law_847 : decode cL_law 847 = .ok (.invokevirtual 125, 3) := by decide +kernel
theorem dL_law_850 : decode cL_law 850 = .ok (.if_icmp .eq 51, 3) := by decide +kernel
theorem dL_law_853 : decode cL_law 853 = .ok (.iconst 0, 1) := by decide +kernel
theorem dL_law_854 : decode cL_law 854 = .ok (.ireturn, 1) := by decide +kernel
theorem dL_law_855 : decode cL_law 855 = .ok (.aload_n 1, 1) := by decide +kernel
theorem dL_law_856 : decode cL_law 856 = .ok (.aload_n 0, 1) := by decide +kernel
theorem dL_law_857 : decode cL_law 857 = .ok (.iload_n 3, 1) := by decide +kernel
theorem dL_law_858 : decode cL_law 858 = .ok (.iconst 1, 1) := by decide +kernel
theorem dL_law_859 : decode cL_law 859 = .ok (.iadd, 1) := by decide +kernel
theorem dL_law_860 : decode cL_law 860 = .ok (.iaload, 1) := by decide +kernel
theorem dL_law_861 : decode cL_law 861 = .ok (.invokevirtual 126, 3) := by decide +kernel
theorem dL_law_864 : decode cL_law 864 = .ok (.aload_n 2, 1) := by decide +kernel
theorem dL_law_865 : decode cL_law 865 = .ok (.aload_n 0, 1) := by decide +kernel
theorem dL_law_866 : decode cL_law 866 = .ok (.iload_n 3, 1) := by decide +kernel
theorem dL_law_867 : decode cL_law 867 = .ok (.iconst 1, 1) := by decide +kernel
theorem dL_law_868 : decode cL_law 868 = .ok (.iadd, 1) := by decide +kernel
theorem dL_law_869 : decode cL_law 869 = .ok (.iaload, 1) := by decide +kernel
theorem dL_law_870 : decode cL_law 870 = .ok (.invokevirtual 129, 3) := by decide +kernel
theorem dL_law_873 : decode cL_law 873 = .ok (.if_icmp .eq 28, 3) := by decide +kernel
theorem dL_law_876 : decode cL_law 876 = .ok (.iconst 0, 1) := by decide +kernel
theorem dL_law_877 : decode cL_law 877 = .ok (.ireturn, 1) := by decide +kernel
theorem dL_law_878 : decode cL_law 878 = .ok (.aload_n 1, 1) := by decide +kernel
theorem dL_law_879 : decode cL_law 879 = .ok (.aload_n 0, 1) := by decide +kernel
theorem dL_law_880 : decode cL_law 880 = .ok (.iload_n 3, 1) := by decide +kernel
theorem dL_law_881 : decode cL_law 881 = .ok (.iconst 1, 1) := by decide +kernel
theorem dL_law_882 : decode cL_law 882 = .ok (.iadd, 1) := by decide +kernel
theorem dL_law_883 : decode cL_law 883 = .ok (.iaload, 1) := by decide +kernel
theorem dL_law_884 : decode cL_law 884 = .ok (.invokevirtual 130, 3) := by decide +kernel
theorem dL_law_887 : decode cL_law 887 = .ok (.aload_n 2, 1) := by decide +kernel
theorem dL_law_888 : decode cL_law 888 = .ok (.aload_n 0, 1) := by decide +kernel
theorem dL_law_889 : decode cL_law 889 = .ok (.iload_n 3, 1) := by decide +kernel
theorem dL_law_890 : decode cL_law 890 = .ok (.iconst 1, 1) := by decide +kernel
theorem dL_law_891 : decode cL_law 891 = .ok (.iadd, 1) := by decide +kernel
theorem dL_law_892 : decode cL_law 892 = .ok (.iaload, 1) := by decide +kernel
theorem dL_law_893 : decode cL_law 893 = .ok (.invokevirtual 133, 3) := by decide +kernel
theorem dL_law_896 : decode cL_law 896 = .ok (.if_icmp .eq 5, 3) := by decide +kernel
theorem dL_law_899 : decode cL_law 899 = .ok (.iconst 0, 1) := by decide +kernel
theorem dL_law_900 : decode cL_law 900 = .ok (.ireturn, 1) := by decide +kernel
theorem dL_law_901 : decode cL_law 901 = .ok (.iinc 3 5, 3) := by decide +kernel
theorem dL_law_904 : decode cL_law 904 = .ok (.goto (-886), 3) := by decide +kernel
theorem dL_law_907 : decode cL_law 907 = .ok (.iconst 1, 1) := by decide +kernel
theorem dL_law_908 : decode cL_law 908 = .ok (.ireturn, 1) := by decide +kernel
end
section
theorem inX0 : ∀ w ∈ u_ws RX0 TX0 1, w ∈ UW := by decide +kernel
theorem inX1 : ∀ w ∈ u_ws RX1 TX1 3, w ∈ UW := by decide +kernel
theorem inX2 : ∀ w ∈ u_ws RX2 TX2 6, w ∈ UW := by decide +kernel
theorem inX3 : ∀ w ∈ u_ws RX3 TX3 7, w ∈ UW := by decide +kernel
theorem inX4 : ∀ w ∈ u_ws RX4 TX4 6, w ∈ UW := by decide +kernel
theorem inX5 : ∀ w ∈ u_ws RX5 TX5 10, w ∈ UW := by decide +kernel
theorem inX6 : ∀ w ∈ u_ws RX6 TX6 30, w ∈ UW := by decide +kernel
end
section
/-! ===== the store: relative cell, slot, int ===== -/
abbrev St : Type := Nat → Nat → Int32
abbrev Ev : Type := Nat × (Nat → ClassId) × (Nat → Nat → Nat) × (Nat → ClassId)
abbrev Shp : Type := (Nat × Nat × Nat) ⊕ (Nat × List (Option Nat))
def shpL : List Shp := [
  .inr (5, [some 1, some 4, some 7, some 9, some 41, some 43, some 46, some 47, some 48, none]),
  .inr (2, [none, none, none, none, some 2, some 3]),
  .inl (0, 56, 0),
  .inl (0, 24, 0),
  .inr (2, [none, none, none, none, some 5, some 6]),
  .inl (0, 56, 0),
  .inl (0, 24, 0),
  .inr (4, [some 8, none, none, none, none, none]),
  .inl (1, 120, 0),
  .inr (1, [some 10, none, none]),
  .inl (3, 10, 11),
  .inr (2, [none, none, none, none, some 12, some 13]),
  .inl (0, 56, 0),
  .inl (0, 24, 0),
  .inr (2, [none, none, none, none, some 15, some 16]),
  .inl (0, 56, 0),
  .inl (0, 24, 0),
  .inr (2, [none, none, none, none, some 18, some 19]),
  .inl (0, 56, 0),
  .inl (0, 24, 0),
  .inr (2, [none, none, none, none, some 21, some 22]),
  .inl (0, 56, 0),
  .inl (0, 24, 0),
  .inr (2, [none, none, none, none, some 24, some 25]),
  .inl (0, 56, 0),
  .inl (0, 24, 0),
  .inr (2, [none, none, none, none, some 27, some 28]),
  .inl (0, 56, 0),
  .inl (0, 24, 0),
  .inr (2, [none, none, none, none, some 30, some 31]),
  .inl (0, 56, 0),
  .inl (0, 24, 0),
  .inr (2, [none, none, none, none, some 33, some 34]),
  .inl (0, 56, 0),
  .inl (0, 24, 0),
  .inr (2, [none, none, none, none, some 36, some 37]),
  .inl (0, 56, 0),
  .inl (0, 24, 0),
  .inr (2, [none, none, none, none, some 39, some 40]),
  .inl (0, 56, 0),
  .inl (0, 24, 0),
  .inr (0, [some 42]),
  .inl (0, 81, 0),
  .inr (3, [some 44, some 45, none, none, none, none, none]),
  .inl (0, 100, 0),
  .inl (0, 100, 0),
  .inl (3, 2, 49),
  .inl (2, 2, 0),
  .inl (0, 18, 0),
  .inr (2, [none, none, none, none, some 50, some 51]),
  .inl (0, 56, 0),
  .inl (0, 24, 0),
  .inr (2, [none, none, none, none, some 53, some 54]),
  .inl (0, 56, 0),
  .inl (0, 24, 0),
  .inr (6, [none, none, none, some 56, some 57, none, some 58, some 59, none, some 60, some 61, some 62, none, some 63, none, none, none, none, none, none, none, some 64, none, some 65, none, some 66, some 67, none, none, some 68]),
  .inl (0, 82, 0),
  .inl (0, 820, 0),
  .inl (0, 164, 0),
  .inl (2, 2, 0),
  .inl (0, 6, 0),
  .inl (0, 6, 0),
  .inl (0, 6, 0),
  .inl (0, 120, 0),
  .inl (0, 56, 0),
  .inl (0, 16, 0),
  .inl (0, 128, 0),
  .inl (0, 128, 0),
  .inl (0, 81, 0)]
def tyK (t : Nat) : FieldType := match t with
  | 0 => .int
  | 1 => .char
  | 2 => .boolean
  | _ => .object "LampPlans$Plan"
def sl (b : Nat) (f : Nat → Int32) : Nat → List (Option Nat) → List Value
  | _, [] => []
  | i, none :: r => .int (f i) :: sl b f (i + 1) r
  | i, some a :: r => .ref (b + a) :: sl b f (i + 1) r
def contS (E : Ev) (s : Shp) (f : Nat → Int32) : va_E := match s with
  | .inl q => if q.1 < 3 then .inl (E.2.2.2 q.1, q.2.1, .inl f) else .inl (E.2.2.2 q.1, q.2.1, .inr (.inr (.inr (.inr (fun j => some (E.1 + (q.2.2 + 3 * j)))))))
  | .inr o => .inr (o.1, sl E.1 f 0 o.2)
def cellAt (E : Ev) (f : Nat → Int32) (k : Nat) (s : Shp) (H : Heap) : Prop := va_at (E.2.1, E.2.2.1) vwCl (E.1 + k, contS E s f) H
def Rep (n : Nat) (E : Ev) (σ : St) (H : Heap) : Prop := ∀ (k : Nat) (s : Shp), k < n → shpL[k]? = some s → cellAt E (σ k) k s H
def KK (E : Ev) (U : State) : Prop := va_K (E.2.1, E.2.2.1) vwCl [] U ∧ ∀ t, t < 4 → ArrOfT U (E.2.2.2 t) (tyK t) ∧ va_RA U (E.2.2.2 t) (tyK t)
theorem KK.moved {E : Ev} {u U : State} (hvm : u.vm.Alike U.vm) (h : KK E u) : KK E U := ⟨va_K.moved hvm h.1, fun t ht => ⟨arrOfT_moved hvm (h.2 t ht).1, (h.2 t ht).2.moved hvm⟩⟩
def Wd (n : Nat) (E : Ev) (σ : St) (U : State) : Prop := Rep n E σ U.heap ∧ KK E U
def rmL (d : Nat) : Room := { frames := d, cells := 0, slots := 0, locals := 36 * d }
def Qp (n : Nat) (E : Ev) (Po : Option Value → St → Prop) : Array Value → State → Outcome → State → Prop := fun _ st o t =>
  (∃ (v : Option Value) (σ' : St), o = .returned v ∧ Po v σ' ∧ Wd n E σ' t) ∧ va_F (fun q => E.1 ≤ q) st t
/-- a contract: with the store σ the method y answers and leaves a store, so that Po -/
def Ct (l : Launch) (y : MethodName) (cc : ByteArray) (maxL : Nat) (ret : Option FieldType) (d n : Nat) (E : Ev) (av : List Value) (σ : St) (Po : Option Value → St → Prop) : Prop :=
  Met l y (Cond.code y cc maxL ret :: UW) (rmL d) (va_Pc av (Wd n E σ)) (Qp n E Po) 0 0 (fun q => E.1 ≤ q)
def ro (v : Value) (σ : St) : Option Value → St → Prop := fun v' σ' => v' = some v ∧ σ' = σ
def upR (σ : St) (k : Nat) (g : Nat → Int32) : St := fun a => if a = k then g else σ a
abbrev up (σ : St) (k i : Nat) (v : Int32) : St := upR σ k (upd (σ k) i v)
theorem upR_s (σ : St) (k : Nat) (g : Nat → Int32) : upR σ k g k = g := if_pos rfl
theorem upR_n (σ : St) {k a : Nat} (g : Nat → Int32) (h : a ≠ k) : upR σ k g a = σ a := if_neg h
theorem upd_s (f : Nat → Int32) (k : Nat) (x : Int32) : upd f k x k = x := if_pos rfl
theorem upd_n (f : Nat → Int32) {k j : Nat} (x : Int32) (h : j ≠ k) : upd f k x j = f j := if_neg h
/-! locals by place -/
def asL : Nat → List (Option Value) → List (Nat × Value)
  | _, [] => []
  | i, none :: r => asL (i + 1) r
  | i, some v :: r => (i, v) :: asL (i + 1) r
theorem asL_mem : ∀ (lv : List (Option Value)) (i : Nat) (q : Nat × Value), q ∈ asL i lv ↔ i ≤ q.1 ∧ lv[q.1 - i]? = some (some q.2)
  | [], i, q => by simp [asL]
  | none :: r, i, q => by
    rw [show asL i (none :: r) = asL (i + 1) r from rfl, asL_mem r (i + 1) q]
    constructor
    · rintro ⟨h1, h2⟩
      refine ⟨by omega, ?_⟩
      rw [show q.1 - i = (q.1 - (i + 1)) + 1 by omega]
      exact h2
    · rintro ⟨h1, h2⟩
      by_cases he : q.1 = i
      · rw [he, Nat.sub_self] at h2
        simp at h2
      · refine ⟨by omega, ?_⟩
        rw [show q.1 - i = (q.1 - (i + 1)) + 1 by omega] at h2
        exact h2
  | some v :: r, i, q => by
    rw [show asL i (some v :: r) = (i, v) :: asL (i + 1) r from rfl, List.mem_cons, asL_mem r (i + 1) q]
    constructor
    · rintro (rfl | ⟨h1, h2⟩)
      · simp
      · refine ⟨by omega, ?_⟩
        rw [show q.1 - i = (q.1 - (i + 1)) + 1 by omega]
        exact h2
    · rintro ⟨h1, h2⟩
      by_cases he : q.1 = i
      · left
        rw [he, Nat.sub_self] at h2
        simp only [List.getElem?_cons_zero, Option.some.injEq] at h2
        rw [h2, ← he]
      · right
        refine ⟨by omega, ?_⟩
        rw [show q.1 - i = (q.1 - (i + 1)) + 1 by omega] at h2
        exact h2
def ct1 (lv : List (Option Value)) : Bool := lv.all (fun o => match o with | some v => v.category == 1 | none => true)
theorem asL_set {lv : List (Option Value)} {i : Nat} {v : Value} (hc : ct1 lv = true) : ∀ q ∈ asL 0 (lv.set i (some v)), q ∈ ((i, v) :: (asL 0 lv).filter (fun q => !(q.1 == i) && !(q.1 + 1 == i && q.2.category == 2))) := by
  intro q hq
  rw [asL_mem] at hq
  obtain ⟨-, h2⟩ := hq
  rw [Nat.sub_zero] at h2
  by_cases he : q.1 = i
  · rw [he, List.getElem?_set] at h2
    simp only [if_true] at h2
    split at h2
    · simp only [Option.some.injEq] at h2
      rw [List.mem_cons]; left
      rw [h2, ← he]
    · cases h2
  · rw [List.getElem?_set, if_neg (Ne.symm he)] at h2
    rw [List.mem_cons]; right
    rw [List.mem_filter]
    refine ⟨(asL_mem lv 0 q).mpr ⟨Nat.zero_le _, by rw [Nat.sub_zero]; exact h2⟩, ?_⟩
    have h3 := List.all_eq_true.mp hc _ (List.mem_of_getElem? h2)
    simp only [beq_iff_eq] at h3
    simp [he, h3]
theorem has_sub {ls : Array Slot} {nL : Nat} {l l' : List (Nat × Value)} (h : lv_has ls nL l) (hl : ∀ q ∈ l', q ∈ l) : lv_has ls nL l' := ⟨h.1, h.2.1, fun q hq => h.2.2 q (hl q hq)⟩
theorem has_at {ls : Array Slot} {nL : Nat} {lv : List (Option Value)} (h : lv_has ls nL (asL 0 lv)) {i : Nat} {v : Value} (hi : lv[i]? = some (some v)) : ls[i]? = some (.val v) := h.2.2 (i, v) ((asL_mem lv 0 (i, v)).mpr ⟨Nat.zero_le _, by rw [Nat.sub_zero]; exact hi⟩)
/-! ===== the judgement ===== -/
abbrev Cx : Type := Program × Launch × Env × Room × State × MethodId × Array Value × List Frame × Method × Code × (State → Prop) × Nat × Ev × Nat
def Cx.p (X : Cx) : Program := X.1
def Cx.l (X : Cx) : Launch := X.2.1
def Cx.e (X : Cx) : Env := X.2.2.1
def Cx.R (X : Cx) : Room := X.2.2.2.1
def Cx.s (X : Cx) : State := X.2.2.2.2.1
def Cx.m (X : Cx) : MethodId := X.2.2.2.2.2.1
def Cx.args (X : Cx) : Array Value := X.2.2.2.2.2.2.1
def Cx.below (X : Cx) : List Frame := X.2.2.2.2.2.2.2.1
def Cx.meth (X : Cx) : Method := X.2.2.2.2.2.2.2.2.1
def Cx.c (X : Cx) : Code := X.2.2.2.2.2.2.2.2.2.1
def Cx.Q (X : Cx) : State → Prop := X.2.2.2.2.2.2.2.2.2.2.1
def Cx.n (X : Cx) : Nat := X.2.2.2.2.2.2.2.2.2.2.2.1
def Cx.E (X : Cx) : Ev := X.2.2.2.2.2.2.2.2.2.2.2.2.1
def Cx.nL (X : Cx) : Nat := X.2.2.2.2.2.2.2.2.2.2.2.2.2
def WX (X : Cx) (H : Heap) (locs : List Loc) (pc : Nat) (ls : Array Slot) (st : List Value) : Prop := W X.p X.l X.e X.R X.s X.m X.args X.below X.meth X.c H locs 0 0 X.Q (F0 X.m pc ls st)
def J (X : Cx) (pc : Nat) (lv : List (Option Value)) (st : List Value) (σ : St) : Prop := ∀ (H : Heap) (locs : List Loc) (ls : Array Slot), Rep X.n X.E σ H → va_S (fun q => X.E.1 ≤ q) X.s.heap H locs → lv_has ls X.nL (asL 0 lv) → WX X H locs pc ls st
/-- what is fixed in a method's walk: the machine, the code, the words, the classes, the room of D levels -/
def Fx (X : Cx) (cc : ByteArray) (own : String) (D : Nat) : Prop := CallFix X.p X.m X.c cc X.nL X.s X.args UW own ∧ KK X.E X.s ∧ D ≤ X.R.frames ∧ 36 * D ≤ X.R.locals
def Rt (X : Cx) (ret : Option FieldType) (Po : Option Value → St → Prop) : Prop := X.meth.sig.returnType = ret ∧ X.meth.locks = false ∧ X.Q = MQ X.below (Qp X.n X.E Po) X.args X.s 0 0 (fun q => X.E.1 ≤ q)
theorem Ct.of {l : Launch} {y : MethodName} {cc : ByteArray} {maxL : Nat} {ret : Option FieldType} {d n : Nat} {E : Ev} {av : List Value} {σ : St} {Po : Option Value → St → Prop} {lv0 : List (Option Value)} (hy : plainName y.cls = true) (hlen : (lg_sl av).length ≤ maxL) (hlv : asL 0 lv0 = lv_args 0 av)
    (body : ∀ X : Cx, X.n = n → X.E = E → X.l = l → X.nL = maxL → Fx X cc y.cls d → Rt X ret Po → J X 0 lv0 [] σ) : Ct l y cc maxL ret d n E av σ Po := by
  refine Met.ofW (cc := cc) (maxL := maxL) (ret := ret) hy rfl ?_
  intro p e s m args below meth c s₁ B hml hv
  obtain ⟨rfl, hR, hK⟩ := hv
  have hts := atoms_spec (ws := Cond.code y cc maxL ret :: UW) B.pre
  have hl := lv_entry av (n := maxL) hlen
  rw [lg_entry_eq]
  rw [← hlv] at hl
  exact body (p, l, e, rmL d, s, m, av.toArray, below, meth, c, MQ below (Qp n E Po) av.toArray s 0 0 (fun q => E.1 ≤ q), n, E, maxL) rfl rfl rfl rfl ⟨⟨B.exec, B.bytes, hml, findClass_of_methodNamed B.named, fun w hw => hts w (List.mem_cons_of_mem _ hw)⟩, hK, Nat.le_refl _, Nat.le_refl _⟩ ⟨B.returns, B.notSynchronized, rfl⟩ _ _ _ hR va_S.rf hl
section JR
variable {X : Cx} {cc : ByteArray} {own : String} {D pc pc' : Nat} {lv lv' : List (Option Value)} {st : List Value} {σ : St}
theorem j_int {x y : Int32} (h : x = y) (k : J X pc lv (.int y :: st) σ) : J X pc lv (.int x :: st) σ := by rw [h]; exact k
theorem j_int2 {x y : Int32} {v : Value} (h : x = y) (k : J X pc lv (v :: .int y :: st) σ) : J X pc lv (v :: .int x :: st) σ := by rw [h]; exact k
theorem j_name {x : Int32} (k : ∀ y : Int32, y = x → J X pc lv (.int y :: st) σ) : J X pc lv (.int x :: st) σ := k x rfl
theorem j_store {σ' : St} (h : σ = σ') (k : J X pc lv st σ') : J X pc lv st σ := by rw [h]; exact k
theorem j_iconst (F : Fx X cc own D) {z : Int} {v : Int32} (d : decode cc pc = .ok (.iconst z, 1)) (hp : pc + 1 = pc') (hv : Int32.ofInt z = v) (k : J X pc' lv (.int v :: st) σ) : J X pc lv st σ :=
  fun H locs ls a b h => lv_iconst F.1.1 F.1.2.1 d hv (by subst hp; exact k H locs ls a b h)
theorem j_bipush (F : Fx X cc own D) {z : Int} {v : Int32} (d : decode cc pc = .ok (.bipush z, 2)) (hp : pc + 2 = pc') (hv : (Int8.ofInt z).toInt32 = v) (k : J X pc' lv (.int v :: st) σ) : J X pc lv st σ :=
  fun H locs ls a b h => lv_bipush F.1.1 F.1.2.1 d hv (by subst hp; exact k H locs ls a b h)
theorem j_sipush (F : Fx X cc own D) {z : Int} {v : Int32} (d : decode cc pc = .ok (.sipush z, 3)) (hp : pc + 3 = pc') (hv : (Int16.ofInt z).toInt32 = v) (k : J X pc' lv (.int v :: st) σ) : J X pc lv st σ :=
  fun H locs ls a b h => lv_sipush F.1.1 F.1.2.1 d hv (by subst hp; exact k H locs ls a b h)
theorem j_iload_n (F : Fx X cc own D) {i : Fin 4} {x : Int32} (d : decode cc pc = .ok (.iload_n i, 1)) (hp : pc + 1 = pc') (hi : lv[(i : Nat)]? = some (some (.int x))) (k : J X pc' lv (.int x :: st) σ) : J X pc lv st σ :=
  fun H locs ls a b h => lv_iload_n F.1.1 F.1.2.1 d rfl (has_at h hi) (by subst hp; exact k H locs ls a b h)
theorem j_iload (F : Fx X cc own D) {i : Nat} {x : Int32} (d : decode cc pc = .ok (.iload i, 2)) (hp : pc + 2 = pc') (hi : lv[i]? = some (some (.int x))) (k : J X pc' lv (.int x :: st) σ) : J X pc lv st σ :=
  fun H locs ls a b h => lv_iload F.1.1 F.1.2.1 d (has_at h hi) (by subst hp; exact k H locs ls a b h)
theorem j_aload_n (F : Fx X cc own D) {i : Fin 4} {x : Nat} (d : decode cc pc = .ok (.aload_n i, 1)) (hp : pc + 1 = pc') (hi : lv[(i : Nat)]? = some (some (.ref x))) (k : J X pc' lv (.ref x :: st) σ) : J X pc lv st σ :=
  fun H locs ls a b h => lv_aload_n F.1.1 F.1.2.1 d rfl (has_at h hi) (by subst hp; exact k H locs ls a b h)
theorem j_istore_n (F : Fx X cc own D) {i : Fin 4} {x : Int32} (d : decode cc pc = .ok (.istore_n i, 1)) (hp : pc + 1 = pc') (hn : (i : Nat) < X.nL) (hc : ct1 lv = true) (hl : lv.set (i : Nat) (some (.int x)) = lv') (k : J X pc' lv' st σ) : J X pc lv (.int x :: st) σ :=
  fun H locs ls a b h => lv_istore_n F.1.1 F.1.2.1 d rfl h hn rfl (fun ls' h' => by subst hp; exact k H locs ls' a b (has_sub h' (by rw [← hl]; exact asL_set hc)))
theorem j_istore (F : Fx X cc own D) {i : Nat} {x : Int32} (d : decode cc pc = .ok (.istore i, 2)) (hp : pc + 2 = pc') (hn : i < X.nL) (hc : ct1 lv = true) (hl : lv.set i (some (.int x)) = lv') (k : J X pc' lv' st σ) : J X pc lv (.int x :: st) σ :=
  fun H locs ls a b h => lv_istore F.1.1 F.1.2.1 d h hn rfl (fun ls' h' => by subst hp; exact k H locs ls' a b (has_sub h' (by rw [← hl]; exact asL_set hc)))
theorem j_iinc (F : Fx X cc own D) {i : Nat} {z : Int} {x v : Int32} (d : decode cc pc = .ok (.iinc i z, 3)) (hp : pc + 3 = pc') (hi : lv[i]? = some (some (.int x))) (hv : x + Int32.ofInt z = v) (hn : i < X.nL) (hc : ct1 lv = true) (hl : lv.set i (some (.int v)) = lv') (k : J X pc' lv' st σ) : J X pc lv st σ := by
  intro H locs ls a b h
  obtain ⟨j, hj⟩ := List.getElem?_of_mem ((asL_mem lv 0 (i, .int x)).mpr ⟨Nat.zero_le _, by rw [Nat.sub_zero]; exact hi⟩)
  exact lv_iinc F.1.1 F.1.2.1 d h hj hv hn rfl (fun ls' h' => by subst hp; exact k H locs ls' a b (has_sub h' (by rw [← hl]; exact asL_set hc)))
theorem j_iadd (F : Fx X cc own D) {x y : Int32} (d : decode cc pc = .ok (.iadd, 1)) (hp : pc + 1 = pc') (k : J X pc' lv (.int (x + y) :: st) σ) : J X pc lv (.int y :: .int x :: st) σ :=
  fun H locs ls a b h => lv_iadd F.1.1 F.1.2.1 d (by subst hp; exact k H locs ls a b h)
theorem j_isub (F : Fx X cc own D) {x y : Int32} (d : decode cc pc = .ok (.isub, 1)) (hp : pc + 1 = pc') (k : J X pc' lv (.int (x - y) :: st) σ) : J X pc lv (.int y :: .int x :: st) σ :=
  fun H locs ls a b h => lv_isub F.1.1 F.1.2.1 d (by subst hp; exact k H locs ls a b h)
theorem j_imul (F : Fx X cc own D) {x y : Int32} (d : decode cc pc = .ok (.imul, 1)) (hp : pc + 1 = pc') (k : J X pc' lv (.int (x * y) :: st) σ) : J X pc lv (.int y :: .int x :: st) σ :=
  fun H locs ls a b h => lv_imul F.1.1 F.1.2.1 d (by subst hp; exact k H locs ls a b h)
theorem j_iand (F : Fx X cc own D) {x y : Int32} (d : decode cc pc = .ok (.iand, 1)) (hp : pc + 1 = pc') (k : J X pc' lv (.int (x &&& y) :: st) σ) : J X pc lv (.int y :: .int x :: st) σ :=
  fun H locs ls a b h => lv_iand F.1.1 F.1.2.1 d (by subst hp; exact k H locs ls a b h)
theorem j_ior (F : Fx X cc own D) {x y : Int32} (d : decode cc pc = .ok (.ior, 1)) (hp : pc + 1 = pc') (k : J X pc' lv (.int (x ||| y) :: st) σ) : J X pc lv (.int y :: .int x :: st) σ :=
  fun H locs ls a b h => lv_ior F.1.1 F.1.2.1 d (by subst hp; exact k H locs ls a b h)
theorem j_ixor (F : Fx X cc own D) {x y : Int32} (d : decode cc pc = .ok (.ixor, 1)) (hp : pc + 1 = pc') (k : J X pc' lv (.int (x ^^^ y) :: st) σ) : J X pc lv (.int y :: .int x :: st) σ :=
  fun H locs ls a b h => lv_ixor F.1.1 F.1.2.1 d (by subst hp; exact k H locs ls a b h)
theorem j_idiv (F : Fx X cc own D) {x y : Int32} (d : decode cc pc = .ok (.idiv, 1)) (hp : pc + 1 = pc') (hne : ¬ y = 0) (k : J X pc' lv (.int (x / y) :: st) σ) : J X pc lv (.int y :: .int x :: st) σ :=
  fun H locs ls a b h => lv_idiv F.1.1 F.1.2.1 d hne (by subst hp; exact k H locs ls a b h)
theorem j_irem (F : Fx X cc own D) {x y : Int32} (d : decode cc pc = .ok (.irem, 1)) (hp : pc + 1 = pc') (hne : ¬ y = 0) (k : J X pc' lv (.int (x - x / y * y) :: st) σ) : J X pc lv (.int y :: .int x :: st) σ :=
  fun H locs ls a b h => lv_irem F.1.1 F.1.2.1 d hne (by subst hp; exact k H locs ls a b h)
theorem j_ishl (F : Fx X cc own D) {x y : Int32} (d : decode cc pc = .ok (.ishl, 1)) (hp : pc + 1 = pc') (k : J X pc' lv (.int (x <<< (y &&& 31)) :: st) σ) : J X pc lv (.int y :: .int x :: st) σ :=
  fun H locs ls a b h => lv_ishl F.1.1 F.1.2.1 d (by subst hp; exact k H locs ls a b h)
theorem j_ishr (F : Fx X cc own D) {x y : Int32} (d : decode cc pc = .ok (.ishr, 1)) (hp : pc + 1 = pc') (k : J X pc' lv (.int (x >>> (y &&& 31)) :: st) σ) : J X pc lv (.int y :: .int x :: st) σ :=
  fun H locs ls a b h => lv_ishr F.1.1 F.1.2.1 d (by subst hp; exact k H locs ls a b h)
theorem j_iushr (F : Fx X cc own D) {x y v : Int32} (d : decode cc pc = .ok (.iushr, 1)) (hp : pc + 1 = pc') (hv : (x.toUInt32 >>> (y.toUInt32 &&& Int32.toUInt32 31)).toInt32 = v) (k : J X pc' lv (.int v :: st) σ) : J X pc lv (.int y :: .int x :: st) σ :=
  fun H locs ls a b h => lv_iushr F.1.1 F.1.2.1 d hv (by subst hp; exact k H locs ls a b h)
theorem j_ineg (F : Fx X cc own D) {x : Int32} (d : decode cc pc = .ok (.ineg, 1)) (hp : pc + 1 = pc') (k : J X pc' lv (.int (-x) :: st) σ) : J X pc lv (.int x :: st) σ :=
  fun H locs ls a b h => lv_ineg F.1.1 F.1.2.1 d (by subst hp; exact k H locs ls a b h)
theorem j_i2c (F : Fx X cc own D) {x v : Int32} (d : decode cc pc = .ok (.i2c, 1)) (hp : pc + 1 = pc') (hv : (x.toUInt32 % 65536).toInt32 = v) (k : J X pc' lv (.int v :: st) σ) : J X pc lv (.int x :: st) σ :=
  fun H locs ls a b h => lv_i2c F.1.1 F.1.2.1 d hv (by subst hp; exact k H locs ls a b h)
theorem j_ldcw (F : Fx X cc own D) {index : Nat} {v : Int32} (hw : Cond.constant own index v ∈ UW) (d : decode cc pc = .ok (.ldc_w index, 3)) (hp : pc + 3 = pc') (k : J X pc' lv (.int v :: st) σ) : J X pc lv st σ :=
  fun H locs ls a b h => lv_ldcw F.1.1 F.1.2.1 F.1.2.2.2.1 (F.1.2.2.2.2 _ hw) d (by subst hp; exact k H locs ls a b h)
theorem j_dup (F : Fx X cc own D) {v : Value} (d : decode cc pc = .ok (.dup, 1)) (hp : pc + 1 = pc') (hv : v.category = 1) (k : J X pc' lv (v :: v :: st) σ) : J X pc lv (v :: st) σ :=
  fun H locs ls a b h => lv_dup F.1.1 F.1.2.1 d hv (by subst hp; exact k H locs ls a b h)
theorem j_dup2 (F : Fx X cc own D) {v w : Value} (d : decode cc pc = .ok (.dup2, 1)) (hp : pc + 1 = pc') (hv : v.category = 1) (hw : w.category = 1) (k : J X pc' lv (v :: w :: v :: w :: st) σ) : J X pc lv (v :: w :: st) σ :=
  fun H locs ls a b h => lv_dup2_11 F.1.1 F.1.2.1 d hv hw (by subst hp; exact k H locs ls a b h)
theorem j_goto (F : Fx X cc own D) {off : Int} (d : decode cc pc = .ok (.goto off, 3)) (ht : (pc : Int) + off = (pc' : Int)) (k : J X pc' lv st σ) : J X pc lv st σ :=
  fun H locs ls a b h => lv_goto F.1.1 F.1.2.1 d ht (k H locs ls a b h)
theorem j_if_eq (F : Fx X cc own D) {x : Int32} {off : Int} {tgt : Nat} (d : decode cc pc = .ok (.ifCond .eq off, 3)) (ht : (pc : Int) + off = (tgt : Int)) (hp : pc + 3 = pc') (kt : x = 0 → J X tgt lv st σ) (kf : ¬ x = 0 → J X pc' lv st σ) : J X pc lv (.int x :: st) σ :=
  fun H locs ls a b h => lv_if_eq F.1.1 F.1.2.1 d ht (fun q => kt q H locs ls a b h) (fun q => by subst hp; exact kf q H locs ls a b h)
theorem j_icmp_eq (F : Fx X cc own D) {x y : Int32} {off : Int} {tgt : Nat} (d : decode cc pc = .ok (.if_icmp .eq off, 3)) (ht : (pc : Int) + off = (tgt : Int)) (hp : pc + 3 = pc') (kt : x = y → J X tgt lv st σ) (kf : ¬ x = y → J X pc' lv st σ) : J X pc lv (.int y :: .int x :: st) σ :=
  fun H locs ls a b h => lv_icmp_eq F.1.1 F.1.2.1 d ht (fun q => kt q H locs ls a b h) (fun q => by subst hp; exact kf q H locs ls a b h)
theorem j_if_ne (F : Fx X cc own D) {x : Int32} {off : Int} {tgt : Nat} (d : decode cc pc = .ok (.ifCond .ne off, 3)) (ht : (pc : Int) + off = (tgt : Int)) (hp : pc + 3 = pc') (kt : ¬ x = 0 → J X tgt lv st σ) (kf : x = 0 → J X pc' lv st σ) : J X pc lv (.int x :: st) σ :=
  fun H locs ls a b h => lv_if_ne F.1.1 F.1.2.1 d ht (fun q => kt q H locs ls a b h) (fun q => by subst hp; exact kf q H locs ls a b h)
theorem j_icmp_ne (F : Fx X cc own D) {x y : Int32} {off : Int} {tgt : Nat} (d : decode cc pc = .ok (.if_icmp .ne off, 3)) (ht : (pc : Int) + off = (tgt : Int)) (hp : pc + 3 = pc') (kt : ¬ x = y → J X tgt lv st σ) (kf : x = y → J X pc' lv st σ) : J X pc lv (.int y :: .int x :: st) σ :=
  fun H locs ls a b h => lv_icmp_ne F.1.1 F.1.2.1 d ht (fun q => kt q H locs ls a b h) (fun q => by subst hp; exact kf q H locs ls a b h)
theorem j_if_lt (F : Fx X cc own D) {x : Int32} {off : Int} {tgt : Nat} (d : decode cc pc = .ok (.ifCond .lt off, 3)) (ht : (pc : Int) + off = (tgt : Int)) (hp : pc + 3 = pc') (kt : x < 0 → J X tgt lv st σ) (kf : ¬ x < 0 → J X pc' lv st σ) : J X pc lv (.int x :: st) σ :=
  fun H locs ls a b h => lv_if_lt F.1.1 F.1.2.1 d ht (fun q => kt q H locs ls a b h) (fun q => by subst hp; exact kf q H locs ls a b h)
theorem j_icmp_lt (F : Fx X cc own D) {x y : Int32} {off : Int} {tgt : Nat} (d : decode cc pc = .ok (.if_icmp .lt off, 3)) (ht : (pc : Int) + off = (tgt : Int)) (hp : pc + 3 = pc') (kt : x < y → J X tgt lv st σ) (kf : ¬ x < y → J X pc' lv st σ) : J X pc lv (.int y :: .int x :: st) σ :=
  fun H locs ls a b h => lv_icmp_lt F.1.1 F.1.2.1 d ht (fun q => kt q H locs ls a b h) (fun q => by subst hp; exact kf q H locs ls a b h)
theorem j_if_ge (F : Fx X cc own D) {x : Int32} {off : Int} {tgt : Nat} (d : decode cc pc = .ok (.ifCond .ge off, 3)) (ht : (pc : Int) + off = (tgt : Int)) (hp : pc + 3 = pc') (kt : 0 ≤ x → J X tgt lv st σ) (kf : ¬ 0 ≤ x → J X pc' lv st σ) : J X pc lv (.int x :: st) σ :=
  fun H locs ls a b h => lv_if_ge F.1.1 F.1.2.1 d ht (fun q => kt q H locs ls a b h) (fun q => by subst hp; exact kf q H locs ls a b h)
theorem j_icmp_ge (F : Fx X cc own D) {x y : Int32} {off : Int} {tgt : Nat} (d : decode cc pc = .ok (.if_icmp .ge off, 3)) (ht : (pc : Int) + off = (tgt : Int)) (hp : pc + 3 = pc') (kt : y ≤ x → J X tgt lv st σ) (kf : ¬ y ≤ x → J X pc' lv st σ) : J X pc lv (.int y :: .int x :: st) σ :=
  fun H locs ls a b h => lv_icmp_ge F.1.1 F.1.2.1 d ht (fun q => kt q H locs ls a b h) (fun q => by subst hp; exact kf q H locs ls a b h)
theorem j_if_gt (F : Fx X cc own D) {x : Int32} {off : Int} {tgt : Nat} (d : decode cc pc = .ok (.ifCond .gt off, 3)) (ht : (pc : Int) + off = (tgt : Int)) (hp : pc + 3 = pc') (kt : 0 < x → J X tgt lv st σ) (kf : ¬ 0 < x → J X pc' lv st σ) : J X pc lv (.int x :: st) σ :=
  fun H locs ls a b h => lv_if_gt F.1.1 F.1.2.1 d ht (fun q => kt q H locs ls a b h) (fun q => by subst hp; exact kf q H locs ls a b h)
theorem j_icmp_gt (F : Fx X cc own D) {x y : Int32} {off : Int} {tgt : Nat} (d : decode cc pc = .ok (.if_icmp .gt off, 3)) (ht : (pc : Int) + off = (tgt : Int)) (hp : pc + 3 = pc') (kt : y < x → J X tgt lv st σ) (kf : ¬ y < x → J X pc' lv st σ) : J X pc lv (.int y :: .int x :: st) σ :=
  fun H locs ls a b h => lv_icmp_gt F.1.1 F.1.2.1 d ht (fun q => kt q H locs ls a b h) (fun q => by subst hp; exact kf q H locs ls a b h)
theorem j_if_le (F : Fx X cc own D) {x : Int32} {off : Int} {tgt : Nat} (d : decode cc pc = .ok (.ifCond .le off, 3)) (ht : (pc : Int) + off = (tgt : Int)) (hp : pc + 3 = pc') (kt : x ≤ 0 → J X tgt lv st σ) (kf : ¬ x ≤ 0 → J X pc' lv st σ) : J X pc lv (.int x :: st) σ :=
  fun H locs ls a b h => lv_if_le F.1.1 F.1.2.1 d ht (fun q => kt q H locs ls a b h) (fun q => by subst hp; exact kf q H locs ls a b h)
theorem j_icmp_le (F : Fx X cc own D) {x y : Int32} {off : Int} {tgt : Nat} (d : decode cc pc = .ok (.if_icmp .le off, 3)) (ht : (pc : Int) + off = (tgt : Int)) (hp : pc + 3 = pc') (kt : x ≤ y → J X tgt lv st σ) (kf : ¬ x ≤ y → J X pc' lv st σ) : J X pc lv (.int y :: .int x :: st) σ :=
  fun H locs ls a b h => lv_icmp_le F.1.1 F.1.2.1 d ht (fun q => kt q H locs ls a b h) (fun q => by subst hp; exact kf q H locs ls a b h)
end JR
end
section
/-! ===== rows of the heap, calls, returns ===== -/
theorem sl_int {b : Nat} {f : Nat → Int32} : ∀ {ds : List (Option Nat)} {i j : Nat}, ds[j]? = some none → (sl b f i ds)[j]? = some (.int (f (i + j)))
  | [], _, _, h => by simp at h
  | none :: r, i, 0, _ => rfl
  | some a :: r, i, 0, h => by simp at h
  | none :: r, i, j + 1, h => by
    show (sl b f (i + 1) r)[j]? = _
    rw [sl_int (ds := r) (i := i + 1) (j := j) h, show i + 1 + j = i + (j + 1) by omega]
  | some a :: r, i, j + 1, h => by
    show (sl b f (i + 1) r)[j]? = _
    rw [sl_int (ds := r) (i := i + 1) (j := j) h, show i + 1 + j = i + (j + 1) by omega]
theorem sl_ref {b : Nat} {f : Nat → Int32} : ∀ {ds : List (Option Nat)} {i j a : Nat}, ds[j]? = some (some a) → (sl b f i ds)[j]? = some (.ref (b + a))
  | [], _, _, _, h => by simp at h
  | none :: r, i, 0, _, h => by simp at h
  | some c :: r, i, 0, a, h => by
    simp at h
    subst h
    rfl
  | none :: r, i, j + 1, _, h => sl_ref (ds := r) (i := i + 1) (j := j) h
  | some _ :: r, i, j + 1, _, h => sl_ref (ds := r) (i := i + 1) (j := j) h
theorem sl_far {b : Nat} {f : Nat → Int32} {v : Int32} : ∀ {ds : List (Option Nat)} {i j : Nat}, j < i → sl b f i ds = sl b (upd f j v) i ds
  | [], _, _, _ => rfl
  | none :: r, i, j, h => by
    show _ :: _ = _ :: _
    rw [upd_n f v (show i ≠ j by omega), sl_far (ds := r) (i := i + 1) (j := j) (by omega)]
  | some a :: r, i, j, h => by
    show _ :: _ = _ :: _
    rw [sl_far (ds := r) (i := i + 1) (j := j) (by omega)]
theorem sl_upd {b : Nat} {f : Nat → Int32} {v : Int32} : ∀ {ds : List (Option Nat)} {i j : Nat}, ds[j]? = some none → (sl b f i ds).set j (.int v) = sl b (upd f (i + j) v) i ds
  | [], _, _, h => by simp at h
  | none :: r, i, 0, _ => by
    show Value.int v :: _ = Value.int (upd f i v i) :: sl b (upd f i v) (i + 1) r
    rw [upd_s]
    congr 1
    exact sl_far (by omega)
  | some a :: r, i, 0, h => by simp at h
  | none :: r, i, j + 1, h => by
    show _ :: (sl b f (i + 1) r).set j _ = _ :: _
    rw [sl_upd (ds := r) (i := i + 1) (j := j) h, show i + 1 + j = i + (j + 1) by omega, upd_n _ _ (show i ≠ i + (j + 1) by omega)]
  | some a :: r, i, j + 1, h => by
    show _ :: (sl b f (i + 1) r).set j _ = _ :: _
    rw [sl_upd (ds := r) (i := i + 1) (j := j) h, show i + 1 + j = i + (j + 1) by omega]
theorem sl_len {b : Nat} {f : Nat → Int32} : ∀ {ds : List (Option Nat)} {i : Nat}, (sl b f i ds).length = ds.length
  | [], _ => rfl
  | none :: r, i => by show (sl b f (i + 1) r).length + 1 = _; rw [sl_len]; rfl
  | some _ :: r, i => by show (sl b f (i + 1) r).length + 1 = _; rw [sl_len]; rfl
theorem Rep.row {n : Nat} {E : Ev} {σ : St} {H H1 : Heap} (h : Rep n E σ H) {k : Nat} {s : Shp} {g : Nat → Int32} (hs : shpL[k]? = some s) (hc : cellAt E g k s H1) (oq : ∀ q : Nat, q ≠ E.1 + k → H1[q]? = H[q]?) : Rep n E (upR σ k g) H1 := by
  intro j s' hj hs'
  by_cases he : j = k
  · subst he
    rw [hs] at hs'
    cases hs'
    rw [upR_s]
    exact hc
  · rw [upR_n σ g he]
    exact (h j s' hj hs').kept (oq _ (by show E.1 + j ≠ E.1 + k; omega))
def vwN (ci : Nat) (C : String) (T : u_T) (N : Nat) : Prop := vwCl[ci]? = some (C, T, N)
section JH
variable {X : Cx} {cc : ByteArray} {own : String} {D pc pc' : Nat} {lv lv' : List (Option Value)} {st : List Value} {σ : St}
theorem j_getV (F : Fx X cc own D) {C : String} {T : u_T} {N ci k i index : Nat} {ds : List (Option Nat)} {v : Value} (hc : vwCl[ci]? = some (C, T, N)) (hin : ∀ w ∈ u_ws C T N, w ∈ UW) (hi : i < N) (hw : Cond.fieldLink own index (T i).1 (T i).2.1 (T i).2.2.1 ∈ UW) (hk : k < X.n) (hs : shpL[k]? = some (.inr (ci, ds))) (hv : (sl X.E.1 (σ k) 0 ds)[i]? = some v) (d : decode cc pc = .ok (.getfield index, 3)) (hp : pc + 3 = pc') (kk : J X pc' lv (v :: st) σ) : J X pc lv (.ref (X.E.1 + k) :: st) σ := by
  intro H locs ls a b h
  have hP : va_P (X.E.2.1, X.E.2.2.1) vwCl [(X.E.1 + k, .inr (ci, sl X.E.1 (σ k) 0 ds))] H := fun q x hx => by
    have hz : q < 1 := (List.getElem?_eq_some_iff.mp hx).1
    rw [show q = 0 by omega] at hx
    cases hx
    exact a k _ hk hs
  subst hp
  exact va_get F.1.1 F.1.2.1 F.1.2.2.2.2 hin F.1.2.2.2.1 F.2.1.1 hP 0 rfl hc i hi (F.1.2.2.2.2 _ hw) (fun _ h9 => h9) hv d (kk H locs ls a b h)
theorem j_getI (F : Fx X cc own D) {C : String} {T : u_T} {N ci k i index : Nat} {ds : List (Option Nat)} (hc : vwCl[ci]? = some (C, T, N)) (hin : ∀ w ∈ u_ws C T N, w ∈ UW) (hi : i < N) (hw : Cond.fieldLink own index (T i).1 (T i).2.1 (T i).2.2.1 ∈ UW) (hk : k < X.n) (hs : shpL[k]? = some (.inr (ci, ds))) (hv : ds[i]? = some none) (d : decode cc pc = .ok (.getfield index, 3)) (hp : pc + 3 = pc') (kk : J X pc' lv (.int (σ k i) :: st) σ) : J X pc lv (.ref (X.E.1 + k) :: st) σ :=
  j_getV F hc hin hi hw hk hs (by rw [sl_int hv, Nat.zero_add]) d hp kk
theorem j_getR (F : Fx X cc own D) {C : String} {T : u_T} {N ci k i r index : Nat} {ds : List (Option Nat)} (hc : vwCl[ci]? = some (C, T, N)) (hin : ∀ w ∈ u_ws C T N, w ∈ UW) (hi : i < N) (hw : Cond.fieldLink own index (T i).1 (T i).2.1 (T i).2.2.1 ∈ UW) (hk : k < X.n) (hs : shpL[k]? = some (.inr (ci, ds))) (hv : ds[i]? = some (some r)) (d : decode cc pc = .ok (.getfield index, 3)) (hp : pc + 3 = pc') (kk : J X pc' lv (.ref (X.E.1 + r) :: st) σ) : J X pc lv (.ref (X.E.1 + k) :: st) σ :=
  j_getV F hc hin hi hw hk hs (sl_ref hv) d hp kk
theorem j_putI (F : Fx X cc own D) {C : String} {T : u_T} {N ci k i index : Nat} {ds : List (Option Nat)} {v : Int32} (ty0 : Nat → FieldType) (hty : ∀ k, k < N → parseFieldDescriptor (T k).2.2.1 = some (ty0 k)) (hnm : ∀ a, a < N → ∀ b, b < N → a ≠ b → (T a).2.1 ≠ (T b).2.1) (hc : vwCl[ci]? = some (C, T, N)) (hin : ∀ w ∈ u_ws C T N, w ∈ UW) (hi : i < N) (hfin : (T i).2.2.2 = false) (hd : parseFieldDescriptor (T i).2.2.1 = some .int) (hw : Cond.fieldLink own index (T i).1 (T i).2.1 (T i).2.2.1 ∈ UW) (hk : k < X.n) (hs : shpL[k]? = some (.inr (ci, ds))) (hv : ds[i]? = some none) (d : decode cc pc = .ok (.putfield index, 3)) (hp : pc + 3 = pc') (kk : J X pc' lv st (up σ k i v)) : J X pc lv (.int v :: .ref (X.E.1 + k) :: st) σ := by
  intro H locs ls a b h
  subst hp
  have hts := F.1.2.2.2.2
  have hap := va_apart (own := own) hts hin ty0 hty hnm F.2.1.1 hc
  obtain ⟨r, h1, cell, q1, q2, q3, q4⟩ := a k _ hk hs
  have hr : r = (C, T, N) := Option.some.inj (h1.symm.trans hc)
  subst hr
  obtain ⟨hS, hfc, kC, hkC, hkind⟩ := F.2.1.1.1 ci _ hc
  obtain ⟨cf, kf, fi, f, hfi, hsl⟩ := hS i hi
  have hlay := hts _ (hin _ (u_in_lay hi))
  unfold u_lay at hlay
  rw [if_neg (by rw [hfin]; decide)] at hlay
  have hst := (u_facts hfc hkC (u_lays hts hin hi) hfi).1
  have h6 := u_store hfc hkC hkind hlay hfi hd (v := .int v) rfl rfl
  refine W.putK F.1.1 F.1.2.1 (f := f) ⟨F.1.2.2.2.1, hts _ hw, ⟨_, _, _, hfi⟩, hst⟩ (by rw [q2]; exact h6) q1 q3 (by rw [hsl]; exact k2_hasslot (q4 i hi)) rfl rfl d fun H' e1 e2 e3 => ?_
  rw [hsl] at e1 ⊢
  refine kk H' _ ls (a.row hs ?_ e3) (b.put e2 e3 (Nat.le_add_right _ _)) h
  refine ⟨_, hc, t_OB.to (V := updV (vp_V (sl X.E.1 (σ k) 0 ds)) i (.int v)) ⟨_, e1, q2, q3, t_set q4 hap hi _⟩ (fun j _ => ?_)⟩
  rw [vp_updV_set (by rw [sl_len]; exact (List.getElem?_eq_some_iff.mp hv).1), sl_upd hv, Nat.zero_add]
theorem in_nI {a N : Nat} (h : a < N) (hN : N < 2 ^ 31) (cA : ClassId) (z : Nat → Value) : ¬ (nI a < 0 ∨ (arrV cA N z).slots.size ≤ (nI a).toNatClampNeg) := by
  rw [arrV_size]; exact nI_in h hN
theorem at_nI {a N : Nat} (h : a < N) (hN : N < 2 ^ 31) (cA : ClassId) (z : Nat → Value) : (arrV cA N z).slots[(nI a).toNatClampNeg]? = some (z a) := by
  rw [nI_clamp (by omega), arrV_read _ _ h]
theorem cell_arr {E : Ev} {f : Nat → Int32} {k t N r : Nat} {H : Heap} (ht : t < 3) (h : cellAt E f k (.inl (t, N, r)) H) : H[E.1 + k]? = some (arrV (E.2.2.2 t) N (fun j => .int (f j))) := by
  unfold cellAt contS at h
  simp only [if_pos ht] at h
  exact h
theorem arr_cell {E : Ev} {f : Nat → Int32} {k t N r : Nat} {H : Heap} (ht : t < 3) (h : H[E.1 + k]? = some (arrV (E.2.2.2 t) N (fun j => .int (f j)))) : cellAt E f k (.inl (t, N, r)) H := by
  unfold cellAt contS
  simp only [if_pos ht]
  exact h
theorem cell_ref {E : Ev} {f : Nat → Int32} {k N r : Nat} {H : Heap} (h : cellAt E f k (.inl (3, N, r)) H) : H[E.1 + k]? = some (arrV (E.2.2.2 3) N (fun j => .ref (E.1 + (r + 3 * j)))) := by
  exact h
theorem j_iaload (F : Fx X cc own D) {k N r a : Nat} {i : Int32} (hk : k < X.n) (hs : shpL[k]? = some (.inl (0, N, r))) (hi : i = nI a) (ha : a < N) (hN : N < 2 ^ 31) (d : decode cc pc = .ok (.iaload, 1)) (hp : pc + 1 = pc') (kk : J X pc' lv (.int (σ k a) :: st) σ) : J X pc lv (.int i :: .ref (X.E.1 + k) :: st) σ := by
  intro H locs ls h1 h2 h3
  subst hp hi
  exact W.iald F.1.1 F.1.2.1 (cell_arr (by decide) (h1 k _ hk hs)) ((F.2.1.2 0 (by decide)).1 N _) (fun q => by cases q) (in_nI ha hN _ _) (at_nI ha hN _ _) rfl rfl d (kk H locs ls h1 h2 h3)
theorem j_caload (F : Fx X cc own D) {k N r a : Nat} {i : Int32} (hk : k < X.n) (hs : shpL[k]? = some (.inl (1, N, r))) (hi : i = nI a) (ha : a < N) (hN : N < 2 ^ 31) (d : decode cc pc = .ok (.caload, 1)) (hp : pc + 1 = pc') (kk : J X pc' lv (.int (σ k a) :: st) σ) : J X pc lv (.int i :: .ref (X.E.1 + k) :: st) σ := by
  intro H locs ls h1 h2 h3
  subst hp hi
  exact W.cald F.1.1 F.1.2.1 (cell_arr (by decide) (h1 k _ hk hs)) ((F.2.1.2 1 (by decide)).1 N _) (fun q => by cases q) (in_nI ha hN _ _) (at_nI ha hN _ _) rfl rfl d (kk H locs ls h1 h2 h3)
theorem j_baload (F : Fx X cc own D) {k N r a : Nat} {i : Int32} (hk : k < X.n) (hs : shpL[k]? = some (.inl (2, N, r))) (hi : i = nI a) (ha : a < N) (hN : N < 2 ^ 31) (d : decode cc pc = .ok (.baload, 1)) (hp : pc + 1 = pc') (kk : J X pc' lv (.int (σ k a) :: st) σ) : J X pc lv (.int i :: .ref (X.E.1 + k) :: st) σ := by
  intro H locs ls h1 h2 h3
  subst hp hi
  exact W.zald F.1.1 F.1.2.1 (cell_arr (by decide) (h1 k _ hk hs)) ((F.2.1.2 2 (by decide)).1 N _) (fun q => by cases q) (in_nI ha hN _ _) (at_nI ha hN _ _) rfl rfl d (kk H locs ls h1 h2 h3)
theorem j_aaload (F : Fx X cc own D) {k N r a : Nat} {i : Int32} (hk : k < X.n) (hs : shpL[k]? = some (.inl (3, N, r))) (hi : i = nI a) (ha : a < N) (hN : N < 2 ^ 31) (d : decode cc pc = .ok (.aaload, 1)) (hp : pc + 1 = pc') (kk : J X pc' lv (.ref (X.E.1 + (r + 3 * a)) :: st) σ) : J X pc lv (.int i :: .ref (X.E.1 + k) :: st) σ := by
  intro H locs ls h1 h2 h3
  subst hp hi
  exact W.aald (ty := .object "LampPlans$Plan") F.1.1 F.1.2.1 (cell_ref (h1 k _ hk hs)) ((F.2.1.2 3 (by decide)).1 N _) rfl (fun q => by cases q) (in_nI ha hN _ _) (at_nI ha hN _ _) rfl rfl d (kk H locs ls h1 h2 h3)
theorem j_alen (F : Fx X cc own D) {k t N r : Nat} (ht : t < 3) (hk : k < X.n) (hs : shpL[k]? = some (.inl (t, N, r))) (d : decode cc pc = .ok (.arraylength, 1)) (hp : pc + 1 = pc') (kk : J X pc' lv (.int (nI N) :: st) σ) : J X pc lv (.ref (X.E.1 + k) :: st) σ := by
  intro H locs ls h1 h2 h3
  subst hp
  exact W.alen (n := nI N) F.1.1 F.1.2.1 (cell_arr ht (h1 k _ hk hs)) ((F.2.1.2 t (by omega)).1 N _) (by rw [arrV_size]; rfl) rfl rfl d (kk H locs ls h1 h2 h3)
theorem j_iastore (F : Fx X cc own D) {k N r a : Nat} {i x : Int32} (hk : k < X.n) (hs : shpL[k]? = some (.inl (0, N, r))) (hi : i = nI a) (ha : a < N) (hN : N < 2 ^ 31) (d : decode cc pc = .ok (.iastore, 1)) (hp : pc + 1 = pc') (kk : J X pc' lv st (up σ k a x)) : J X pc lv (.int x :: .int i :: .ref (X.E.1 + k) :: st) σ := by
  intro H locs ls h1 h2 h3
  subst hp hi
  refine W.iast F.1.1 F.1.2.1 (cell_arr (by decide) (h1 k _ hk hs)) ((F.2.1.2 0 (by decide)).1 N _) (fun q => by cases q) (in_nI ha hN _ _) rfl rfl d (fun H1 e z oq => ?_)
  refine kk H1 _ ls (h1.row hs (arr_cell (by decide) ?_) oq) (h2.put z oq (Nat.le_add_right _ _)) h3
  rw [e, nI_clamp (by omega), arrV_store]
  congr 2
  funext q
  by_cases hq : q = a
  · subst hq
    simp [updV, upd]
  · simp [updV, upd, hq]
theorem j_castore (F : Fx X cc own D) {k N r a : Nat} {i x : Int32} (hk : k < X.n) (hs : shpL[k]? = some (.inl (1, N, r))) (hi : i = nI a) (ha : a < N) (hN : N < 2 ^ 31) (hx : narrow .char (.int x) = .int x) (d : decode cc pc = .ok (.castore, 1)) (hp : pc + 1 = pc') (kk : J X pc' lv st (up σ k a x)) : J X pc lv (.int x :: .int i :: .ref (X.E.1 + k) :: st) σ := by
  intro H locs ls h1 h2 h3
  subst hp hi
  refine W.cast F.1.1 F.1.2.1 (cell_arr (by decide) (h1 k _ hk hs)) ((F.2.1.2 1 (by decide)).1 N _) (fun q => by cases q) (in_nI ha hN _ _) rfl rfl d (fun H1 e z oq => ?_)
  refine kk H1 _ ls (h1.row hs (arr_cell (by decide) ?_) oq) (h2.put z oq (Nat.le_add_right _ _)) h3
  rw [e, nI_clamp (by omega), arrV_store, hx]
  congr 2
  funext q
  by_cases hq : q = a
  · subst hq
    simp [updV, upd]
  · simp [updV, upd, hq]
theorem j_bastore (F : Fx X cc own D) {k N r a : Nat} {i x : Int32} (hk : k < X.n) (hs : shpL[k]? = some (.inl (2, N, r))) (hi : i = nI a) (ha : a < N) (hN : N < 2 ^ 31) (hx : narrow .boolean (.int x) = .int x) (d : decode cc pc = .ok (.bastore, 1)) (hp : pc + 1 = pc') (kk : J X pc' lv st (up σ k a x)) : J X pc lv (.int x :: .int i :: .ref (X.E.1 + k) :: st) σ := by
  intro H locs ls h1 h2 h3
  subst hp hi
  refine W.zast F.1.1 F.1.2.1 (cell_arr (by decide) (h1 k _ hk hs)) ((F.2.1.2 2 (by decide)).1 N _) (fun q => by cases q) (in_nI ha hN _ _) rfl rfl d (fun H1 e z oq => ?_)
  refine kk H1 _ ls (h1.row hs (arr_cell (by decide) ?_) oq) (h2.put z oq (Nat.le_add_right _ _)) h3
  rw [e, nI_clamp (by omega), arrV_store, hx]
  congr 2
  funext q
  by_cases hq : q = a
  · subst hq
    simp [updV, upd]
  · simp [updV, upd, hq]
/-! returns -/
theorem j_iret (F : Fx X cc own D) {ty : FieldType} {Po : Option Value → St → Prop} {v : Int32} (hR : Rt X (some ty) Po) (hn : narrow ty (.int v) = .int v) (hv : Po (some (.int v)) σ) (d : decode cc pc = .ok (.ireturn, 1)) : J X pc lv [.int v] σ := by
  intro H locs ls h1 h2 h3
  unfold WX
  rw [hR.2.2]
  exact W.zret F.1.1 F.1.2.1 hR.1 hn (fun t ht hW => ⟨⟨_, _, rfl, hv, by rw [ht]; exact h1, KK.moved hW.alike F.2.1⟩, h2.F ht⟩) h2.2.2 d hR.2.1
theorem j_vret (F : Fx X cc own D) {Po : Option Value → St → Prop} (hR : Rt X none Po) (hv : Po none σ) (d : decode cc pc = .ok (.return_, 1)) : J X pc lv [] σ := by
  intro H locs ls h1 h2 h3
  unfold WX
  rw [hR.2.2]
  exact W.vret F.1.1 F.1.2.1 hR.1 (fun t ht hW => ⟨⟨_, _, rfl, hv, by rw [ht]; exact h1, KK.moved hW.alike F.2.1⟩, h2.F ht⟩) h2.2.2 d hR.2.1
/-! calls -/
theorem uw_good {c0 : Cond} (h : c0 ∈ UW) : GoodIn UW (c0 :: UW) := fun w hw => by
  have hm : w ∈ UW := by
    rcases List.mem_cons.mp hw with rfl | hw
    · exact h
    · exact hw
  exact ⟨hm, good_of_word (List.mem_filter.mp hm).2⟩
theorem wd_blind {n : Nat} {E : Ev} {av : List Value} {σ : St} : FrameBlind (va_Pc av (Wd n E σ)) := fun a U g mk q => ⟨q.1, q.2.1, KK.moved (u := U) (U := U.calling g mk a) (Vm.Alike.refl U.vm) q.2.2⟩
theorem j_run {st0 rest : List Value} {Po : Option Value → St → Prop} {a : Array Value} {H : Heap} {locs : List Loc} {ls : Array Slot} (hr : va_Run X.p X.l X.e X.R X.s X.m X.args X.below X.meth X.c H locs 0 0 0 0 (F0 X.m pc ls st0) rest (Qp X.n X.E Po a) (fun q => X.E.1 ≤ q)) (hS : va_S (fun q => X.E.1 ≤ q) X.s.heap H locs) (hl : lv_has ls X.nL (asL 0 lv))
    (kk : ∀ (v : Option Value) (σ' : St), Po v σ' → J X (pc + 3) lv (v.toList ++ rest) σ') : WX X H locs pc ls st0 := by
  intro T hT Y
  obtain ⟨v, st₀, t, T', L, h0, Y', hL, e1, e2, ⟨⟨v', σ', hv, hp, hw⟩, hz, hk⟩, st⟩ := hr T hT Y
  cases hv
  rw [h0] at hz hk
  obtain ⟨t2, a1, b1⟩ := kk v σ' hp T'.heap (locs ++ L) ls (by rw [e1]; exact hw.1)
    ⟨Nat.le_trans hS.1 (by rw [e1]; exact hz), fun q h1 h2 => by rw [e1, hk q (Nat.lt_of_lt_of_le h1 hS.1) h2]; exact hS.2.1 q h1 h2, fun q hq => by
      rcases List.mem_append.mp hq with h | h
      · exact hS.2.2 q h
      · exact hL q h⟩ hl T' rfl Y'
  exact ⟨t2, st t2 a1, b1⟩
theorem cb_u {R : Room} {s : State} {args : Array Value} {index nn maxL d : Nat} {y : MethodName} {bytes : ByteArray} {ret : Option FieldType} (hts : ∀ w ∈ UW, w.before args s = true) (hcode : Cond.code y bytes maxL ret ∈ UW) (hini : Cond.initialized y.cls ∈ UW) (hl : Cond.methodLink own index y ∈ UW)
    (hd : y.cls ≠ "java/lang/invoke/MethodHandle" ∧ y.cls ≠ "java/lang/invoke/VarHandle" ∧ (parseMethodDescriptor y.desc).map (fun d => d.parameters.length) = some nn) (hm : maxL ≤ 17) (hD : d < D) (h1 : D ≤ R.frames) (h2 : 36 * D ≤ R.locals) : CallB R s args own index y bytes maxL ret (Cond.code y bytes maxL ret :: UW) (rmL d) 0 0 nn :=
  callB_of nn hts (uw_good hcode) rfl rfl rfl (hts _ hini) (hts _ hl) hd ⟨by show d + 1 ≤ _; omega, by show 8 + (maxL + 11) + 36 * d ≤ _; omega⟩
theorem j_callV (F : Fx X cc own D) {C : String} {index nn maxL d k : Nat} {y : MethodName} {bytes : ByteArray} {ret : Option FieldType} {As rest : List Value} {Po : Option Value → St → Prop} {ci : Nat} {T : u_T} {N : Nat} {ds : List (Option Nat)}
    (hM : Ct X.l y bytes maxL ret d X.n X.E (.ref (X.E.1 + k) :: As) σ Po) (hcode : Cond.code y bytes maxL ret ∈ UW) (hini : Cond.initialized y.cls ∈ UW) (hl : Cond.methodLink own index y ∈ UW) (hin : Cond.instanceMethod y ∈ UW) (hse : Cond.selects C y y ∈ UW)
    (hd : y.cls ≠ "java/lang/invoke/MethodHandle" ∧ y.cls ≠ "java/lang/invoke/VarHandle" ∧ (parseMethodDescriptor y.desc).map (fun d => d.parameters.length) = some nn) (hm : maxL ≤ 17) (hc : vwCl[ci]? = some (C, T, N)) (hD : d < D) (hk : k < X.n) (hs : shpL[k]? = some (.inr (ci, ds))) (hn : As.length = nn) (hst : st = As.reverse ++ .ref (X.E.1 + k) :: rest) (hrm : (rest.map fun v => v.category).sum ≤ 8) (dd : decode cc pc = .ok (.invokevirtual index, 3)) (hp : pc + 3 = pc')
    (kk : ∀ (v : Option Value) (σ' : St), Po v σ' → J X pc' lv (v.toList ++ rest) σ') : J X pc lv st σ := by
  intro H locs ls h1 h2 h3
  subst hp hst
  refine j_run (va_runV (C := C) (b := X.E.1 + k) (As := As) (rest := rest) F.1 hM ⟨cb_u F.1.2.2.2.2 hcode hini hl hd hm hD F.2.2.1 F.2.2.2, F.1.2.2.2.2 _ hin, F.1.2.2.2.2 _ hse⟩ ⟨wd_blind, ?_, fun U hU hW => ⟨rfl, by rw [hU]; exact h1, KK.moved hW.alike F.2.1⟩⟩ rfl hn h3.1 rfl (lv_room hrm) dd ⟨Nat.zero_le _, Nat.zero_le _⟩) h2 h3 kk
  obtain ⟨r, g0, cell, g1, g2, g3, -⟩ := h1 k _ hk hs
  have hr : r = (C, T, N) := Option.some.inj (g0.symm.trans hc)
  subst hr
  exact ⟨cell, g1, by rw [g3]; rfl, by rw [g2]; exact (F.2.1.1.1 ci _ hc).2.1⟩
theorem j_callS (F : Fx X cc own D) {index nn maxL d : Nat} {y : MethodName} {bytes : ByteArray} {ret : Option FieldType} {As rest : List Value} {Po : Option Value → St → Prop}
    (hM : Ct X.l y bytes maxL ret d X.n X.E As σ Po) (hcode : Cond.code y bytes maxL ret ∈ UW) (hini : Cond.initialized y.cls ∈ UW) (hl : Cond.methodLink own index y ∈ UW) (hin : Cond.static y ∈ UW)
    (hd : y.cls ≠ "java/lang/invoke/MethodHandle" ∧ y.cls ≠ "java/lang/invoke/VarHandle" ∧ (parseMethodDescriptor y.desc).map (fun d => d.parameters.length) = some nn) (hm : maxL ≤ 17) (hD : d < D) (hn : As.length = nn) (hst : st = As.reverse ++ rest) (hrm : (rest.map fun v => v.category).sum ≤ 8) (dd : decode cc pc = .ok (.invokestatic index, 3)) (hp : pc + 3 = pc')
    (kk : ∀ (v : Option Value) (σ' : St), Po v σ' → J X pc' lv (v.toList ++ rest) σ') : J X pc lv st σ := by
  intro H locs ls h1 h2 h3
  subst hp hst
  exact j_run (va_runS (As := As) (rest := rest) F.1 hM ⟨cb_u F.1.2.2.2.2 hcode hini hl hd hm hD F.2.2.1 F.2.2.2, F.1.2.2.2.2 _ hin⟩ ⟨wd_blind, fun U hU hW => ⟨rfl, by rw [hU]; exact h1, KK.moved hW.alike F.2.1⟩⟩ rfl hn h3.1 rfl (lv_room hrm) dd ⟨Nat.zero_le _, Nat.zero_le _⟩) h2 h3 kk
end JH
end
