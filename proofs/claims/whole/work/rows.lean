section
-- ===== PART A: goes FIRST, ahead of the names: the tables' words, and 'selects' of the private methods out of them =====
/-- a private method of a class that the tables say can be made, by its rows of tables_1 -/
def lw_okq (q : MethodName × Nat) : Prop := (q.1.cls ≠ "java/lang/invoke/MethodHandle" ∧ q.1.cls ≠ "java/lang/invoke/VarHandle") ∧ Cond.instantiable q.1.cls q.2 ∈ tables_1 ∧ Cond.privateMethod q.1 ∈ tables_1 ∧ Cond.instanceMethod q.1 ∈ tables_1
theorem lw_p0 : lw_okq (⟨"YearsLent$Terms", "accept", "(II)Z"⟩, 5) := ⟨⟨by decide +kernel, by decide +kernel⟩, List.mem_of_getElem? (i := 50) (by decide +kernel), List.mem_of_getElem? (i := 305) (by decide +kernel), List.mem_of_getElem? (i := 306) (by decide +kernel)⟩
theorem lw_p1 : lw_okq (⟨"YearsLent", "isPerson", "(I)Z"⟩, 11) := ⟨⟨by decide +kernel, by decide +kernel⟩, List.mem_of_getElem? (i := 14) (by decide +kernel), List.mem_of_getElem? (i := 326) (by decide +kernel), List.mem_of_getElem? (i := 327) (by decide +kernel)⟩
theorem lw_p2 : lw_okq (⟨"YearsLent$Books", "dueFrom", "(II)I"⟩, 11) := ⟨⟨by decide +kernel, by decide +kernel⟩, List.mem_of_getElem? (i := 79) (by decide +kernel), List.mem_of_getElem? (i := 358) (by decide +kernel), List.mem_of_getElem? (i := 359) (by decide +kernel)⟩
theorem lw_p3 : lw_okq (⟨"YearsLent$Books", "dueOn", "(I)I"⟩, 11) := ⟨⟨by decide +kernel, by decide +kernel⟩, List.mem_of_getElem? (i := 79) (by decide +kernel), List.mem_of_getElem? (i := 362) (by decide +kernel), List.mem_of_getElem? (i := 363) (by decide +kernel)⟩
theorem lw_p4 : lw_okq (⟨"YearsLent$Shelf", "moveLowestUp", "()V"⟩, 2) := ⟨⟨by decide +kernel, by decide +kernel⟩, List.mem_of_getElem? (i := 155) (by decide +kernel), List.mem_of_getElem? (i := 384) (by decide +kernel), List.mem_of_getElem? (i := 385) (by decide +kernel)⟩
theorem lw_p5 : lw_okq (⟨"YearsLent$Books", "payThoseDue", "()V"⟩, 11) := ⟨⟨by decide +kernel, by decide +kernel⟩, List.mem_of_getElem? (i := 79) (by decide +kernel), List.mem_of_getElem? (i := 406) (by decide +kernel), List.mem_of_getElem? (i := 407) (by decide +kernel)⟩
theorem lw_p6 : lw_okq (⟨"YearsLent$Books", "greatestDue", "()I"⟩, 11) := ⟨⟨by decide +kernel, by decide +kernel⟩, List.mem_of_getElem? (i := 79) (by decide +kernel), List.mem_of_getElem? (i := 410) (by decide +kernel), List.mem_of_getElem? (i := 411) (by decide +kernel)⟩
theorem lw_p7 : lw_okq (⟨"YearsLent$Books", "isDue", "(I)Z"⟩, 11) := ⟨⟨by decide +kernel, by decide +kernel⟩, List.mem_of_getElem? (i := 79) (by decide +kernel), List.mem_of_getElem? (i := 414) (by decide +kernel), List.mem_of_getElem? (i := 415) (by decide +kernel)⟩
theorem lw_p8 : lw_okq (⟨"YearsLent$Books", "pay", "(I)V"⟩, 11) := ⟨⟨by decide +kernel, by decide +kernel⟩, List.mem_of_getElem? (i := 79) (by decide +kernel), List.mem_of_getElem? (i := 418) (by decide +kernel), List.mem_of_getElem? (i := 419) (by decide +kernel)⟩
theorem lw_p9 : lw_okq (⟨"YearsLent$Books", "give", "(III)I"⟩, 11) := ⟨⟨by decide +kernel, by decide +kernel⟩, List.mem_of_getElem? (i := 79) (by decide +kernel), List.mem_of_getElem? (i := 422) (by decide +kernel), List.mem_of_getElem? (i := 423) (by decide +kernel)⟩
theorem lw_p10 : lw_okq (⟨"YearsLent$Books", "lowestOther", "(II)I"⟩, 11) := ⟨⟨by decide +kernel, by decide +kernel⟩, List.mem_of_getElem? (i := 79) (by decide +kernel), List.mem_of_getElem? (i := 429) (by decide +kernel), List.mem_of_getElem? (i := 430) (by decide +kernel)⟩
theorem lw_p11 : lw_okq (⟨"YearsLent$Books", "dropThoseDue", "()V"⟩, 11) := ⟨⟨by decide +kernel, by decide +kernel⟩, List.mem_of_getElem? (i := 79) (by decide +kernel), List.mem_of_getElem? (i := 433) (by decide +kernel), List.mem_of_getElem? (i := 434) (by decide +kernel)⟩
theorem lw_p12 : lw_okq (⟨"YearsLent$Trial", "noteDeaths", "(I)V"⟩, 3) := ⟨⟨by decide +kernel, by decide +kernel⟩, List.mem_of_getElem? (i := 135) (by decide +kernel), List.mem_of_getElem? (i := 474) (by decide +kernel), List.mem_of_getElem? (i := 475) (by decide +kernel)⟩
theorem lw_p13 : lw_okq (⟨"YearsLent$Rings", "findShortest", "()I"⟩, 3) := ⟨⟨by decide +kernel, by decide +kernel⟩, List.mem_of_getElem? (i := 196) (by decide +kernel), List.mem_of_getElem? (i := 543) (by decide +kernel), List.mem_of_getElem? (i := 544) (by decide +kernel)⟩
theorem lw_p14 : lw_okq (⟨"YearsLent$Rings", "closes", "(II)Z"⟩, 3) := ⟨⟨by decide +kernel, by decide +kernel⟩, List.mem_of_getElem? (i := 196) (by decide +kernel), List.mem_of_getElem? (i := 547) (by decide +kernel), List.mem_of_getElem? (i := 548) (by decide +kernel)⟩
theorem lw_p15 : lw_okq (⟨"YearsLent$Rings", "isPlaced", "(II)Z"⟩, 3) := ⟨⟨by decide +kernel, by decide +kernel⟩, List.mem_of_getElem? (i := 196) (by decide +kernel), List.mem_of_getElem? (i := 552) (by decide +kernel), List.mem_of_getElem? (i := 553) (by decide +kernel)⟩
def lw_privs_1 : List (MethodName × Nat) := [(⟨"YearsLent$Terms", "accept", "(II)Z"⟩, 5), (⟨"YearsLent", "isPerson", "(I)Z"⟩, 11), (⟨"YearsLent$Books", "dueFrom", "(II)I"⟩, 11), (⟨"YearsLent$Books", "dueOn", "(I)I"⟩, 11), (⟨"YearsLent$Shelf", "moveLowestUp", "()V"⟩, 2), (⟨"YearsLent$Books", "payThoseDue", "()V"⟩, 11), (⟨"YearsLent$Books", "greatestDue", "()I"⟩, 11), (⟨"YearsLent$Books", "isDue", "(I)Z"⟩, 11), (⟨"YearsLent$Books", "pay", "(I)V"⟩, 11), (⟨"YearsLent$Books", "give", "(III)I"⟩, 11), (⟨"YearsLent$Books", "lowestOther", "(II)I"⟩, 11), (⟨"YearsLent$Books", "dropThoseDue", "()V"⟩, 11), (⟨"YearsLent$Trial", "noteDeaths", "(I)V"⟩, 3), (⟨"YearsLent$Rings", "findShortest", "()I"⟩, 3), (⟨"YearsLent$Rings", "closes", "(II)Z"⟩, 3), (⟨"YearsLent$Rings", "isPlaced", "(II)Z"⟩, 3)]
theorem lw_r1 : ∀ q ∈ lw_privs_1, lw_okq q := List.forall_mem_cons.mpr ⟨lw_p0, List.forall_mem_cons.mpr ⟨lw_p1, List.forall_mem_cons.mpr ⟨lw_p2, List.forall_mem_cons.mpr ⟨lw_p3, List.forall_mem_cons.mpr ⟨lw_p4, List.forall_mem_cons.mpr ⟨lw_p5, List.forall_mem_cons.mpr ⟨lw_p6, List.forall_mem_cons.mpr ⟨lw_p7, List.forall_mem_cons.mpr ⟨lw_p8, List.forall_mem_cons.mpr ⟨lw_p9, List.forall_mem_cons.mpr ⟨lw_p10, List.forall_mem_cons.mpr ⟨lw_p11, List.forall_mem_cons.mpr ⟨lw_p12, List.forall_mem_cons.mpr ⟨lw_p13, List.forall_mem_cons.mpr ⟨lw_p14, List.forall_mem_cons.mpr ⟨lw_p15, fun _ h => absurd h List.not_mem_nil⟩⟩⟩⟩⟩⟩⟩⟩⟩⟩⟩⟩⟩⟩⟩⟩
theorem lw_p16 : lw_okq (⟨"YearsLent$Rings", "clear", "(I)I"⟩, 3) := ⟨⟨by decide +kernel, by decide +kernel⟩, List.mem_of_getElem? (i := 196) (by decide +kernel), List.mem_of_getElem? (i := 556) (by decide +kernel), List.mem_of_getElem? (i := 557) (by decide +kernel)⟩
theorem lw_p17 : lw_okq (⟨"YearsLent$Gifts", "addToGreatestRest", "()V"⟩, 2) := ⟨⟨by decide +kernel, by decide +kernel⟩, List.mem_of_getElem? (i := 215) (by decide +kernel), List.mem_of_getElem? (i := 572) (by decide +kernel), List.mem_of_getElem? (i := 573) (by decide +kernel)⟩
theorem lw_p18 : lw_okq (⟨"YearsLent", "lendByDraw", "(LYearsLent$Books;II)V"⟩, 11) := ⟨⟨by decide +kernel, by decide +kernel⟩, List.mem_of_getElem? (i := 14) (by decide +kernel), List.mem_of_getElem? (i := 611) (by decide +kernel), List.mem_of_getElem? (i := 612) (by decide +kernel)⟩
theorem lw_p19 : lw_okq (⟨"YearsLentModel", "begins", "()V"⟩, 27) := ⟨⟨by decide +kernel, by decide +kernel⟩, List.mem_of_getElem? (i := 638) (by decide +kernel), List.mem_of_getElem? (i := 644) (by decide +kernel), List.mem_of_getElem? (i := 645) (by decide +kernel)⟩
theorem lw_p20 : lw_okq (⟨"YearsLentModel", "faultOf", "()I"⟩, 27) := ⟨⟨by decide +kernel, by decide +kernel⟩, List.mem_of_getElem? (i := 638) (by decide +kernel), List.mem_of_getElem? (i := 746) (by decide +kernel), List.mem_of_getElem? (i := 747) (by decide +kernel)⟩
theorem lw_p21 : lw_okq (⟨"YearsLentModel", "byteAt", "(I)I"⟩, 27) := ⟨⟨by decide +kernel, by decide +kernel⟩, List.mem_of_getElem? (i := 638) (by decide +kernel), List.mem_of_getElem? (i := 750) (by decide +kernel), List.mem_of_getElem? (i := 751) (by decide +kernel)⟩
theorem lw_p22 : lw_okq (⟨"YearsLentModel", "isWell", "(II)Z"⟩, 27) := ⟨⟨by decide +kernel, by decide +kernel⟩, List.mem_of_getElem? (i := 638) (by decide +kernel), List.mem_of_getElem? (i := 754) (by decide +kernel), List.mem_of_getElem? (i := 755) (by decide +kernel)⟩
theorem lw_p23 : lw_okq (⟨"YearsLentModel", "isPerson", "(I)Z"⟩, 27) := ⟨⟨by decide +kernel, by decide +kernel⟩, List.mem_of_getElem? (i := 638) (by decide +kernel), List.mem_of_getElem? (i := 766) (by decide +kernel), List.mem_of_getElem? (i := 767) (by decide +kernel)⟩
theorem lw_p24 : lw_okq (⟨"YearsLentModel", "owesAll", "(I)I"⟩, 27) := ⟨⟨by decide +kernel, by decide +kernel⟩, List.mem_of_getElem? (i := 638) (by decide +kernel), List.mem_of_getElem? (i := 770) (by decide +kernel), List.mem_of_getElem? (i := 771) (by decide +kernel)⟩
theorem lw_p25 : lw_okq (⟨"YearsLentModel", "mayAsk", "(IIII)Z"⟩, 27) := ⟨⟨by decide +kernel, by decide +kernel⟩, List.mem_of_getElem? (i := 638) (by decide +kernel), List.mem_of_getElem? (i := 782) (by decide +kernel), List.mem_of_getElem? (i := 783) (by decide +kernel)⟩
theorem lw_p26 : lw_okq (⟨"YearsLentModel", "says", "(IIII)Z"⟩, 27) := ⟨⟨by decide +kernel, by decide +kernel⟩, List.mem_of_getElem? (i := 638) (by decide +kernel), List.mem_of_getElem? (i := 789) (by decide +kernel), List.mem_of_getElem? (i := 790) (by decide +kernel)⟩
theorem lw_p27 : lw_okq (⟨"YearsLentModel", "dueOf", "(I)I"⟩, 27) := ⟨⟨by decide +kernel, by decide +kernel⟩, List.mem_of_getElem? (i := 638) (by decide +kernel), List.mem_of_getElem? (i := 793) (by decide +kernel), List.mem_of_getElem? (i := 794) (by decide +kernel)⟩
theorem lw_p28 : lw_okq (⟨"YearsLentModel", "notes", "()V"⟩, 27) := ⟨⟨by decide +kernel, by decide +kernel⟩, List.mem_of_getElem? (i := 638) (by decide +kernel), List.mem_of_getElem? (i := 801) (by decide +kernel), List.mem_of_getElem? (i := 802) (by decide +kernel)⟩
theorem lw_p29 : lw_okq (⟨"YearsLentModel", "lends", "(IIII)V"⟩, 27) := ⟨⟨by decide +kernel, by decide +kernel⟩, List.mem_of_getElem? (i := 638) (by decide +kernel), List.mem_of_getElem? (i := 805) (by decide +kernel), List.mem_of_getElem? (i := 806) (by decide +kernel)⟩
theorem lw_p30 : lw_okq (⟨"YearsLentModel", "goes", "()V"⟩, 27) := ⟨⟨by decide +kernel, by decide +kernel⟩, List.mem_of_getElem? (i := 638) (by decide +kernel), List.mem_of_getElem? (i := 813) (by decide +kernel), List.mem_of_getElem? (i := 814) (by decide +kernel)⟩
theorem lw_p31 : lw_okq (⟨"YearsLentModel", "dueNow", "(Z)I"⟩, 27) := ⟨⟨by decide +kernel, by decide +kernel⟩, List.mem_of_getElem? (i := 638) (by decide +kernel), List.mem_of_getElem? (i := 817) (by decide +kernel), List.mem_of_getElem? (i := 818) (by decide +kernel)⟩
def lw_privs_2 : List (MethodName × Nat) := [(⟨"YearsLent$Rings", "clear", "(I)I"⟩, 3), (⟨"YearsLent$Gifts", "addToGreatestRest", "()V"⟩, 2), (⟨"YearsLent", "lendByDraw", "(LYearsLent$Books;II)V"⟩, 11), (⟨"YearsLentModel", "begins", "()V"⟩, 27), (⟨"YearsLentModel", "faultOf", "()I"⟩, 27), (⟨"YearsLentModel", "byteAt", "(I)I"⟩, 27), (⟨"YearsLentModel", "isWell", "(II)Z"⟩, 27), (⟨"YearsLentModel", "isPerson", "(I)Z"⟩, 27), (⟨"YearsLentModel", "owesAll", "(I)I"⟩, 27), (⟨"YearsLentModel", "mayAsk", "(IIII)Z"⟩, 27), (⟨"YearsLentModel", "says", "(IIII)Z"⟩, 27), (⟨"YearsLentModel", "dueOf", "(I)I"⟩, 27), (⟨"YearsLentModel", "notes", "()V"⟩, 27), (⟨"YearsLentModel", "lends", "(IIII)V"⟩, 27), (⟨"YearsLentModel", "goes", "()V"⟩, 27), (⟨"YearsLentModel", "dueNow", "(Z)I"⟩, 27)]
theorem lw_r2 : ∀ q ∈ lw_privs_2, lw_okq q := List.forall_mem_cons.mpr ⟨lw_p16, List.forall_mem_cons.mpr ⟨lw_p17, List.forall_mem_cons.mpr ⟨lw_p18, List.forall_mem_cons.mpr ⟨lw_p19, List.forall_mem_cons.mpr ⟨lw_p20, List.forall_mem_cons.mpr ⟨lw_p21, List.forall_mem_cons.mpr ⟨lw_p22, List.forall_mem_cons.mpr ⟨lw_p23, List.forall_mem_cons.mpr ⟨lw_p24, List.forall_mem_cons.mpr ⟨lw_p25, List.forall_mem_cons.mpr ⟨lw_p26, List.forall_mem_cons.mpr ⟨lw_p27, List.forall_mem_cons.mpr ⟨lw_p28, List.forall_mem_cons.mpr ⟨lw_p29, List.forall_mem_cons.mpr ⟨lw_p30, List.forall_mem_cons.mpr ⟨lw_p31, fun _ h => absurd h List.not_mem_nil⟩⟩⟩⟩⟩⟩⟩⟩⟩⟩⟩⟩⟩⟩⟩⟩
theorem lw_p32 : lw_okq (⟨"YearsLentModel", "pays", "(I)V"⟩, 27) := ⟨⟨by decide +kernel, by decide +kernel⟩, List.mem_of_getElem? (i := 638) (by decide +kernel), List.mem_of_getElem? (i := 821) (by decide +kernel), List.mem_of_getElem? (i := 822) (by decide +kernel)⟩
theorem lw_p33 : lw_okq (⟨"YearsLentModel", "gives", "(III)I"⟩, 27) := ⟨⟨by decide +kernel, by decide +kernel⟩, List.mem_of_getElem? (i := 638) (by decide +kernel), List.mem_of_getElem? (i := 825) (by decide +kernel), List.mem_of_getElem? (i := 826) (by decide +kernel)⟩
theorem lw_p34 : lw_okq (⟨"YearsLentModel", "drops", "(I)V"⟩, 27) := ⟨⟨by decide +kernel, by decide +kernel⟩, List.mem_of_getElem? (i := 638) (by decide +kernel), List.mem_of_getElem? (i := 832) (by decide +kernel), List.mem_of_getElem? (i := 833) (by decide +kernel)⟩
theorem lw_p35 : lw_okq (⟨"YearsLentModel", "living", "()I"⟩, 27) := ⟨⟨by decide +kernel, by decide +kernel⟩, List.mem_of_getElem? (i := 638) (by decide +kernel), List.mem_of_getElem? (i := 836) (by decide +kernel), List.mem_of_getElem? (i := 837) (by decide +kernel)⟩
theorem lw_p36 : lw_okq (⟨"YearsLentModel", "aside", "(Z)V"⟩, 27) := ⟨⟨by decide +kernel, by decide +kernel⟩, List.mem_of_getElem? (i := 638) (by decide +kernel), List.mem_of_getElem? (i := 848) (by decide +kernel), List.mem_of_getElem? (i := 849) (by decide +kernel)⟩
theorem lw_p37 : lw_okq (⟨"YearsLentModel", "spans", "(I)V"⟩, 27) := ⟨⟨by decide +kernel, by decide +kernel⟩, List.mem_of_getElem? (i := 638) (by decide +kernel), List.mem_of_getElem? (i := 868) (by decide +kernel), List.mem_of_getElem? (i := 869) (by decide +kernel)⟩
theorem lw_p38 : lw_okq (⟨"YearsLentModel", "isSo", "(II)Z"⟩, 27) := ⟨⟨by decide +kernel, by decide +kernel⟩, List.mem_of_getElem? (i := 638) (by decide +kernel), List.mem_of_getElem? (i := 872) (by decide +kernel), List.mem_of_getElem? (i := 873) (by decide +kernel)⟩
theorem lw_p39 : lw_okq (⟨"YearsLentModel", "clears", "()I"⟩, 27) := ⟨⟨by decide +kernel, by decide +kernel⟩, List.mem_of_getElem? (i := 638) (by decide +kernel), List.mem_of_getElem? (i := 888) (by decide +kernel), List.mem_of_getElem? (i := 889) (by decide +kernel)⟩
theorem lw_p40 : lw_okq (⟨"YearsLentModel", "findsRing", "(I)Z"⟩, 27) := ⟨⟨by decide +kernel, by decide +kernel⟩, List.mem_of_getElem? (i := 638) (by decide +kernel), List.mem_of_getElem? (i := 892) (by decide +kernel), List.mem_of_getElem? (i := 893) (by decide +kernel)⟩
theorem lw_p41 : lw_okq (⟨"YearsLentModel", "shares", "(I)Z"⟩, 27) := ⟨⟨by decide +kernel, by decide +kernel⟩, List.mem_of_getElem? (i := 638) (by decide +kernel), List.mem_of_getElem? (i := 900) (by decide +kernel), List.mem_of_getElem? (i := 901) (by decide +kernel)⟩
theorem lw_p42 : lw_okq (⟨"YearsLentModel", "runs", "()V"⟩, 27) := ⟨⟨by decide +kernel, by decide +kernel⟩, List.mem_of_getElem? (i := 638) (by decide +kernel), List.mem_of_getElem? (i := 908) (by decide +kernel), List.mem_of_getElem? (i := 909) (by decide +kernel)⟩
def lw_privs_3 : List (MethodName × Nat) := [(⟨"YearsLentModel", "pays", "(I)V"⟩, 27), (⟨"YearsLentModel", "gives", "(III)I"⟩, 27), (⟨"YearsLentModel", "drops", "(I)V"⟩, 27), (⟨"YearsLentModel", "living", "()I"⟩, 27), (⟨"YearsLentModel", "aside", "(Z)V"⟩, 27), (⟨"YearsLentModel", "spans", "(I)V"⟩, 27), (⟨"YearsLentModel", "isSo", "(II)Z"⟩, 27), (⟨"YearsLentModel", "clears", "()I"⟩, 27), (⟨"YearsLentModel", "findsRing", "(I)Z"⟩, 27), (⟨"YearsLentModel", "shares", "(I)Z"⟩, 27), (⟨"YearsLentModel", "runs", "()V"⟩, 27)]
theorem lw_r3 : ∀ q ∈ lw_privs_3, lw_okq q := List.forall_mem_cons.mpr ⟨lw_p32, List.forall_mem_cons.mpr ⟨lw_p33, List.forall_mem_cons.mpr ⟨lw_p34, List.forall_mem_cons.mpr ⟨lw_p35, List.forall_mem_cons.mpr ⟨lw_p36, List.forall_mem_cons.mpr ⟨lw_p37, List.forall_mem_cons.mpr ⟨lw_p38, List.forall_mem_cons.mpr ⟨lw_p39, List.forall_mem_cons.mpr ⟨lw_p40, List.forall_mem_cons.mpr ⟨lw_p41, List.forall_mem_cons.mpr ⟨lw_p42, fun _ h => absurd h List.not_mem_nil⟩⟩⟩⟩⟩⟩⟩⟩⟩⟩⟩
def lw_privs : List (MethodName × Nat) := lw_privs_1 ++ (lw_privs_2 ++ (lw_privs_3))
def lw_tbl : List Cond := k2_sels lw_privs ++ tables_1
theorem lw_privs_ok : ∀ q ∈ lw_privs, lw_okq q := by
  show ∀ q ∈ lw_privs_1 ++ (lw_privs_2 ++ (lw_privs_3)), lw_okq q
  exact List.forall_mem_append.mpr ⟨lw_r1, List.forall_mem_append.mpr ⟨lw_r2, lw_r3⟩⟩
end
section
/-! ===== BEGIN words of one list among another's, by their places ===== -/
theorem goodIn_r {big : List Cond} (ws : List Cond) (ps : List Nat) (hp : ws = ps.filterMap (fun i => big[i]?)) (h : ws.all goodWord = true) : GoodIn big ws := by
  intro w hw
  have h1 := List.all_eq_true.mp h w hw
  rw [hp] at hw
  obtain ⟨i, -, hi⟩ := List.mem_filterMap.mp hw
  have hm : w ∈ big := by first | exact List.mem_of_getElem? hi | exact List.getElem?_mem hi
  exact ⟨hm, good_of_word h1⟩
theorem goodIn_app {big a b : List Cond} (ha : GoodIn big a) (hb : GoodIn big b) : GoodIn big (a ++ b) := fun w h => (List.mem_append.mp h).elim (ha w) (hb w)
theorem goodIn_ca {big a b : List Cond} {c : Cond} (ha : GoodIn big (c :: a)) (hb : GoodIn big b) : GoodIn big (c :: (a ++ b)) := fun w h => (List.mem_cons.mp h).elim (fun e => ha w (List.mem_cons.mpr (Or.inl e))) (fun h => (List.mem_append.mp h).elim (fun h => ha w (List.mem_cons.mpr (Or.inr h))) (hb w))
theorem goodIn_sub {big ws : List Cond} (hm : ∀ w ∈ ws, w ∈ big) (h : ws.all goodWord = true) : GoodIn big ws := fun w hw => ⟨hm w hw, good_of_word (List.all_eq_true.mp h w hw)⟩
/-! ===== END ===== -/

/-! ===== BEGIN new T[n][m]: the outer array a place, the inner ones among the pooled ===== -/
/-- f, but v at every address of l -/
def vr_up {α : Type} (f : Nat → α) (l : List Nat) (v : α) : Nat → α := fun a => if a ∈ l then v else f a
theorem vr_up_in {α : Type} {f : Nat → α} {l : List Nat} {v : α} {a : Nat} (h : a ∈ l) : vr_up f l v a = v := if_pos h
theorem vr_up_ne {α : Type} {f : Nat → α} {l : List Nat} {v : α} {a : Nat} (h : a ∉ l) : vr_up f l v a = f a := if_neg h
theorem vr_rows {L l : List Nat} {f : Nat → va_E} {e : va_E} (h : ∀ a, a ∈ l → a ∉ L) : va_pl L f ++ l.map (fun a => (a, e)) = va_pl (L ++ l) (vr_up f l e) := by
  unfold va_pl
  rw [List.map_append]
  congr 1
  · apply List.map_congr_left
    intro a ha
    rw [vr_up_ne (fun q => h a q ha)]
  · apply List.map_congr_left
    intro a ha
    rw [vr_up_in ha]
theorem vr_lay {X rows : va_W} {x : Nat × va_E} {pl : va_W} {D : va_G} {cl : List vw_C} {H : Heap} (hP : va_P D cl (((X ++ pl) ++ [x]) ++ rows) H) : va_P D cl ((X ++ [x]) ++ (pl ++ rows)) H := by
  rw [List.append_assoc (X ++ pl)] at hP
  have h := va_P.swap hP
  rw [← List.append_assoc X] at h
  have h2 := va_P.swap h
  rw [List.append_assoc (X ++ [x])] at h2
  exact h2
theorem vr_layD {X rows : va_W} {x : Nat × va_E} {pl : va_W} {A : Nat → Prop} (hD : va_D A (((X ++ pl) ++ [x]) ++ rows)) : va_D A ((X ++ [x]) ++ (pl ++ rows)) := by
  rw [List.append_assoc (X ++ pl)] at hD
  have h := va_D.swap hD
  rw [← List.append_assoc X] at h
  have h2 := va_D.swap h
  rw [List.append_assoc (X ++ [x])] at h2
  exact h2
theorem vr_outer (c : ClassId) (N h0 : Nat) : ∀ i : Nat, Jvm.Free.Multi.outerC c N h0 i = arrV c N (fun j => va_rf (if j < i then some (h0 + 1 + j) else none))
  | 0 => by
    show ({ cls := c, slots := Array.replicate N .null, vm := .none } : Cell) = _
    rw [arrV_new]
    refine congrArg (arrV c N) (funext fun j => ?_)
    simp [va_rf]
  | i + 1 => by
    show (Jvm.Free.Multi.outerC c N h0 i).setSlot i (.ref (h0 + 1 + i)) = _
    rw [vr_outer c N h0 i, arrV_store]
    refine congrArg (arrV c N) (funext fun j => ?_)
    by_cases e : j = i
    · subst e
      simp [updV, va_rf]
    · by_cases h : j < i
      · simp [updV, e, h, Nat.lt_succ_of_lt h]
      · simp [updV, e, h, show ¬ j < i + 1 by omega]
section VGM
variable {p : Program} {l : Launch} {e : Env} {R : Room} {s : State} {m : MethodId} {args : Array Value} {below : List Frame} {meth : Method} {c : Code} {H : Heap} {locs : List Loc} {cells slots : Nat} {Q : State → Prop}
variable {cc : ByteArray} {pc : Nat} {ls : Array Slot} {rest : List Value} {D : va_G} {cl : List vw_C} {A : Nat → Prop} {a : Nat} {tys : List (ClassId × FieldType)} {ws : va_W} {H0 : Heap}
theorem va_mna {X : va_W} {L : List Nat} {f : Nat → va_E} {cc : ByteArray} (hexec : p.tables.exec = Jvm.exec) (hb : c.code = cc) {own : String} {index : Nat} {ty : FieldType} {cy : ClassId} (hown : s.vm.findClass own = some m.cls) (hclink : (Cond.classLink own index ("[" ++ (FieldType.array ty).toString)).before args s = true) (hover : (Cond.arrayOver (.array ty)).before args s = true) (harr : (Cond.arrayClass ty).before args s = true) (hcy : s.vm.findClass (FieldType.array ty).toString = some cy)
    (hK : va_K D cl tys s) (hP : va_P D cl (X ++ va_pl L f) H) (hD : va_D A (X ++ va_pl L f)) (hS : va_S A H0 H locs) (hA : ∀ q, H0.size ≤ q → A q) {n k : Int32} {N' K' : Nat} {z : vp_A} (hn : ¬ n < 0) (hk : ¬ k < 0) (hN : n.toNatClampNeg = N') (hM : k.toNatClampNeg = K')
    (hb1 : N' * 4 ≤ 536870912) (hb2 : K' * componentBytes ty ≤ 536870912) (hb3 : K' ≤ 536870912) (hdf : fits ty (defaultValue ty) = true) (hdd : (defaultValue ty).isDefault = true) (hcells : cells + (1 + N') ≤ R.cells) (hslots : slots + (N' + N' * K') ≤ R.slots) (hz : ∀ c : ClassId, Jvm.Free.Multi.innerC c K' (defaultValue ty) = vp_cell c z) (hdg : decode cc pc = .ok (.multianewarray index 2, 4))
    (kk : ∀ (q : Nat) (r : Nat → Nat) (cA : ClassId) (H1 : Heap), (∀ i j : Nat, i < N' → j < N' → r i = r j → i = j) → (∀ i : Nat, i < N' → r i ∉ L) → va_K D cl (tys ++ [(cA, .array ty)]) s →
      va_P D cl ((X ++ [(q, .inl (cA, N', .inr (.inr (.inr (.inr (fun i => if i < N' then some (r i) else none))))))]) ++ va_pl (L ++ (List.range N').map r) (vr_up f ((List.range N').map r) (.inl (cy, z)))) H1 → va_D A ((X ++ [(q, .inl (cA, N', .inr (.inr (.inr (.inr (fun i => if i < N' then some (r i) else none))))))]) ++ va_pl (L ++ (List.range N').map r) (vr_up f ((List.range N').map r) (.inl (cy, z)))) → va_S A H0 H1 locs →
      W p l e R s m args below meth c H1 locs (cells + 1 + N') (slots + N' + N' * K') Q (F0 m (pc + 4) ls (.ref q :: rest))) : W p l e R s m args below meth c H locs cells slots Q (F0 m pc ls (.int k :: .int n :: rest)) := by
  subst hN
  subst hM
  intro T hT Xs
  obtain ⟨vm₁, cA, comp, -, fA, fC, hO, -, X', step⟩ := Xs.multianewarray2F hexec hown hclink hover harr (g := F0 m pc ls (.int k :: .int n :: rest)) rfl (by rw [hb]; exact hdg) rfl hn hk hb1 hb2 hb3 hdf hdd hcells hslots
  have ec : some cy = some comp := hcy.symm.trans fC
  cases ec
  generalize hF : Jvm.Free.Multi.fill (T.setVm vm₁) cA cy n.toNatClampNeg k.toNatClampNeg (defaultValue ty) n.toNatClampNeg = F at X' step
  have hTh : (T.setVm vm₁).heap = H := hT
  obtain ⟨f1, f2, -, -⟩ := Jvm.Free.Multi.fill_facts (T.setVm vm₁) cA cy n.toNatClampNeg k.toNatClampNeg (defaultValue ty) n.toNatClampNeg
  rw [hF, hTh] at f1 f2
  have hold : ∀ x : Nat, x < H.size → F.heap[x]? = H[x]? := fun x hx => by
    have := Jvm.Free.Multi.fill_old (T.setVm vm₁) cA cy n.toNatClampNeg k.toNatClampNeg (defaultValue ty) (a := x) (by rw [hTh]; exact hx) n.toNatClampNeg
    rw [hF, hTh] at this
    exact this
  have hrow : ∀ j : Nat, j < n.toNatClampNeg → F.heap[H.size + 1 + j]? = some (vp_cell cy z) := fun j hj => by
    have := Jvm.Free.Multi.fill_inner (T.setVm vm₁) cA cy n.toNatClampNeg k.toNatClampNeg (defaultValue ty) n.toNatClampNeg j hj
    rw [hF, hTh, hz] at this
    exact this
  have hout : Jvm.Free.Multi.outerC cA n.toNatClampNeg H.size n.toNatClampNeg = vp_cell cA (n.toNatClampNeg, .inr (.inr (.inr (.inr (fun i => if i < n.toNatClampNeg then some (H.size + 1 + i) else none))))) := by
    rw [vp_cell_q]
    exact vr_outer cA n.toNatClampNeg H.size n.toNatClampNeg
  rw [hout] at f2
  have hlt : ∀ a, a ∈ L → a < H.size := fun a ha => by
    obtain ⟨k9, hk9⟩ := va_pl_get (X := X) (f := f) ha
    exact (hP k9 _ hk9).lt
  have hnl : ∀ i : Nat, i < n.toNatClampNeg → H.size + 1 + i ∉ L := fun i _ h => by
    have := hlt _ h
    omega
  have hnm : ∀ a, a ∈ (List.range n.toNatClampNeg).map (fun i => H.size + 1 + i) → a ∉ L := fun a ha h => by
    obtain ⟨i, -, rfl⟩ := List.mem_map.mp ha
    have := hlt _ h
    omega
  have hP0 : va_P D cl (X ++ va_pl L f) F.heap := hP.kept (fun k9 x hx => hold x.1 ((hP k9 x hx).lt))
  have hP1 : va_P D cl ((X ++ va_pl L f) ++ [(H.size, .inl (cA, n.toNatClampNeg, .inr (.inr (.inr (.inr (fun i => if i < n.toNatClampNeg then some (H.size + 1 + i) else none))))))]) F.heap := hP0.app (fun k9 x hx => by
    have h0 : k9 < 1 := (List.getElem?_eq_some_iff.mp hx).1
    rw [show k9 = 0 by omega] at hx
    cases hx
    exact f2)
  have hP2 : va_P D cl (((X ++ va_pl L f) ++ [(H.size, .inl (cA, n.toNatClampNeg, .inr (.inr (.inr (.inr (fun i => if i < n.toNatClampNeg then some (H.size + 1 + i) else none))))))]) ++ ((List.range n.toNatClampNeg).map (fun i => H.size + 1 + i)).map (fun a => (a, .inl (cy, z)))) F.heap := hP1.app (fun k9 x hx => by
    obtain ⟨a, ha, rfl⟩ := List.mem_map.mp (List.mem_of_getElem? hx)
    obtain ⟨i, hi, rfl⟩ := List.mem_map.mp ha
    exact hrow i (List.mem_range.mp hi))
  have hD2 : va_D A (((X ++ va_pl L f) ++ [(H.size, .inl (cA, n.toNatClampNeg, .inr (.inr (.inr (.inr (fun i => if i < n.toNatClampNeg then some (H.size + 1 + i) else none))))))]) ++ ((List.range n.toNatClampNeg).map (fun i => H.size + 1 + i)).map (fun a => (a, .inl (cy, z)))) := by
    have hD1 := hD.push (e := .inl (cA, n.toNatClampNeg, .inr (.inr (.inr (.inr (fun i => if i < n.toNatClampNeg then some (H.size + 1 + i) else none)))))) hP rfl (hA _ hS.1)
    generalize hW1 : (X ++ va_pl L f) ++ [(H.size, .inl (cA, n.toNatClampNeg, .inr (.inr (.inr (.inr (fun i => if i < n.toNatClampNeg then some (H.size + 1 + i) else none))))))] = W1 at hD1 hP1 ⊢
    have hle : ∀ (k9 : Nat) (x : Nat × va_E), W1[k9]? = some x → x.1 ≤ H.size := fun k9 x hx => by
      rw [← hW1] at hx
      by_cases hl : k9 < (X ++ va_pl L f).length
      · rw [List.getElem?_append_left hl] at hx
        exact Nat.le_of_lt ((hP k9 x hx).lt)
      · rw [List.getElem?_append_right (by omega)] at hx
        have h0 : k9 - (X ++ va_pl L f).length < 1 := (List.getElem?_eq_some_iff.mp hx).1
        rw [show k9 - (X ++ va_pl L f).length = 0 by omega] at hx
        cases hx
        exact Nat.le_refl _
    have hr : ∀ (k9 : Nat) (x : Nat × va_E), (((List.range n.toNatClampNeg).map (fun i => H.size + 1 + i)).map (fun a => ((a, .inl (cy, z)) : Nat × va_E)))[k9]? = some x → x.1 = H.size + 1 + k9 := fun k9 x hx => by
      rw [List.getElem?_map, List.getElem?_map] at hx
      by_cases h9 : k9 < n.toNatClampNeg
      · rw [List.getElem?_range h9] at hx
        cases hx
        rfl
      · have hn0 : (List.range n.toNatClampNeg)[k9]? = none := List.getElem?_eq_none (by rw [List.length_range]; omega)
        rw [hn0] at hx
        cases hx
    refine ⟨fun i j x y hi hj hxy => ?_, fun k9 x hx => ?_⟩
    · by_cases h1 : i < W1.length <;> by_cases h2 : j < W1.length
      · rw [List.getElem?_append_left h1] at hi
        rw [List.getElem?_append_left h2] at hj
        exact hD1.1 i j x y hi hj hxy
      · rw [List.getElem?_append_left h1] at hi
        rw [List.getElem?_append_right (by omega)] at hj
        have := hle _ _ hi
        have := hr _ _ hj
        omega
      · rw [List.getElem?_append_right (by omega)] at hi
        rw [List.getElem?_append_left h2] at hj
        have := hle _ _ hj
        have := hr _ _ hi
        omega
      · rw [List.getElem?_append_right (by omega)] at hi hj
        have := hr _ _ hi
        have := hr _ _ hj
        omega
    · by_cases h1 : k9 < W1.length
      · rw [List.getElem?_append_left h1] at hx
        exact hD1.2 k9 x hx
      · rw [List.getElem?_append_right (by omega)] at hx
        have := hr _ _ hx
        exact hA _ (by have := hS.1; omega)
  have hAr : ArrOfT s cA (.array ty) := fun N9 z9 => by
    obtain ⟨-, k9, hk9, cm9, hkk9⟩ := (hO 0 0 0).1
    exact ⟨(fun q hq => by cases hq), k9, hk9, cm9, hkk9⟩
  have hK2 : va_K D cl (tys ++ [(cA, .array ty)]) s := ⟨hK.1, fun k9 x hx => by
    by_cases hl : k9 < tys.length
    · rw [List.getElem?_append_left hl] at hx
      exact hK.2 k9 x hx
    · rw [List.getElem?_append_right (by omega)] at hx
      have h0 : k9 - tys.length < 1 := (List.getElem?_eq_some_iff.mp hx).1
      rw [show k9 - tys.length = 0 by omega] at hx
      cases hx
      exact ⟨hAr, fA⟩⟩
  obtain ⟨t, a1, b1⟩ := kk H.size (fun i => H.size + 1 + i) cA F.heap (fun i j _ _ h => by have h9 : H.size + 1 + i = H.size + 1 + j := h; omega) hnl hK2 (by rw [← vr_rows hnm]; exact vr_lay hP2) (by rw [← vr_rows hnm]; exact vr_layD hD2) ⟨by rw [f1]; have := hS.1; omega, fun x h1 h2 => (hold x (Nat.lt_of_lt_of_le h1 hS.1)).trans (hS.2.1 x h1 h2), hS.2.2⟩ F rfl X'
  refine ⟨t, step t ?_, b1⟩
  have e : T.heap.size = H.size := by rw [hT]
  rw [e]
  exact a1
end VGM
/-! ===== END ===== -/

/-! ===== BEGIN printed: names, fields, word lists, decode rows ===== -/
def RX0 : String := "YearsLent$Books"
def TX0 : u_T := fun k => match k with
  | 0 => ("YearsLent$Books", "terms", "LYearsLent$Terms;", true)
  | 1 => ("YearsLent$Books", "weeks", "[I", true)
  | 2 => ("YearsLent$Books", "lost", "[I", true)
  | 3 => ("YearsLent$Books", "lender", "[I", true)
  | 4 => ("YearsLent$Books", "borrower", "[I", true)
  | 5 => ("YearsLent$Books", "amount", "[I", true)
  | 6 => ("YearsLent$Books", "dueIn", "[I", true)
  | 7 => ("YearsLent$Books", "mark", "[I", true)
  | 8 => ("YearsLent$Books", "paidByMark", "[I", true)
  | 9 => ("YearsLent$Books", "loans", "I", false)
  | _ => ("YearsLent$Books", "gone", "I", false)
def tyX0 : Nat → FieldType := fun k => match k with
  | 0 => .object "YearsLent$Terms"
  | 1 => .array .int
  | 2 => .array .int
  | 3 => .array .int
  | 4 => .array .int
  | 5 => .array .int
  | 6 => .array .int
  | 7 => .array .int
  | 8 => .array .int
  | 9 => .int
  | _ => .int
abbrev wsX00 : List Cond := u_ws RX0 TX0 11
theorem nmX0 : ∀ a, a < 11 → ∀ b, b < 11 → a ≠ b → (TX0 a).2.1 ≠ (TX0 b).2.1 := by decide +kernel
theorem tyX0_ok : ∀ k, k < 11 → parseFieldDescriptor (TX0 k).2.2.1 = some (tyX0 k) := by decide +kernel
abbrev cX0_init : ByteArray := prog_2_method_1_code
def yX0_init : MethodName := ⟨RX0, "<init>", "(LYearsLent$Terms;)V"⟩
abbrev cX0_open : ByteArray := prog_2_method_2_code
def yX0_open : MethodName := ⟨RX0, "open", "()V"⟩
abbrev cX0_copyFrom : ByteArray := prog_2_method_3_code
def yX0_copyFrom : MethodName := ⟨RX0, "copyFrom", "(LYearsLent$Books;)V"⟩
abbrev cX0_markLoans : ByteArray := prog_2_method_4_code
def yX0_markLoans : MethodName := ⟨RX0, "markLoans", "()V"⟩
abbrev cX0_isAlive : ByteArray := prog_2_method_5_code
def yX0_isAlive : MethodName := ⟨RX0, "isAlive", "(I)Z"⟩
abbrev cX0_living : ByteArray := prog_2_method_6_code
def yX0_living : MethodName := ⟨RX0, "living", "()I"⟩
abbrev cX0_lostByAll : ByteArray := prog_2_method_7_code
def yX0_lostByAll : MethodName := ⟨RX0, "lostByAll", "()I"⟩
abbrev cX0_owedToAll : ByteArray := prog_2_method_8_code
def yX0_owedToAll : MethodName := ⟨RX0, "owedToAll", "(I)I"⟩
abbrev cX0_isFit : ByteArray := prog_2_method_9_code
def yX0_isFit : MethodName := ⟨RX0, "isFit", "(IIII)Z"⟩
abbrev cX0_isGranted : ByteArray := prog_2_method_10_code
def yX0_isGranted : MethodName := ⟨RX0, "isGranted", "(IIII)Z"⟩
abbrev cX0_hindrance : ByteArray := prog_2_method_11_code
def yX0_hindrance : MethodName := ⟨RX0, "hindrance", "(IIII)I"⟩
abbrev cX0_addLoan : ByteArray := prog_2_method_12_code
def yX0_addLoan : MethodName := ⟨RX0, "addLoan", "(IIII)V"⟩
abbrev cX0_dueOn : ByteArray := prog_2_method_13_code
def yX0_dueOn : MethodName := ⟨RX0, "dueOn", "(I)I"⟩
abbrev cX0_dueFrom : ByteArray := prog_2_method_14_code
def yX0_dueFrom : MethodName := ⟨RX0, "dueFrom", "(II)I"⟩
abbrev cX0_weeksToNextDue : ByteArray := prog_2_method_15_code
def yX0_weeksToNextDue : MethodName := ⟨RX0, "weeksToNextDue", "(I)I"⟩
abbrev cX0_pass : ByteArray := prog_2_method_16_code
def yX0_pass : MethodName := ⟨RX0, "pass", "(I)V"⟩
abbrev cX0_payThoseDue : ByteArray := prog_2_method_17_code
def yX0_payThoseDue : MethodName := ⟨RX0, "payThoseDue", "()V"⟩
abbrev cX0_isDue : ByteArray := prog_2_method_18_code
def yX0_isDue : MethodName := ⟨RX0, "isDue", "(I)Z"⟩
abbrev cX0_greatestDue : ByteArray := prog_2_method_19_code
def yX0_greatestDue : MethodName := ⟨RX0, "greatestDue", "()I"⟩
abbrev cX0_pay : ByteArray := prog_2_method_20_code
def yX0_pay : MethodName := ⟨RX0, "pay", "(I)V"⟩
abbrev cX0_give : ByteArray := prog_2_method_21_code
def yX0_give : MethodName := ⟨RX0, "give", "(III)I"⟩
abbrev cX0_lowestOther : ByteArray := prog_2_method_22_code
def yX0_lowestOther : MethodName := ⟨RX0, "lowestOther", "(II)I"⟩
abbrev cX0_dropThoseDue : ByteArray := prog_2_method_23_code
def yX0_dropThoseDue : MethodName := ⟨RX0, "dropThoseDue", "()V"⟩
def RX1 : String := "YearsLent$Gifts"
def TX1 : u_T := fun k => match k with
  | 0 => ("YearsLent$Gifts", "gift", "[I", true)
  | _ => ("YearsLent$Gifts", "rest", "[I", true)
def tyX1 : Nat → FieldType := fun k => match k with
  | 0 => .array .int
  | _ => .array .int
abbrev wsX10 : List Cond := u_ws RX1 TX1 2
theorem nmX1 : ∀ a, a < 2 → ∀ b, b < 2 → a ≠ b → (TX1 a).2.1 ≠ (TX1 b).2.1 := by decide +kernel
theorem tyX1_ok : ∀ k, k < 2 → parseFieldDescriptor (TX1 k).2.2.1 = some (tyX1 k) := by decide +kernel
abbrev cX1_init : ByteArray := prog_3_method_1_code
def yX1_init : MethodName := ⟨RX1, "<init>", "()V"⟩
abbrev cX1_share : ByteArray := prog_3_method_2_code
def yX1_share : MethodName := ⟨RX1, "share", "(ILYearsLent$Books;)V"⟩
abbrev cX1_addToGreatestRest : ByteArray := prog_3_method_3_code
def yX1_addToGreatestRest : MethodName := ⟨RX1, "addToGreatestRest", "()V"⟩
abbrev cX1_takeAllOfOne : ByteArray := prog_3_method_4_code
def yX1_takeAllOfOne : MethodName := ⟨RX1, "takeAllOfOne", "(LYearsLent$Books;)Z"⟩
def RX2 : String := "YearsLent$Rings"
def TX2 : u_T := fun k => match k with
  | 0 => ("YearsLent$Rings", "owed", "[[I", true)
  | 1 => ("YearsLent$Rings", "ring", "[I", true)
  | _ => ("YearsLent$Rings", "persons", "I", false)
def tyX2 : Nat → FieldType := fun k => match k with
  | 0 => .array (.array .int)
  | 1 => .array .int
  | _ => .int
abbrev wsX20 : List Cond := u_ws RX2 TX2 3
theorem nmX2 : ∀ a, a < 3 → ∀ b, b < 3 → a ≠ b → (TX2 a).2.1 ≠ (TX2 b).2.1 := by decide +kernel
theorem tyX2_ok : ∀ k, k < 3 → parseFieldDescriptor (TX2 k).2.2.1 = some (tyX2 k) := by decide +kernel
abbrev cX2_init : ByteArray := prog_4_method_1_code
def yX2_init : MethodName := ⟨RX2, "<init>", "()V"⟩
abbrev cX2_readFrom : ByteArray := prog_4_method_2_code
def yX2_readFrom : MethodName := ⟨RX2, "readFrom", "(LYearsLent$Books;)V"⟩
abbrev cX2_clearAll : ByteArray := prog_4_method_3_code
def yX2_clearAll : MethodName := ⟨RX2, "clearAll", "()I"⟩
abbrev cX2_findShortest : ByteArray := prog_4_method_4_code
def yX2_findShortest : MethodName := ⟨RX2, "findShortest", "()I"⟩
abbrev cX2_closes : ByteArray := prog_4_method_5_code
def yX2_closes : MethodName := ⟨RX2, "closes", "(II)Z"⟩
abbrev cX2_isPlaced : ByteArray := prog_4_method_6_code
def yX2_isPlaced : MethodName := ⟨RX2, "isPlaced", "(II)Z"⟩
abbrev cX2_clear : ByteArray := prog_4_method_7_code
def yX2_clear : MethodName := ⟨RX2, "clear", "(I)I"⟩
def RX3 : String := "YearsLent$Shelf"
def TX3 : u_T := fun k => match k with
  | 0 => ("YearsLent$Shelf", "copies", "[LYearsLent$Books;", true)
  | _ => ("YearsLent$Shelf", "size", "I", false)
def tyX3 : Nat → FieldType := fun k => match k with
  | 0 => .array (.object "YearsLent$Books")
  | _ => .int
abbrev wsX30 : List Cond := u_ws RX3 TX3 2
theorem nmX3 : ∀ a, a < 2 → ∀ b, b < 2 → a ≠ b → (TX3 a).2.1 ≠ (TX3 b).2.1 := by decide +kernel
theorem tyX3_ok : ∀ k, k < 2 → parseFieldDescriptor (TX3 k).2.2.1 = some (tyX3 k) := by decide +kernel
abbrev cX3_init : ByteArray := prog_5_method_1_code
def yX3_init : MethodName := ⟨RX3, "<init>", "(ILYearsLent$Terms;)V"⟩
abbrev cX3_put : ByteArray := prog_5_method_2_code
def yX3_put : MethodName := ⟨RX3, "put", "(LYearsLent$Books;)V"⟩
abbrev cX3_moveLowestUp : ByteArray := prog_5_method_3_code
def yX3_moveLowestUp : MethodName := ⟨RX3, "moveLowestUp", "()V"⟩
abbrev cX3_takeInto : ByteArray := prog_5_method_4_code
def yX3_takeInto : MethodName := ⟨RX3, "takeInto", "(LYearsLent$Books;)I"⟩
def RX4 : String := "YearsLent$Terms"
def TX4 : u_T := fun k => match k with
  | 0 => ("YearsLent$Terms", "laid", "[I", true)
  | 1 => ("YearsLent$Terms", "persons", "I", false)
  | 2 => ("YearsLent$Terms", "rate", "I", false)
  | 3 => ("YearsLent$Terms", "kind", "I", false)
  | _ => ("YearsLent$Terms", "law", "I", false)
def tyX4 : Nat → FieldType := fun k => match k with
  | 0 => .array .int
  | 1 => .int
  | 2 => .int
  | 3 => .int
  | _ => .int
abbrev wsX40 : List Cond := u_ws RX4 TX4 5
theorem nmX4 : ∀ a, a < 5 → ∀ b, b < 5 → a ≠ b → (TX4 a).2.1 ≠ (TX4 b).2.1 := by decide +kernel
theorem tyX4_ok : ∀ k, k < 5 → parseFieldDescriptor (TX4 k).2.2.1 = some (tyX4 k) := by decide +kernel
abbrev cX4_init : ByteArray := prog_6_method_1_code
def yX4_init : MethodName := ⟨RX4, "<init>", "()V"⟩
abbrev cX4_clear : ByteArray := prog_6_method_2_code
def yX4_clear : MethodName := ⟨RX4, "clear", "()V"⟩
abbrev cX4_copyFrom : ByteArray := prog_6_method_3_code
def yX4_copyFrom : MethodName := ⟨RX4, "copyFrom", "(LYearsLent$Terms;)V"⟩
abbrev cX4_readFrom : ByteArray := prog_6_method_4_code
def yX4_readFrom : MethodName := ⟨RX4, "readFrom", "(LYearsLent$Text;)I"⟩
abbrev cX4_accept : ByteArray := prog_6_method_5_code
def yX4_accept : MethodName := ⟨RX4, "accept", "(II)Z"⟩
abbrev cX4_addPerson : ByteArray := prog_6_method_6_code
def yX4_addPerson : MethodName := ⟨RX4, "addPerson", "(I)Z"⟩
abbrev cX4_interestOn : ByteArray := prog_6_method_7_code
def yX4_interestOn : MethodName := ⟨RX4, "interestOn", "(I)I"⟩
def RX5 : String := "YearsLent$Text"
def TX5 : u_T := fun k => match k with
  | 0 => ("YearsLent$Text", "bytes", "[I", true)
  | 1 => ("YearsLent$Text", "length", "I", false)
  | 2 => ("YearsLent$Text", "letter", "I", false)
  | 3 => ("YearsLent$Text", "number", "I", false)
  | _ => ("YearsLent$Text", "end", "I", false)
def tyX5 : Nat → FieldType := fun k => match k with
  | 0 => .array .int
  | 1 => .int
  | 2 => .int
  | 3 => .int
  | _ => .int
abbrev wsX50 : List Cond := u_ws RX5 TX5 5
theorem nmX5 : ∀ a, a < 5 → ∀ b, b < 5 → a ≠ b → (TX5 a).2.1 ≠ (TX5 b).2.1 := by decide +kernel
theorem tyX5_ok : ∀ k, k < 5 → parseFieldDescriptor (TX5 k).2.2.1 = some (tyX5 k) := by decide +kernel
abbrev cX5_init : ByteArray := prog_7_method_1_code
def yX5_init : MethodName := ⟨RX5, "<init>", "()V"⟩
abbrev cX5_append : ByteArray := prog_7_method_2_code
def yX5_append : MethodName := ⟨RX5, "append", "(IJ)V"⟩
abbrev cX5_readItem : ByteArray := prog_7_method_3_code
def yX5_readItem : MethodName := ⟨RX5, "readItem", "(I)Z"⟩
def RX6 : String := "YearsLent$Told"
def TX6 : u_T := fun k => match k with
  | 0 => ("YearsLent$Told", "person", "[I", true)
  | 1 => ("YearsLent$Told", "limit", "[I", true)
  | 2 => ("YearsLent$Told", "isMore", "[Z", true)
  | _ => ("YearsLent$Told", "size", "I", false)
def tyX6 : Nat → FieldType := fun k => match k with
  | 0 => .array .int
  | 1 => .array .int
  | 2 => .array .boolean
  | _ => .int
abbrev wsX60 : List Cond := u_ws RX6 TX6 4
theorem nmX6 : ∀ a, a < 4 → ∀ b, b < 4 → a ≠ b → (TX6 a).2.1 ≠ (TX6 b).2.1 := by decide +kernel
theorem tyX6_ok : ∀ k, k < 4 → parseFieldDescriptor (TX6 k).2.2.1 = some (tyX6 k) := by decide +kernel
abbrev cX6_init : ByteArray := prog_8_method_1_code
def yX6_init : MethodName := ⟨RX6, "<init>", "()V"⟩
abbrev cX6_add : ByteArray := prog_8_method_2_code
def yX6_add : MethodName := ⟨RX6, "add", "(IIZ)V"⟩
abbrev cX6_least : ByteArray := prog_8_method_3_code
def yX6_least : MethodName := ⟨RX6, "least", "(I)I"⟩
abbrev cX6_greatest : ByteArray := prog_8_method_4_code
def yX6_greatest : MethodName := ⟨RX6, "greatest", "(I)I"⟩
abbrev cX6_bestDue : ByteArray := prog_8_method_5_code
def yX6_bestDue : MethodName := ⟨RX6, "bestDue", "(II)I"⟩
abbrev cX6_untrueOf : ByteArray := prog_8_method_6_code
def yX6_untrueOf : MethodName := ⟨RX6, "untrueOf", "(LYearsLent$Terms;)I"⟩
def RX7 : String := "YearsLent$Trial"
def TX7 : u_T := fun k => match k with
  | 0 => ("YearsLent$Trial", "books", "LYearsLent$Books;", true)
  | 1 => ("YearsLent$Trial", "deadIn", "[I", true)
  | _ => ("YearsLent$Trial", "passed", "I", false)
def tyX7 : Nat → FieldType := fun k => match k with
  | 0 => .object "YearsLent$Books"
  | 1 => .array .int
  | _ => .int
abbrev wsX70 : List Cond := u_ws RX7 TX7 3
theorem nmX7 : ∀ a, a < 3 → ∀ b, b < 3 → a ≠ b → (TX7 a).2.1 ≠ (TX7 b).2.1 := by decide +kernel
theorem tyX7_ok : ∀ k, k < 3 → parseFieldDescriptor (TX7 k).2.2.1 = some (tyX7 k) := by decide +kernel
abbrev cX7_init : ByteArray := prog_9_method_1_code
def yX7_init : MethodName := ⟨RX7, "<init>", "(LYearsLent$Terms;)V"⟩
abbrev cX7_start : ByteArray := prog_9_method_2_code
def yX7_start : MethodName := ⟨RX7, "start", "(LYearsLent$Books;)V"⟩
abbrev cX7_startWithout : ByteArray := prog_9_method_3_code
def yX7_startWithout : MethodName := ⟨RX7, "startWithout", "(ILYearsLent$Books;)V"⟩
abbrev cX7_advance : ByteArray := prog_9_method_4_code
def yX7_advance : MethodName := ⟨RX7, "advance", "(I)V"⟩
abbrev cX7_noteDeaths : ByteArray := prog_9_method_5_code
def yX7_noteDeaths : MethodName := ⟨RX7, "noteDeaths", "(I)V"⟩
abbrev cX7_loansPaidLessThan : ByteArray := prog_9_method_6_code
def yX7_loansPaidLessThan : MethodName := ⟨RX7, "loansPaidLessThan", "(LYearsLent$Trial;)I"⟩
abbrev cX7_firstDeadEarlierThan : ByteArray := prog_9_method_7_code
def yX7_firstDeadEarlierThan : MethodName := ⟨RX7, "firstDeadEarlierThan", "(LYearsLent$Trial;I)I"⟩
def RX8 : String := "YearsLent"
def TX8 : u_T := fun k => match k with
  | 0 => ("YearsLent", "text", "LYearsLent$Text;", true)
  | 1 => ("YearsLent", "terms", "LYearsLent$Terms;", true)
  | 2 => ("YearsLent", "draft", "LYearsLent$Terms;", true)
  | 3 => ("YearsLent", "books", "LYearsLent$Books;", true)
  | 4 => ("YearsLent", "trial", "LYearsLent$Trial;", true)
  | 5 => ("YearsLent", "fallen", "LYearsLent$Trial;", true)
  | 6 => ("YearsLent", "deeds", "LYearsLent$Shelf;", true)
  | 7 => ("YearsLent", "kept", "LYearsLent$Shelf;", true)
  | 8 => ("YearsLent", "told", "LYearsLent$Told;", true)
  | 9 => ("YearsLent", "rings", "LYearsLent$Rings;", true)
  | _ => ("YearsLent", "gifts", "LYearsLent$Gifts;", true)
def tyX8 : Nat → FieldType := fun k => match k with
  | 0 => .object "YearsLent$Text"
  | 1 => .object "YearsLent$Terms"
  | 2 => .object "YearsLent$Terms"
  | 3 => .object "YearsLent$Books"
  | 4 => .object "YearsLent$Trial"
  | 5 => .object "YearsLent$Trial"
  | 6 => .object "YearsLent$Shelf"
  | 7 => .object "YearsLent$Shelf"
  | 8 => .object "YearsLent$Told"
  | 9 => .object "YearsLent$Rings"
  | _ => .object "YearsLent$Gifts"
abbrev wsX80 : List Cond := u_ws RX8 TX8 11
theorem nmX8 : ∀ a, a < 11 → ∀ b, b < 11 → a ≠ b → (TX8 a).2.1 ≠ (TX8 b).2.1 := by decide +kernel
theorem tyX8_ok : ∀ k, k < 11 → parseFieldDescriptor (TX8 k).2.2.1 = some (tyX8 k) := by decide +kernel
abbrev cX8_init : ByteArray := prog_1_method_1_code
def yX8_init : MethodName := ⟨RX8, "<init>", "()V"⟩
abbrev cX8_write : ByteArray := prog_1_method_2_code
def yX8_write : MethodName := ⟨RX8, "write", "(IJ)I"⟩
abbrev cX8_wipe : ByteArray := prog_1_method_3_code
def yX8_wipe : MethodName := ⟨RX8, "wipe", "()I"⟩
abbrev cX8_fault : ByteArray := prog_1_method_4_code
def yX8_fault : MethodName := ⟨RX8, "fault", "()I"⟩
abbrev cX8_lay : ByteArray := prog_1_method_5_code
def yX8_lay : MethodName := ⟨RX8, "lay", "()I"⟩
abbrev cX8_person : ByteArray := prog_1_method_6_code
def yX8_person : MethodName := ⟨RX8, "person", "(II)I"⟩
abbrev cX8_loan : ByteArray := prog_1_method_7_code
def yX8_loan : MethodName := ⟨RX8, "loan", "(II)I"⟩
abbrev cX8_notary : ByteArray := prog_1_method_8_code
def yX8_notary : MethodName := ⟨RX8, "notary", "(IIII)I"⟩
abbrev cX8_lend : ByteArray := prog_1_method_9_code
def yX8_lend : MethodName := ⟨RX8, "lend", "(IIII)I"⟩
abbrev cX8_week : ByteArray := prog_1_method_10_code
def yX8_week : MethodName := ⟨RX8, "week", "()I"⟩
abbrev cX8_undo : ByteArray := prog_1_method_11_code
def yX8_undo : MethodName := ⟨RX8, "undo", "()I"⟩
abbrev cX8_dies : ByteArray := prog_1_method_12_code
def yX8_dies : MethodName := ⟨RX8, "dies", "(I)I"⟩
abbrev cX8_run : ByteArray := prog_1_method_13_code
def yX8_run : MethodName := ⟨RX8, "run", "(III)I"⟩
abbrev cX8_tell : ByteArray := prog_1_method_14_code
def yX8_tell : MethodName := ⟨RX8, "tell", "(IIIZ)I"⟩
abbrev cX8_forget : ByteArray := prog_1_method_15_code
def yX8_forget : MethodName := ⟨RX8, "forget", "()I"⟩
abbrev cX8_span : ByteArray := prog_1_method_16_code
def yX8_span : MethodName := ⟨RX8, "span", "(II)I"⟩
abbrev cX8_ask : ByteArray := prog_1_method_17_code
def yX8_ask : MethodName := ⟨RX8, "ask", "(II)I"⟩
abbrev cX8_bribed : ByteArray := prog_1_method_18_code
def yX8_bribed : MethodName := ⟨RX8, "bribed", "()I"⟩
abbrev cX8_cleared : ByteArray := prog_1_method_19_code
def yX8_cleared : MethodName := ⟨RX8, "cleared", "(II)I"⟩
abbrev cX8_child : ByteArray := prog_1_method_20_code
def yX8_child : MethodName := ⟨RX8, "child", "(II)I"⟩
abbrev cX8_falls : ByteArray := prog_1_method_21_code
def yX8_falls : MethodName := ⟨RX8, "falls", "(II)I"⟩
abbrev cX8_burned : ByteArray := prog_1_method_22_code
def yX8_burned : MethodName := ⟨RX8, "burned", "(IIII)I"⟩
abbrev cX8_drawn : ByteArray := prog_1_method_23_code
def yX8_drawn : MethodName := ⟨RX8, "drawn", "(III)I"⟩
abbrev cX8_keep : ByteArray := prog_1_method_24_code
def yX8_keep : MethodName := ⟨RX8, "keep", "()I"⟩
abbrev cX8_back : ByteArray := prog_1_method_25_code
def yX8_back : MethodName := ⟨RX8, "back", "()I"⟩
abbrev cX8_count : ByteArray := prog_1_method_26_code
def yX8_count : MethodName := ⟨RX8, "count", "(I)I"⟩
abbrev cX8_isPerson : ByteArray := prog_1_method_27_code
def yX8_isPerson : MethodName := ⟨RX8, "isPerson", "(I)Z"⟩
abbrev cX8_within : ByteArray := prog_1_method_28_code
def yX8_within : MethodName := ⟨RX8, "within", "(III)Z"⟩
abbrev cX8_isLoanOf : ByteArray := prog_1_method_29_code
def yX8_isLoanOf : MethodName := ⟨RX8, "isLoanOf", "(II)Z"⟩
abbrev cX8_rowsOf : ByteArray := prog_1_method_30_code
def yX8_rowsOf : MethodName := ⟨RX8, "rowsOf", "(IIII)I"⟩
abbrev cX8_numberOfFirstRow : ByteArray := prog_1_method_31_code
def yX8_numberOfFirstRow : MethodName := ⟨RX8, "numberOfFirstRow", "(IIII)I"⟩
abbrev cX8_lendByDraw : ByteArray := prog_1_method_32_code
def yX8_lendByDraw : MethodName := ⟨RX8, "lendByDraw", "(LYearsLent$Books;II)V"⟩
abbrev cX8_draw : ByteArray := prog_1_method_33_code
def yX8_draw : MethodName := ⟨RX8, "draw", "(III)I"⟩
def RX9 : String := "YearsLentModel"
def TX9 : u_T := fun k => match k with
  | 0 => ("YearsLentModel", "thrown", "I", false)
  | 1 => ("YearsLentModel", "text", "[I", true)
  | 2 => ("YearsLentModel", "typed", "I", false)
  | 3 => ("YearsLentModel", "draft", "[I", true)
  | 4 => ("YearsLentModel", "people", "I", false)
  | 5 => ("YearsLentModel", "laid", "[I", true)
  | 6 => ("YearsLentModel", "rate", "I", false)
  | 7 => ("YearsLentModel", "kind", "I", false)
  | 8 => ("YearsLentModel", "law", "I", false)
  | 9 => ("YearsLentModel", "b", "[I", true)
  | 10 => ("YearsLentModel", "spare", "[I", true)
  | 11 => ("YearsLentModel", "undone", "[I", true)
  | 12 => ("YearsLentModel", "undos", "I", false)
  | 13 => ("YearsLentModel", "kept", "[I", true)
  | 14 => ("YearsLentModel", "keeps", "I", false)
  | 15 => ("YearsLentModel", "told", "[I", true)
  | 16 => ("YearsLentModel", "tolds", "I", false)
  | 17 => ("YearsLentModel", "name", "[I", true)
  | 18 => ("YearsLentModel", "paid", "[I", true)
  | 19 => ("YearsLentModel", "else_", "[I", true)
  | 20 => ("YearsLentModel", "died", "[I", true)
  | 21 => ("YearsLentModel", "diedElse", "[I", true)
  | 22 => ("YearsLentModel", "owes", "[I", true)
  | 23 => ("YearsLentModel", "ring", "[I", true)
  | 24 => ("YearsLentModel", "least", "I", false)
  | 25 => ("YearsLentModel", "greatest", "I", false)
  | _ => ("YearsLentModel", "row", "[I", true)
def tyX9 : Nat → FieldType := fun k => match k with
  | 0 => .int
  | 1 => .array .int
  | 2 => .int
  | 3 => .array .int
  | 4 => .int
  | 5 => .array .int
  | 6 => .int
  | 7 => .int
  | 8 => .int
  | 9 => .array .int
  | 10 => .array .int
  | 11 => .array .int
  | 12 => .int
  | 13 => .array .int
  | 14 => .int
  | 15 => .array .int
  | 16 => .int
  | 17 => .array .int
  | 18 => .array .int
  | 19 => .array .int
  | 20 => .array .int
  | 21 => .array .int
  | 22 => .array .int
  | 23 => .array .int
  | 24 => .int
  | 25 => .int
  | _ => .array .int
abbrev wsX90 : List Cond := u_ws RX9 TX9 27
theorem nmX9 : ∀ a, a < 27 → ∀ b, b < 27 → a ≠ b → (TX9 a).2.1 ≠ (TX9 b).2.1 := by decide +kernel
theorem tyX9_ok : ∀ k, k < 27 → parseFieldDescriptor (TX9 k).2.2.1 = some (tyX9 k) := by decide +kernel
abbrev cX9_init : ByteArray := prog_11_method_1_code
def yX9_init : MethodName := ⟨RX9, "<init>", "()V"⟩
abbrev cX9_in : ByteArray := prog_11_method_3_code
def yX9_in : MethodName := ⟨RX9, "in", "(III)Z"⟩
abbrev cX9_lesser : ByteArray := prog_11_method_4_code
def yX9_lesser : MethodName := ⟨RX9, "lesser", "(II)I"⟩
abbrev cX9_write : ByteArray := prog_11_method_5_code
def yX9_write : MethodName := ⟨RX9, "write", "(IJ)I"⟩
abbrev cX9_wipe : ByteArray := prog_11_method_6_code
def yX9_wipe : MethodName := ⟨RX9, "wipe", "()I"⟩
abbrev cX9_byteAt : ByteArray := prog_11_method_7_code
def yX9_byteAt : MethodName := ⟨RX9, "byteAt", "(I)I"⟩
abbrev cX9_isWell : ByteArray := prog_11_method_8_code
def yX9_isWell : MethodName := ⟨RX9, "isWell", "(II)Z"⟩
abbrev cX9_faultOf : ByteArray := prog_11_method_9_code
def yX9_faultOf : MethodName := ⟨RX9, "faultOf", "()I"⟩
abbrev cX9_fault : ByteArray := prog_11_method_10_code
def yX9_fault : MethodName := ⟨RX9, "fault", "()I"⟩
abbrev cX9_begins : ByteArray := prog_11_method_11_code
def yX9_begins : MethodName := ⟨RX9, "begins", "()V"⟩
abbrev cX9_lay : ByteArray := prog_11_method_12_code
def yX9_lay : MethodName := ⟨RX9, "lay", "()I"⟩
abbrev cX9_isPerson : ByteArray := prog_11_method_13_code
def yX9_isPerson : MethodName := ⟨RX9, "isPerson", "(I)Z"⟩
abbrev cX9_owesAll : ByteArray := prog_11_method_14_code
def yX9_owesAll : MethodName := ⟨RX9, "owesAll", "(I)I"⟩
abbrev cX9_person : ByteArray := prog_11_method_15_code
def yX9_person : MethodName := ⟨RX9, "person", "(II)I"⟩
abbrev cX9_loan : ByteArray := prog_11_method_16_code
def yX9_loan : MethodName := ⟨RX9, "loan", "(II)I"⟩
abbrev cX9_dueOf : ByteArray := prog_11_method_17_code
def yX9_dueOf : MethodName := ⟨RX9, "dueOf", "(I)I"⟩
abbrev cX9_isSpan : ByteArray := prog_11_method_18_code
def yX9_isSpan : MethodName := ⟨RX9, "isSpan", "(I)Z"⟩
abbrev cX9_mayAsk : ByteArray := prog_11_method_19_code
def yX9_mayAsk : MethodName := ⟨RX9, "mayAsk", "(IIII)Z"⟩
abbrev cX9_says : ByteArray := prog_11_method_20_code
def yX9_says : MethodName := ⟨RX9, "says", "(IIII)Z"⟩
abbrev cX9_notary : ByteArray := prog_11_method_21_code
def yX9_notary : MethodName := ⟨RX9, "notary", "(IIII)I"⟩
abbrev cX9_notes : ByteArray := prog_11_method_22_code
def yX9_notes : MethodName := ⟨RX9, "notes", "()V"⟩
abbrev cX9_lends : ByteArray := prog_11_method_23_code
def yX9_lends : MethodName := ⟨RX9, "lends", "(IIII)V"⟩
abbrev cX9_lend : ByteArray := prog_11_method_24_code
def yX9_lend : MethodName := ⟨RX9, "lend", "(IIII)I"⟩
abbrev cX9_gives : ByteArray := prog_11_method_25_code
def yX9_gives : MethodName := ⟨RX9, "gives", "(III)I"⟩
abbrev cX9_pays : ByteArray := prog_11_method_26_code
def yX9_pays : MethodName := ⟨RX9, "pays", "(I)V"⟩
abbrev cX9_drops : ByteArray := prog_11_method_27_code
def yX9_drops : MethodName := ⟨RX9, "drops", "(I)V"⟩
abbrev cX9_dueNow : ByteArray := prog_11_method_28_code
def yX9_dueNow : MethodName := ⟨RX9, "dueNow", "(Z)I"⟩
abbrev cX9_goes : ByteArray := prog_11_method_29_code
def yX9_goes : MethodName := ⟨RX9, "goes", "()V"⟩
abbrev cX9_living : ByteArray := prog_11_method_30_code
def yX9_living : MethodName := ⟨RX9, "living", "()I"⟩
abbrev cX9_week : ByteArray := prog_11_method_31_code
def yX9_week : MethodName := ⟨RX9, "week", "()I"⟩
abbrev cX9_undo : ByteArray := prog_11_method_32_code
def yX9_undo : MethodName := ⟨RX9, "undo", "()I"⟩
abbrev cX9_aside : ByteArray := prog_11_method_33_code
def yX9_aside : MethodName := ⟨RX9, "aside", "(Z)V"⟩
abbrev cX9_dies : ByteArray := prog_11_method_34_code
def yX9_dies : MethodName := ⟨RX9, "dies", "(I)I"⟩
abbrev cX9_run : ByteArray := prog_11_method_35_code
def yX9_run : MethodName := ⟨RX9, "run", "(III)I"⟩
abbrev cX9_tell : ByteArray := prog_11_method_36_code
def yX9_tell : MethodName := ⟨RX9, "tell", "(IIIZ)I"⟩
abbrev cX9_forget : ByteArray := prog_11_method_37_code
def yX9_forget : MethodName := ⟨RX9, "forget", "()I"⟩
abbrev cX9_isSo : ByteArray := prog_11_method_38_code
def yX9_isSo : MethodName := ⟨RX9, "isSo", "(II)Z"⟩
abbrev cX9_spans : ByteArray := prog_11_method_39_code
def yX9_spans : MethodName := ⟨RX9, "spans", "(I)V"⟩
abbrev cX9_span : ByteArray := prog_11_method_40_code
def yX9_span : MethodName := ⟨RX9, "span", "(II)I"⟩
abbrev cX9_ask : ByteArray := prog_11_method_41_code
def yX9_ask : MethodName := ⟨RX9, "ask", "(II)I"⟩
abbrev cX9_bribed : ByteArray := prog_11_method_42_code
def yX9_bribed : MethodName := ⟨RX9, "bribed", "()I"⟩
abbrev cX9_findsRing : ByteArray := prog_11_method_43_code
def yX9_findsRing : MethodName := ⟨RX9, "findsRing", "(I)Z"⟩
abbrev cX9_clears : ByteArray := prog_11_method_44_code
def yX9_clears : MethodName := ⟨RX9, "clears", "()I"⟩
abbrev cX9_cleared : ByteArray := prog_11_method_45_code
def yX9_cleared : MethodName := ⟨RX9, "cleared", "(II)I"⟩
abbrev cX9_shares : ByteArray := prog_11_method_46_code
def yX9_shares : MethodName := ⟨RX9, "shares", "(I)Z"⟩
abbrev cX9_child : ByteArray := prog_11_method_47_code
def yX9_child : MethodName := ⟨RX9, "child", "(II)I"⟩
abbrev cX9_runs : ByteArray := prog_11_method_48_code
def yX9_runs : MethodName := ⟨RX9, "runs", "()V"⟩
abbrev cX9_falls : ByteArray := prog_11_method_49_code
def yX9_falls : MethodName := ⟨RX9, "falls", "(II)I"⟩
abbrev cX9_burned : ByteArray := prog_11_method_50_code
def yX9_burned : MethodName := ⟨RX9, "burned", "(IIII)I"⟩
abbrev cX9_draw : ByteArray := prog_11_method_51_code
def yX9_draw : MethodName := ⟨RX9, "draw", "(III)I"⟩
abbrev cX9_drawn : ByteArray := prog_11_method_52_code
def yX9_drawn : MethodName := ⟨RX9, "drawn", "(III)I"⟩
abbrev cX9_keep : ByteArray := prog_11_method_53_code
def yX9_keep : MethodName := ⟨RX9, "keep", "()I"⟩
abbrev cX9_back : ByteArray := prog_11_method_54_code
def yX9_back : MethodName := ⟨RX9, "back", "()I"⟩
abbrev cX9_count : ByteArray := prog_11_method_55_code
def yX9_count : MethodName := ⟨RX9, "count", "(I)I"⟩
def RJ9 : String := "java/lang/Math"
def TJ9 : u_T := fun k => match k with
  | _ => ("", "", "", false)
def tyJ9 : Nat → FieldType := fun k => match k with
  | _ => .int
abbrev wsJ90 : List Cond := u_ws RJ9 TJ9 0
theorem nmJ9 : ∀ a, a < 0 → ∀ b, b < 0 → a ≠ b → (TJ9 a).2.1 ≠ (TJ9 b).2.1 := by decide +kernel
theorem tyJ9_ok : ∀ k, k < 0 → parseFieldDescriptor (TJ9 k).2.2.1 = some (tyJ9 k) := by decide +kernel
abbrev cJ9_max_7cf53 : ByteArray := prog_12_method_65_code
def yJ9_max_7cf53 : MethodName := ⟨RJ9, "max", "(II)I"⟩
abbrev cJ9_min_7cf53 : ByteArray := prog_12_method_69_code
def yJ9_min_7cf53 : MethodName := ⟨RJ9, "min", "(II)I"⟩
def RJ10 : String := "java/lang/System"
def TJ10 : u_T := fun k => match k with
  | _ => ("", "", "", false)
def tyJ10 : Nat → FieldType := fun k => match k with
  | _ => .int
abbrev wsJ100 : List Cond := u_ws RJ10 TJ10 0
theorem nmJ10 : ∀ a, a < 0 → ∀ b, b < 0 → a ≠ b → (TJ10 a).2.1 ≠ (TJ10 b).2.1 := by decide +kernel
theorem tyJ10_ok : ∀ k, k < 0 → parseFieldDescriptor (TJ10 k).2.2.1 = some (tyJ10 k) := by decide +kernel
def RL : String := "YearsLentLaw"
abbrev cL_law : ByteArray := code
def yL_law : MethodName := ⟨RL, "law", "([I)Z"⟩
abbrev vwCl : List vw_C := [(RX0, TX0, 11), (RX1, TX1, 2), (RX2, TX2, 3), (RX3, TX3, 2), (RX4, TX4, 5), (RX5, TX5, 5), (RX6, TX6, 4), (RX7, TX7, 3), (RX8, TX8, 11), (RX9, TX9, 27)]
end
section
theorem dX0_init_0 : decode cX0_init 0 = .ok (.aload_n 0, 1) := by decide +kernel
theorem dX0_init_1 : decode cX0_init 1 = .ok (.invokespecial 3, 3) := by decide +kernel
theorem dX0_init_4 : decode cX0_init 4 = .ok (.aload_n 0, 1) := by decide +kernel
theorem dX0_init_5 : decode cX0_init 5 = .ok (.bipush 6, 2) := by decide +kernel
theorem dX0_init_7 : decode cX0_init 7 = .ok (.newarray .int, 2) := by decide +kernel
theorem dX0_init_9 : decode cX0_init 9 = .ok (.putfield 9, 3) := by decide +kernel
theorem dX0_init_12 : decode cX0_init 12 = .ok (.aload_n 0, 1) := by decide +kernel
theorem dX0_init_13 : decode cX0_init 13 = .ok (.bipush 6, 2) := by decide +kernel
theorem dX0_init_15 : decode cX0_init 15 = .ok (.newarray .int, 2) := by decide +kernel
theorem dX0_init_17 : decode cX0_init 17 = .ok (.putfield 15, 3) := by decide +kernel
theorem dX0_init_20 : decode cX0_init 20 = .ok (.aload_n 0, 1) := by decide +kernel
theorem dX0_init_21 : decode cX0_init 21 = .ok (.bipush 8, 2) := by decide +kernel
theorem dX0_init_23 : decode cX0_init 23 = .ok (.newarray .int, 2) := by decide +kernel
theorem dX0_init_25 : decode cX0_init 25 = .ok (.putfield 18, 3) := by decide +kernel
theorem dX0_init_28 : decode cX0_init 28 = .ok (.aload_n 0, 1) := by decide +kernel
theorem dX0_init_29 : decode cX0_init 29 = .ok (.bipush 8, 2) := by decide +kernel
theorem dX0_init_31 : decode cX0_init 31 = .ok (.newarray .int, 2) := by decide +kernel
theorem dX0_init_33 : decode cX0_init 33 = .ok (.putfield 21, 3) := by decide +kernel
theorem dX0_init_36 : decode cX0_init 36 = .ok (.aload_n 0, 1) := by decide +kernel
theorem dX0_init_37 : decode cX0_init 37 = .ok (.bipush 8, 2) := by decide +kernel
theorem dX0_init_39 : decode cX0_init 39 = .ok (.newarray .int, 2) := by decide +kernel
theorem dX0_init_41 : decode cX0_init 41 = .ok (.putfield 24, 3) := by decide +kernel
theorem dX0_init_44 : decode cX0_init 44 = .ok (.aload_n 0, 1) := by decide +kernel
theorem dX0_init_45 : decode cX0_init 45 = .ok (.bipush 8, 2) := by decide +kernel
theorem dX0_init_47 : decode cX0_init 47 = .ok (.newarray .int, 2) := by decide +kernel
theorem dX0_init_49 : decode cX0_init 49 = .ok (.putfield 27, 3) := by decide +kernel
theorem dX0_init_52 : decode cX0_init 52 = .ok (.aload_n 0, 1) := by decide +kernel
theorem dX0_init_53 : decode cX0_init 53 = .ok (.bipush 8, 2) := by decide +kernel
theorem dX0_init_55 : decode cX0_init 55 = .ok (.newarray .int, 2) := by decide +kernel
theorem dX0_init_57 : decode cX0_init 57 = .ok (.putfield 30, 3) := by decide +kernel
theorem dX0_init_60 : decode cX0_init 60 = .ok (.aload_n 0, 1) := by decide +kernel
theorem dX0_init_61 : decode cX0_init 61 = .ok (.bipush 8, 2) := by decide +kernel
theorem dX0_init_63 : decode cX0_init 63 = .ok (.newarray .int, 2) := by decide +kernel
theorem dX0_init_65 : decode cX0_init 65 = .ok (.putfield 33, 3) := by decide +kernel
theorem dX0_init_68 : decode cX0_init 68 = .ok (.aload_n 0, 1) := by decide +kernel
theorem dX0_init_69 : decode cX0_init 69 = .ok (.aload_n 1, 1) := by decide +kernel
theorem dX0_init_70 : decode cX0_init 70 = .ok (.putfield 36, 3) := by decide +kernel
theorem dX0_init_73 : decode cX0_init 73 = .ok (.return_, 1) := by decide +kernel
theorem dX0_open_0 : decode cX0_open 0 = .ok (.iconst 0, 1) := by decide +kernel
theorem dX0_open_1 : decode cX0_open 1 = .ok (.istore_n 1, 1) := by decide +kernel
theorem dX0_open_2 : decode cX0_open 2 = .ok (.iload_n 1, 1) := by decide +kernel
theorem dX0_open_3 : decode cX0_open 3 = .ok (.bipush 6, 2) := by decide +kernel
theorem dX0_open_5 : decode cX0_open 5 = .ok (.if_icmp .ge 46, 3) := by decide +kernel
theorem dX0_open_8 : decode cX0_open 8 = .ok (.aload_n 0, 1) := by decide +kernel
theorem dX0_open_9 : decode cX0_open 9 = .ok (.getfield 9, 3) := by decide +kernel
theorem dX0_open_12 : decode cX0_open 12 = .ok (.iload_n 1, 1) := by decide +kernel
theorem dX0_open_13 : decode cX0_open 13 = .ok (.iload_n 1, 1) := by decide +kernel
theorem dX0_open_14 : decode cX0_open 14 = .ok (.aload_n 0, 1) := by decide +kernel
theorem dX0_open_15 : decode cX0_open 15 = .ok (.getfield 36, 3) := by decide +kernel
theorem dX0_open_18 : decode cX0_open 18 = .ok (.getfield 40, 3) := by decide +kernel
theorem dX0_open_21 : decode cX0_open 21 = .ok (.if_icmp .ge 15, 3) := by decide +kernel
theorem dX0_open_24 : decode cX0_open 24 = .ok (.aload_n 0, 1) := by decide +kernel
theorem dX0_open_25 : decode cX0_open 25 = .ok (.getfield 36, 3) := by decide +kernel
theorem dX0_open_28 : decode cX0_open 28 = .ok (.getfield 46, 3) := by decide +kernel
theorem dX0_open_31 : decode cX0_open 31 = .ok (.iload_n 1, 1) := by decide +kernel
theorem dX0_open_32 : decode cX0_open 32 = .ok (.iaload, 1) := by decide +kernel
theorem dX0_open_33 : decode cX0_open 33 = .ok (.goto 4, 3) := by decide +kernel
theorem dX0_open_36 : decode cX0_open 36 = .ok (.iconst 0, 1) := by decide +kernel
theorem dX0_open_37 : decode cX0_open 37 = .ok (.iastore, 1) := by decide +kernel
theorem dX0_open_38 : decode cX0_open 38 = .ok (.aload_n 0, 1) := by decide +kernel
theorem dX0_open_39 : decode cX0_open 39 = .ok (.getfield 15, 3) := by decide +kernel
theorem dX0_open_42 : decode cX0_open 42 = .ok (.iload_n 1, 1) := by decide +kernel
theorem dX0_open_43 : decode cX0_open 43 = .ok (.iconst 0, 1) := by decide +kernel
theorem dX0_open_44 : decode cX0_open 44 = .ok (.iastore, 1) := by decide +kernel
theorem dX0_open_45 : decode cX0_open 45 = .ok (.iinc 1 1, 3) := by decide +kernel
theorem dX0_open_48 : decode cX0_open 48 = .ok (.goto (-46), 3) := by decide +kernel
theorem dX0_open_51 : decode cX0_open 51 = .ok (.aload_n 0, 1) := by decide +kernel
theorem dX0_open_52 : decode cX0_open 52 = .ok (.iconst 0, 1) := by decide +kernel
theorem dX0_open_53 : decode cX0_open 53 = .ok (.putfield 49, 3) := by decide +kernel
theorem dX0_open_56 : decode cX0_open 56 = .ok (.aload_n 0, 1) := by decide +kernel
theorem dX0_open_57 : decode cX0_open 57 = .ok (.iconst 0, 1) := by decide +kernel
theorem dX0_open_58 : decode cX0_open 58 = .ok (.putfield 52, 3) := by decide +kernel
theorem dX0_open_61 : decode cX0_open 61 = .ok (.return_, 1) := by decide +kernel
theorem dX0_copyFrom_0 : decode cX0_copyFrom 0 = .ok (.aload_n 1, 1) := by decide +kernel
theorem dX0_copyFrom_1 : decode cX0_copyFrom 1 = .ok (.getfield 9, 3) := by decide +kernel
theorem dX0_copyFrom_4 : decode cX0_copyFrom 4 = .ok (.iconst 0, 1) := by decide +kernel
theorem dX0_copyFrom_5 : decode cX0_copyFrom 5 = .ok (.aload_n 0, 1) := by decide +kernel
theorem dX0_copyFrom_6 : decode cX0_copyFrom 6 = .ok (.getfield 9, 3) := by decide +kernel
theorem dX0_copyFrom_9 : decode cX0_copyFrom 9 = .ok (.iconst 0, 1) := by decide +kernel
theorem dX0_copyFrom_10 : decode cX0_copyFrom 10 = .ok (.bipush 6, 2) := by decide +kernel
theorem dX0_copyFrom_12 : decode cX0_copyFrom 12 = .ok (.invokestatic 55, 3) := by decide +kernel
theorem dX0_copyFrom_15 : decode cX0_copyFrom 15 = .ok (.aload_n 1, 1) := by decide +kernel
theorem dX0_copyFrom_16 : decode cX0_copyFrom 16 = .ok (.getfield 15, 3) := by decide +kernel
theorem dX0_copyFrom_19 : decode cX0_copyFrom 19 = .ok (.iconst 0, 1) := by decide +kernel
theorem dX0_copyFrom_20 : decode cX0_copyFrom 20 = .ok (.aload_n 0, 1) := by decide +kernel
theorem dX0_copyFrom_21 : decode cX0_copyFrom 21 = .ok (.getfield 15, 3) := by decide +kernel
theorem dX0_copyFrom_24 : decode cX0_copyFrom 24 = .ok (.iconst 0, 1) := by decide +kernel
theorem dX0_copyFrom_25 : decode cX0_copyFrom 25 = .ok (.bipush 6, 2) := by decide +kernel
theorem dX0_copyFrom_27 : decode cX0_copyFrom 27 = .ok (.invokestatic 55, 3) := by decide +kernel
theorem dX0_copyFrom_30 : decode cX0_copyFrom 30 = .ok (.aload_n 1, 1) := by decide +kernel
theorem dX0_copyFrom_31 : decode cX0_copyFrom 31 = .ok (.getfield 18, 3) := by decide +kernel
theorem dX0_copyFrom_34 : decode cX0_copyFrom 34 = .ok (.iconst 0, 1) := by decide +kernel
theorem dX0_copyFrom_35 : decode cX0_copyFrom 35 = .ok (.aload_n 0, 1) := by decide +kernel
theorem dX0_copyFrom_36 : decode cX0_copyFrom 36 = .ok (.getfield 18, 3) := by decide +kernel
theorem dX0_copyFrom_39 : decode cX0_copyFrom 39 = .ok (.iconst 0, 1) := by decide +kernel
theorem dX0_copyFrom_40 : decode cX0_copyFrom 40 = .ok (.bipush 8, 2) := by decide +kernel
theorem dX0_copyFrom_42 : decode cX0_copyFrom 42 = .ok (.invokestatic 55, 3) := by decide +kernel
theorem dX0_copyFrom_45 : decode cX0_copyFrom 45 = .ok (.aload_n 1, 1) := by decide +kernel
theorem dX0_copyFrom_46 : decode cX0_copyFrom 46 = .ok (.getfield 21, 3) := by decide +kernel
theorem dX0_copyFrom_49 : decode cX0_copyFrom 49 = .ok (.iconst 0, 1) := by decide +kernel
theorem dX0_copyFrom_50 : decode cX0_copyFrom 50 = .ok (.aload_n 0, 1) := by decide +kernel
theorem dX0_copyFrom_51 : decode cX0_copyFrom 51 = .ok (.getfield 21, 3) := by decide +kernel
theorem dX0_copyFrom_54 : decode cX0_copyFrom 54 = .ok (.iconst 0, 1) := by decide +kernel
theorem dX0_copyFrom_55 : decode cX0_copyFrom 55 = .ok (.bipush 8, 2) := by decide +kernel
theorem dX0_copyFrom_57 : decode cX0_copyFrom 57 = .ok (.invokestatic 55, 3) := by decide +kernel
theorem dX0_copyFrom_60 : decode cX0_copyFrom 60 = .ok (.aload_n 1, 1) := by decide +kernel
theorem dX0_copyFrom_61 : decode cX0_copyFrom 61 = .ok (.getfield 24, 3) := by decide +kernel
theorem dX0_copyFrom_64 : decode cX0_copyFrom 64 = .ok (.iconst 0, 1) := by decide +kernel
theorem dX0_copyFrom_65 : decode cX0_copyFrom 65 = .ok (.aload_n 0, 1) := by decide +kernel
theorem dX0_copyFrom_66 : decode cX0_copyFrom 66 = .ok (.getfield 24, 3) := by decide +kernel
theorem dX0_copyFrom_69 : decode cX0_copyFrom 69 = .ok (.iconst 0, 1) := by decide +kernel
theorem dX0_copyFrom_70 : decode cX0_copyFrom 70 = .ok (.bipush 8, 2) := by decide +kernel
theorem dX0_copyFrom_72 : decode cX0_copyFrom 72 = .ok (.invokestatic 55, 3) := by decide +kernel
theorem dX0_copyFrom_75 : decode cX0_copyFrom 75 = .ok (.aload_n 1, 1) := by decide +kernel
theorem dX0_copyFrom_76 : decode cX0_copyFrom 76 = .ok (.getfield 27, 3) := by decide +kernel
theorem dX0_copyFrom_79 : decode cX0_copyFrom 79 = .ok (.iconst 0, 1) := by decide +kernel
theorem dX0_copyFrom_80 : decode cX0_copyFrom 80 = .ok (.aload_n 0, 1) := by decide +kernel
theorem dX0_copyFrom_81 : decode cX0_copyFrom 81 = .ok (.getfield 27, 3) := by decide +kernel
theorem dX0_copyFrom_84 : decode cX0_copyFrom 84 = .ok (.iconst 0, 1) := by decide +kernel
theorem dX0_copyFrom_85 : decode cX0_copyFrom 85 = .ok (.bipush 8, 2) := by decide +kernel
theorem dX0_copyFrom_87 : decode cX0_copyFrom 87 = .ok (.invokestatic 55, 3) := by decide +kernel
theorem dX0_copyFrom_90 : decode cX0_copyFrom 90 = .ok (.aload_n 0, 1) := by decide +kernel
theorem dX0_copyFrom_91 : decode cX0_copyFrom 91 = .ok (.aload_n 1, 1) := by decide +kernel
theorem dX0_copyFrom_92 : decode cX0_copyFrom 92 = .ok (.getfield 49, 3) := by decide +kernel
theorem dX0_copyFrom_95 : decode cX0_copyFrom 95 = .ok (.putfield 49, 3) := by decide +kernel
theorem dX0_copyFrom_98 : decode cX0_copyFrom 98 = .ok (.aload_n 0, 1) := by decide +kernel
theorem dX0_copyFrom_99 : decode cX0_copyFrom 99 = .ok (.aload_n 1, 1) := by decide +kernel
theorem dX0_copyFrom_100 : decode cX0_copyFrom 100 = .ok (.getfield 52, 3) := by decide +kernel
theorem dX0_copyFrom_103 : decode cX0_copyFrom 103 = .ok (.putfield 52, 3) := by decide +kernel
theorem dX0_copyFrom_106 : decode cX0_copyFrom 106 = .ok (.return_, 1) := by decide +kernel
theorem dX0_markLoans_0 : decode cX0_markLoans 0 = .ok (.iconst 0, 1) := by decide +kernel
theorem dX0_markLoans_1 : decode cX0_markLoans 1 = .ok (.istore_n 1, 1) := by decide +kernel
theorem dX0_markLoans_2 : decode cX0_markLoans 2 = .ok (.iload_n 1, 1) := by decide +kernel
theorem dX0_markLoans_3 : decode cX0_markLoans 3 = .ok (.bipush 8, 2) := by decide +kernel
theorem dX0_markLoans_5 : decode cX0_markLoans 5 = .ok (.if_icmp .ge 23, 3) := by decide +kernel
theorem dX0_markLoans_8 : decode cX0_markLoans 8 = .ok (.aload_n 0, 1) := by decide +kernel
theorem dX0_markLoans_9 : decode cX0_markLoans 9 = .ok (.getfield 30, 3) := by decide +kernel
theorem dX0_markLoans_12 : decode cX0_markLoans 12 = .ok (.iload_n 1, 1) := by decide +kernel
theorem dX0_markLoans_13 : decode cX0_markLoans 13 = .ok (.iload_n 1, 1) := by decide +kernel
theorem dX0_markLoans_14 : decode cX0_markLoans 14 = .ok (.iastore, 1) := by decide +kernel
theorem dX0_markLoans_15 : decode cX0_markLoans 15 = .ok (.aload_n 0, 1) := by decide +kernel
theorem dX0_markLoans_16 : decode cX0_markLoans 16 = .ok (.getfield 33, 3) := by decide +kernel
theorem dX0_markLoans_19 : decode cX0_markLoans 19 = .ok (.iload_n 1, 1) := by decide +kernel
theorem dX0_markLoans_20 : decode cX0_markLoans 20 = .ok (.iconst 0, 1) := by decide +kernel
theorem dX0_markLoans_21 : decode cX0_markLoans 21 = .ok (.iastore, 1) := by decide +kernel
theorem dX0_markLoans_22 : decode cX0_markLoans 22 = .ok (.iinc 1 1, 3) := by decide +kernel
theorem dX0_markLoans_25 : decode cX0_markLoans 25 = .ok (.goto (-23), 3) := by decide +kernel
theorem dX0_markLoans_28 : decode cX0_markLoans 28 = .ok (.return_, 1) := by decide +kernel
theorem dX0_isAlive_0 : decode cX0_isAlive 0 = .ok (.iload_n 1, 1) := by decide +kernel
theorem dX0_isAlive_1 : decode cX0_isAlive 1 = .ok (.iconst 0, 1) := by decide +kernel
theorem dX0_isAlive_2 : decode cX0_isAlive 2 = .ok (.aload_n 0, 1) := by decide +kernel
theorem dX0_isAlive_3 : decode cX0_isAlive 3 = .ok (.getfield 36, 3) := by decide +kernel
theorem dX0_isAlive_6 : decode cX0_isAlive 6 = .ok (.getfield 40, 3) := by decide +kernel
theorem dX0_isAlive_9 : decode cX0_isAlive 9 = .ok (.iconst 1, 1) := by decide +kernel
theorem dX0_isAlive_10 : decode cX0_isAlive 10 = .ok (.isub, 1) := by decide +kernel
theorem dX0_isAlive_11 : decode cX0_isAlive 11 = .ok (.invokestatic 61, 3) := by decide +kernel
theorem dX0_isAlive_14 : decode cX0_isAlive 14 = .ok (.ifCond .eq 16, 3) := by decide +kernel
theorem dX0_isAlive_17 : decode cX0_isAlive 17 = .ok (.aload_n 0, 1) := by decide +kernel
theorem dX0_isAlive_18 : decode cX0_isAlive 18 = .ok (.getfield 9, 3) := by decide +kernel
theorem dX0_isAlive_21 : decode cX0_isAlive 21 = .ok (.iload_n 1, 1) := by decide +kernel
theorem dX0_isAlive_22 : decode cX0_isAlive 22 = .ok (.iaload, 1) := by decide +kernel
theorem dX0_isAlive_23 : decode cX0_isAlive 23 = .ok (.ifCond .le 7, 3) := by decide +kernel
theorem dX0_isAlive_26 : decode cX0_isAlive 26 = .ok (.iconst 1, 1) := by decide +kernel
theorem dX0_isAlive_27 : decode cX0_isAlive 27 = .ok (.goto 4, 3) := by decide +kernel
theorem dX0_isAlive_30 : decode cX0_isAlive 30 = .ok (.iconst 0, 1) := by decide +kernel
theorem dX0_isAlive_31 : decode cX0_isAlive 31 = .ok (.ireturn, 1) := by decide +kernel
theorem dX0_living_0 : decode cX0_living 0 = .ok (.iconst 0, 1) := by decide +kernel
theorem dX0_living_1 : decode cX0_living 1 = .ok (.istore_n 1, 1) := by decide +kernel
theorem dX0_living_2 : decode cX0_living 2 = .ok (.iconst 0, 1) := by decide +kernel
theorem dX0_living_3 : decode cX0_living 3 = .ok (.istore_n 2, 1) := by decide +kernel
theorem dX0_living_4 : decode cX0_living 4 = .ok (.iload_n 2, 1) := by decide +kernel
theorem dX0_living_5 : decode cX0_living 5 = .ok (.aload_n 0, 1) := by decide +kernel
theorem dX0_living_6 : decode cX0_living 6 = .ok (.getfield 36, 3) := by decide +kernel
theorem dX0_living_9 : decode cX0_living 9 = .ok (.getfield 40, 3) := by decide +kernel
theorem dX0_living_12 : decode cX0_living 12 = .ok (.if_icmp .ge 25, 3) := by decide +kernel
theorem dX0_living_15 : decode cX0_living 15 = .ok (.iload_n 1, 1) := by decide +kernel
theorem dX0_living_16 : decode cX0_living 16 = .ok (.aload_n 0, 1) := by decide +kernel
theorem dX0_living_17 : decode cX0_living 17 = .ok (.iload_n 2, 1) := by decide +kernel
theorem dX0_living_18 : decode cX0_living 18 = .ok (.invokevirtual 65, 3) := by decide +kernel
theorem dX0_living_21 : decode cX0_living 21 = .ok (.ifCond .eq 7, 3) := by decide +kernel
theorem dX0_living_24 : decode cX0_living 24 = .ok (.iconst 1, 1) := by decide +kernel
theorem dX0_living_25 : decode cX0_living 25 = .ok (.goto 4, 3) := by decide +kernel
theorem dX0_living_28 : decode cX0_living 28 = .ok (.iconst 0, 1) := by decide +kernel
theorem dX0_living_29 : decode cX0_living 29 = .ok (.iadd, 1) := by decide +kernel
theorem dX0_living_30 : decode cX0_living 30 = .ok (.istore_n 1, 1) := by decide +kernel
theorem dX0_living_31 : decode cX0_living 31 = .ok (.iinc 2 1, 3) := by decide +kernel
theorem dX0_living_34 : decode cX0_living 34 = .ok (.goto (-30), 3) := by decide +kernel
theorem dX0_living_37 : decode cX0_living 37 = .ok (.iload_n 1, 1) := by decide +kernel
theorem dX0_living_38 : decode cX0_living 38 = .ok (.ireturn, 1) := by decide +kernel
theorem dX0_lostByAll_0 : decode cX0_lostByAll 0 = .ok (.iconst 0, 1) := by decide +kernel
theorem dX0_lostByAll_1 : decode cX0_lostByAll 1 = .ok (.istore_n 1, 1) := by decide +kernel
theorem dX0_lostByAll_2 : decode cX0_lostByAll 2 = .ok (.iconst 0, 1) := by decide +kernel
theorem dX0_lostByAll_3 : decode cX0_lostByAll 3 = .ok (.istore_n 2, 1) := by decide +kernel
theorem dX0_lostByAll_4 : decode cX0_lostByAll 4 = .ok (.iload_n 2, 1) := by decide +kernel
theorem dX0_lostByAll_5 : decode cX0_lostByAll 5 = .ok (.aload_n 0, 1) := by decide +kernel
theorem dX0_lostByAll_6 : decode cX0_lostByAll 6 = .ok (.getfield 36, 3) := by decide +kernel
theorem dX0_lostByAll_9 : decode cX0_lostByAll 9 = .ok (.getfield 40, 3) := by decide +kernel
theorem dX0_lostByAll_12 : decode cX0_lostByAll 12 = .ok (.if_icmp .ge 18, 3) := by decide +kernel
theorem dX0_lostByAll_15 : decode cX0_lostByAll 15 = .ok (.iload_n 1, 1) := by decide +kernel
theorem dX0_lostByAll_16 : decode cX0_lostByAll 16 = .ok (.aload_n 0, 1) := by decide +kernel
theorem dX0_lostByAll_17 : decode cX0_lostByAll 17 = .ok (.getfield 15, 3) := by decide +kernel
theorem dX0_lostByAll_20 : decode cX0_lostByAll 20 = .ok (.iload_n 2, 1) := by decide +kernel
theorem dX0_lostByAll_21 : decode cX0_lostByAll 21 = .ok (.iaload, 1) := by decide +kernel
theorem dX0_lostByAll_22 : decode cX0_lostByAll 22 = .ok (.iadd, 1) := by decide +kernel
theorem dX0_lostByAll_23 : decode cX0_lostByAll 23 = .ok (.istore_n 1, 1) := by decide +kernel
theorem dX0_lostByAll_24 : decode cX0_lostByAll 24 = .ok (.iinc 2 1, 3) := by decide +kernel
theorem dX0_lostByAll_27 : decode cX0_lostByAll 27 = .ok (.goto (-23), 3) := by decide +kernel
theorem dX0_lostByAll_30 : decode cX0_lostByAll 30 = .ok (.iload_n 1, 1) := by decide +kernel
theorem dX0_lostByAll_31 : decode cX0_lostByAll 31 = .ok (.ireturn, 1) := by decide +kernel
theorem dX0_owedToAll_0 : decode cX0_owedToAll 0 = .ok (.iconst 0, 1) := by decide +kernel
theorem dX0_owedToAll_1 : decode cX0_owedToAll 1 = .ok (.istore_n 2, 1) := by decide +kernel
theorem dX0_owedToAll_2 : decode cX0_owedToAll 2 = .ok (.iconst 0, 1) := by decide +kernel
theorem dX0_owedToAll_3 : decode cX0_owedToAll 3 = .ok (.istore_n 3, 1) := by decide +kernel
theorem dX0_owedToAll_4 : decode cX0_owedToAll 4 = .ok (.iload_n 3, 1) := by decide +kernel
theorem dX0_owedToAll_5 : decode cX0_owedToAll 5 = .ok (.aload_n 0, 1) := by decide +kernel
theorem dX0_owedToAll_6 : decode cX0_owedToAll 6 = .ok (.getfield 49, 3) := by decide +kernel
theorem dX0_owedToAll_9 : decode cX0_owedToAll 9 = .ok (.if_icmp .ge 32, 3) := by decide +kernel
theorem dX0_owedToAll_12 : decode cX0_owedToAll 12 = .ok (.iload_n 2, 1) := by decide +kernel
theorem dX0_owedToAll_13 : decode cX0_owedToAll 13 = .ok (.aload_n 0, 1) := by decide +kernel
theorem dX0_owedToAll_14 : decode cX0_owedToAll 14 = .ok (.getfield 21, 3) := by decide +kernel
theorem dX0_owedToAll_17 : decode cX0_owedToAll 17 = .ok (.iload_n 3, 1) := by decide +kernel
theorem dX0_owedToAll_18 : decode cX0_owedToAll 18 = .ok (.iaload, 1) := by decide +kernel
theorem dX0_owedToAll_19 : decode cX0_owedToAll 19 = .ok (.iload_n 1, 1) := by decide +kernel
theorem dX0_owedToAll_20 : decode cX0_owedToAll 20 = .ok (.if_icmp .ne 12, 3) := by decide +kernel
theorem dX0_owedToAll_23 : decode cX0_owedToAll 23 = .ok (.aload_n 0, 1) := by decide +kernel
theorem dX0_owedToAll_24 : decode cX0_owedToAll 24 = .ok (.getfield 24, 3) := by decide +kernel
theorem dX0_owedToAll_27 : decode cX0_owedToAll 27 = .ok (.iload_n 3, 1) := by decide +kernel
theorem dX0_owedToAll_28 : decode cX0_owedToAll 28 = .ok (.iaload, 1) := by decide +kernel
theorem dX0_owedToAll_29 : decode cX0_owedToAll 29 = .ok (.goto 4, 3) := by decide +kernel
theorem dX0_owedToAll_32 : decode cX0_owedToAll 32 = .ok (.iconst 0, 1) := by decide +kernel
theorem dX0_owedToAll_33 : decode cX0_owedToAll 33 = .ok (.iadd, 1) := by decide +kernel
theorem dX0_owedToAll_34 : decode cX0_owedToAll 34 = .ok (.istore_n 2, 1) := by decide +kernel
theorem dX0_owedToAll_35 : decode cX0_owedToAll 35 = .ok (.iinc 3 1, 3) := by decide +kernel
theorem dX0_owedToAll_38 : decode cX0_owedToAll 38 = .ok (.goto (-34), 3) := by decide +kernel
theorem dX0_owedToAll_41 : decode cX0_owedToAll 41 = .ok (.iload_n 2, 1) := by decide +kernel
theorem dX0_owedToAll_42 : decode cX0_owedToAll 42 = .ok (.ireturn, 1) := by decide +kernel
theorem dX0_isFit_0 : decode cX0_isFit 0 = .ok (.iload_n 1, 1) := by decide +kernel
theorem dX0_isFit_1 : decode cX0_isFit 1 = .ok (.iload_n 2, 1) := by decide +kernel
theorem dX0_isFit_2 : decode cX0_isFit 2 = .ok (.if_icmp .eq 32, 3) := by decide +kernel
theorem dX0_isFit_5 : decode cX0_isFit 5 = .ok (.aload_n 0, 1) := by decide +kernel
theorem dX0_isFit_6 : decode cX0_isFit 6 = .ok (.iload_n 1, 1) := by decide +kernel
theorem dX0_isFit_7 : decode cX0_isFit 7 = .ok (.invokevirtual 65, 3) := by decide +kernel
theorem dX0_isFit_10 : decode cX0_isFit 10 = .ok (.ifCond .eq 24, 3) := by decide +kernel
theorem dX0_isFit_13 : decode cX0_isFit 13 = .ok (.aload_n 0, 1) := by decide +kernel
theorem dX0_isFit_14 : decode cX0_isFit 14 = .ok (.iload_n 2, 1) := by decide +kernel
theorem dX0_isFit_15 : decode cX0_isFit 15 = .ok (.invokevirtual 65, 3) := by decide +kernel
theorem dX0_isFit_18 : decode cX0_isFit 18 = .ok (.ifCond .eq 16, 3) := by decide +kernel
theorem dX0_isFit_21 : decode cX0_isFit 21 = .ok (.iload_n 3, 1) := by decide +kernel
theorem dX0_isFit_22 : decode cX0_isFit 22 = .ok (.iload 4, 2) := by decide +kernel
theorem dX0_isFit_24 : decode cX0_isFit 24 = .ok (.invokestatic 69, 3) := by decide +kernel
theorem dX0_isFit_27 : decode cX0_isFit 27 = .ok (.ifCond .eq 7, 3) := by decide +kernel
theorem dX0_isFit_30 : decode cX0_isFit 30 = .ok (.iconst 1, 1) := by decide +kernel
theorem dX0_isFit_31 : decode cX0_isFit 31 = .ok (.goto 4, 3) := by decide +kernel
theorem dX0_isFit_34 : decode cX0_isFit 34 = .ok (.iconst 0, 1) := by decide +kernel
theorem dX0_isFit_35 : decode cX0_isFit 35 = .ok (.ireturn, 1) := by decide +kernel
theorem dX0_isGranted_0 : decode cX0_isGranted 0 = .ok (.aload_n 0, 1) := by decide +kernel
theorem dX0_isGranted_1 : decode cX0_isGranted 1 = .ok (.getfield 36, 3) := by decide +kernel
theorem dX0_isGranted_4 : decode cX0_isGranted 4 = .ok (.getfield 73, 3) := by decide +kernel
theorem dX0_isGranted_7 : decode cX0_isGranted 7 = .ok (.lookupswitch 84 #[(0, 25), (1, 68)], 25) := by decide +kernel
theorem dX0_isGranted_32 : decode cX0_isGranted 32 = .ok (.aload_n 0, 1) := by decide +kernel
theorem dX0_isGranted_33 : decode cX0_isGranted 33 = .ok (.getfield 9, 3) := by decide +kernel
theorem dX0_isGranted_36 : decode cX0_isGranted 36 = .ok (.iload_n 1, 1) := by decide +kernel
theorem dX0_isGranted_37 : decode cX0_isGranted 37 = .ok (.iaload, 1) := by decide +kernel
theorem dX0_isGranted_38 : decode cX0_isGranted 38 = .ok (.iload_n 3, 1) := by decide +kernel
theorem dX0_isGranted_39 : decode cX0_isGranted 39 = .ok (.if_icmp .le 34, 3) := by decide +kernel
theorem dX0_isGranted_42 : decode cX0_isGranted 42 = .ok (.aload_n 0, 1) := by decide +kernel
theorem dX0_isGranted_43 : decode cX0_isGranted 43 = .ok (.getfield 9, 3) := by decide +kernel
theorem dX0_isGranted_46 : decode cX0_isGranted 46 = .ok (.iload_n 2, 1) := by decide +kernel
theorem dX0_isGranted_47 : decode cX0_isGranted 47 = .ok (.iaload, 1) := by decide +kernel
theorem dX0_isGranted_48 : decode cX0_isGranted 48 = .ok (.iload_n 3, 1) := by decide +kernel
theorem dX0_isGranted_49 : decode cX0_isGranted 49 = .ok (.iadd, 1) := by decide +kernel
theorem dX0_isGranted_50 : decode cX0_isGranted 50 = .ok (.iload 4, 2) := by decide +kernel
theorem dX0_isGranted_52 : decode cX0_isGranted 52 = .ok (.isub, 1) := by decide +kernel
theorem dX0_isGranted_53 : decode cX0_isGranted 53 = .ok (.aload_n 0, 1) := by decide +kernel
theorem dX0_isGranted_54 : decode cX0_isGranted 54 = .ok (.iload_n 2, 1) := by decide +kernel
theorem dX0_isGranted_55 : decode cX0_isGranted 55 = .ok (.iload 4, 2) := by decide +kernel
theorem dX0_isGranted_57 : decode cX0_isGranted 57 = .ok (.invokevirtual 76, 3) := by decide +kernel
theorem dX0_isGranted_60 : decode cX0_isGranted 60 = .ok (.isub, 1) := by decide +kernel
theorem dX0_isGranted_61 : decode cX0_isGranted 61 = .ok (.aload_n 0, 1) := by decide +kernel
theorem dX0_isGranted_62 : decode cX0_isGranted 62 = .ok (.iload_n 3, 1) := by decide +kernel
theorem dX0_isGranted_63 : decode cX0_isGranted 63 = .ok (.invokevirtual 80, 3) := by decide +kernel
theorem dX0_isGranted_66 : decode cX0_isGranted 66 = .ok (.if_icmp .le 7, 3) := by decide +kernel
theorem dX0_isGranted_69 : decode cX0_isGranted 69 = .ok (.iconst 1, 1) := by decide +kernel
theorem dX0_isGranted_70 : decode cX0_isGranted 70 = .ok (.goto 4, 3) := by decide +kernel
theorem dX0_isGranted_73 : decode cX0_isGranted 73 = .ok (.iconst 0, 1) := by decide +kernel
theorem dX0_isGranted_74 : decode cX0_isGranted 74 = .ok (.ireturn, 1) := by decide +kernel
theorem dX0_isGranted_75 : decode cX0_isGranted 75 = .ok (.aload_n 0, 1) := by decide +kernel
theorem dX0_isGranted_76 : decode cX0_isGranted 76 = .ok (.getfield 9, 3) := by decide +kernel
theorem dX0_isGranted_79 : decode cX0_isGranted 79 = .ok (.iload_n 1, 1) := by decide +kernel
theorem dX0_isGranted_80 : decode cX0_isGranted 80 = .ok (.iaload, 1) := by decide +kernel
theorem dX0_isGranted_81 : decode cX0_isGranted 81 = .ok (.iload_n 3, 1) := by decide +kernel
theorem dX0_isGranted_82 : decode cX0_isGranted 82 = .ok (.if_icmp .le 7, 3) := by decide +kernel
theorem dX0_isGranted_85 : decode cX0_isGranted 85 = .ok (.iconst 1, 1) := by decide +kernel
theorem dX0_isGranted_86 : decode cX0_isGranted 86 = .ok (.goto 4, 3) := by decide +kernel
theorem dX0_isGranted_89 : decode cX0_isGranted 89 = .ok (.iconst 0, 1) := by decide +kernel
theorem dX0_isGranted_90 : decode cX0_isGranted 90 = .ok (.ireturn, 1) := by decide +kernel
theorem dX0_isGranted_91 : decode cX0_isGranted 91 = .ok (.iconst 0, 1) := by decide +kernel
theorem dX0_isGranted_92 : decode cX0_isGranted 92 = .ok (.ireturn, 1) := by decide +kernel
theorem dX0_hindrance_0 : decode cX0_hindrance 0 = .ok (.aload_n 0, 1) := by decide +kernel
theorem dX0_hindrance_1 : decode cX0_hindrance 1 = .ok (.iload_n 1, 1) := by decide +kernel
theorem dX0_hindrance_2 : decode cX0_hindrance 2 = .ok (.iload_n 2, 1) := by decide +kernel
theorem dX0_hindrance_3 : decode cX0_hindrance 3 = .ok (.iload_n 3, 1) := by decide +kernel
theorem dX0_hindrance_4 : decode cX0_hindrance 4 = .ok (.iload 4, 2) := by decide +kernel
theorem dX0_hindrance_6 : decode cX0_hindrance 6 = .ok (.invokevirtual 84, 3) := by decide +kernel
theorem dX0_hindrance_9 : decode cX0_hindrance 9 = .ok (.ifCond .ne 5, 3) := by decide +kernel
theorem dX0_hindrance_12 : decode cX0_hindrance 12 = .ok (.iconst (-1), 1) := by decide +kernel
theorem dX0_hindrance_13 : decode cX0_hindrance 13 = .ok (.ireturn, 1) := by decide +kernel
theorem dX0_hindrance_14 : decode cX0_hindrance 14 = .ok (.aload_n 0, 1) := by decide +kernel
theorem dX0_hindrance_15 : decode cX0_hindrance 15 = .ok (.iload_n 1, 1) := by decide +kernel
theorem dX0_hindrance_16 : decode cX0_hindrance 16 = .ok (.iload_n 2, 1) := by decide +kernel
theorem dX0_hindrance_17 : decode cX0_hindrance 17 = .ok (.iload_n 3, 1) := by decide +kernel
theorem dX0_hindrance_18 : decode cX0_hindrance 18 = .ok (.iload 4, 2) := by decide +kernel
theorem dX0_hindrance_20 : decode cX0_hindrance 20 = .ok (.invokevirtual 88, 3) := by decide +kernel
theorem dX0_hindrance_23 : decode cX0_hindrance 23 = .ok (.ifCond .ne 6, 3) := by decide +kernel
theorem dX0_hindrance_26 : decode cX0_hindrance 26 = .ok (.bipush (-2), 2) := by decide +kernel
theorem dX0_hindrance_28 : decode cX0_hindrance 28 = .ok (.ireturn, 1) := by decide +kernel
theorem dX0_hindrance_29 : decode cX0_hindrance 29 = .ok (.aload_n 0, 1) := by decide +kernel
theorem dX0_hindrance_30 : decode cX0_hindrance 30 = .ok (.getfield 49, 3) := by decide +kernel
theorem dX0_hindrance_33 : decode cX0_hindrance 33 = .ok (.bipush 8, 2) := by decide +kernel
theorem dX0_hindrance_35 : decode cX0_hindrance 35 = .ok (.if_icmp .lt 8, 3) := by decide +kernel
theorem dX0_hindrance_38 : decode cX0_hindrance 38 = .ok (.bipush (-3), 2) := by decide +kernel
theorem dX0_hindrance_40 : decode cX0_hindrance 40 = .ok (.goto 4, 3) := by decide +kernel
theorem dX0_hindrance_43 : decode cX0_hindrance 43 = .ok (.iconst 0, 1) := by decide +kernel
theorem dX0_hindrance_44 : decode cX0_hindrance 44 = .ok (.ireturn, 1) := by decide +kernel
theorem dX0_addLoan_0 : decode cX0_addLoan 0 = .ok (.aload_n 0, 1) := by decide +kernel
theorem dX0_addLoan_1 : decode cX0_addLoan 1 = .ok (.getfield 49, 3) := by decide +kernel
theorem dX0_addLoan_4 : decode cX0_addLoan 4 = .ok (.bipush 8, 2) := by decide +kernel
theorem dX0_addLoan_6 : decode cX0_addLoan 6 = .ok (.if_icmp .lt 4, 3) := by decide +kernel
theorem dX0_addLoan_9 : decode cX0_addLoan 9 = .ok (.return_, 1) := by decide +kernel
theorem dX0_addLoan_10 : decode cX0_addLoan 10 = .ok (.aload_n 0, 1) := by decide +kernel
theorem dX0_addLoan_11 : decode cX0_addLoan 11 = .ok (.getfield 18, 3) := by decide +kernel
theorem dX0_addLoan_14 : decode cX0_addLoan 14 = .ok (.aload_n 0, 1) := by decide +kernel
theorem dX0_addLoan_15 : decode cX0_addLoan 15 = .ok (.getfield 49, 3) := by decide +kernel
theorem dX0_addLoan_18 : decode cX0_addLoan 18 = .ok (.iload_n 1, 1) := by decide +kernel
theorem dX0_addLoan_19 : decode cX0_addLoan 19 = .ok (.iastore, 1) := by decide +kernel
theorem dX0_addLoan_20 : decode cX0_addLoan 20 = .ok (.aload_n 0, 1) := by decide +kernel
theorem dX0_addLoan_21 : decode cX0_addLoan 21 = .ok (.getfield 21, 3) := by decide +kernel
theorem dX0_addLoan_24 : decode cX0_addLoan 24 = .ok (.aload_n 0, 1) := by decide +kernel
theorem dX0_addLoan_25 : decode cX0_addLoan 25 = .ok (.getfield 49, 3) := by decide +kernel
theorem dX0_addLoan_28 : decode cX0_addLoan 28 = .ok (.iload_n 2, 1) := by decide +kernel
theorem dX0_addLoan_29 : decode cX0_addLoan 29 = .ok (.iastore, 1) := by decide +kernel
theorem dX0_addLoan_30 : decode cX0_addLoan 30 = .ok (.aload_n 0, 1) := by decide +kernel
theorem dX0_addLoan_31 : decode cX0_addLoan 31 = .ok (.getfield 24, 3) := by decide +kernel
theorem dX0_addLoan_34 : decode cX0_addLoan 34 = .ok (.aload_n 0, 1) := by decide +kernel
theorem dX0_addLoan_35 : decode cX0_addLoan 35 = .ok (.getfield 49, 3) := by decide +kernel
theorem dX0_addLoan_38 : decode cX0_addLoan 38 = .ok (.iload_n 3, 1) := by decide +kernel
theorem dX0_addLoan_39 : decode cX0_addLoan 39 = .ok (.iastore, 1) := by decide +kernel
theorem dX0_addLoan_40 : decode cX0_addLoan 40 = .ok (.aload_n 0, 1) := by decide +kernel
theorem dX0_addLoan_41 : decode cX0_addLoan 41 = .ok (.getfield 27, 3) := by decide +kernel
theorem dX0_addLoan_44 : decode cX0_addLoan 44 = .ok (.aload_n 0, 1) := by decide +kernel
theorem dX0_addLoan_45 : decode cX0_addLoan 45 = .ok (.getfield 49, 3) := by decide +kernel
theorem dX0_addLoan_48 : decode cX0_addLoan 48 = .ok (.iload 4, 2) := by decide +kernel
theorem dX0_addLoan_50 : decode cX0_addLoan 50 = .ok (.iastore, 1) := by decide +kernel
theorem dX0_addLoan_51 : decode cX0_addLoan 51 = .ok (.aload_n 0, 1) := by decide +kernel
theorem dX0_addLoan_52 : decode cX0_addLoan 52 = .ok (.dup, 1) := by decide +kernel
theorem dX0_addLoan_53 : decode cX0_addLoan 53 = .ok (.getfield 49, 3) := by decide +kernel
theorem dX0_addLoan_56 : decode cX0_addLoan 56 = .ok (.iconst 1, 1) := by decide +kernel
theorem dX0_addLoan_57 : decode cX0_addLoan 57 = .ok (.iadd, 1) := by decide +kernel
theorem dX0_addLoan_58 : decode cX0_addLoan 58 = .ok (.putfield 49, 3) := by decide +kernel
theorem dX0_addLoan_61 : decode cX0_addLoan 61 = .ok (.aload_n 0, 1) := by decide +kernel
theorem dX0_addLoan_62 : decode cX0_addLoan 62 = .ok (.getfield 9, 3) := by decide +kernel
theorem dX0_addLoan_65 : decode cX0_addLoan 65 = .ok (.iload_n 1, 1) := by decide +kernel
theorem dX0_addLoan_66 : decode cX0_addLoan 66 = .ok (.dup2, 1) := by decide +kernel
theorem dX0_addLoan_67 : decode cX0_addLoan 67 = .ok (.iaload, 1) := by decide +kernel
theorem dX0_addLoan_68 : decode cX0_addLoan 68 = .ok (.iload_n 3, 1) := by decide +kernel
theorem dX0_addLoan_69 : decode cX0_addLoan 69 = .ok (.isub, 1) := by decide +kernel
theorem dX0_addLoan_70 : decode cX0_addLoan 70 = .ok (.iastore, 1) := by decide +kernel
theorem dX0_addLoan_71 : decode cX0_addLoan 71 = .ok (.aload_n 0, 1) := by decide +kernel
theorem dX0_addLoan_72 : decode cX0_addLoan 72 = .ok (.getfield 9, 3) := by decide +kernel
theorem dX0_addLoan_75 : decode cX0_addLoan 75 = .ok (.iload_n 2, 1) := by decide +kernel
theorem dX0_addLoan_76 : decode cX0_addLoan 76 = .ok (.dup2, 1) := by decide +kernel
theorem dX0_addLoan_77 : decode cX0_addLoan 77 = .ok (.iaload, 1) := by decide +kernel
theorem dX0_addLoan_78 : decode cX0_addLoan 78 = .ok (.iload_n 3, 1) := by decide +kernel
theorem dX0_addLoan_79 : decode cX0_addLoan 79 = .ok (.iadd, 1) := by decide +kernel
theorem dX0_addLoan_80 : decode cX0_addLoan 80 = .ok (.iastore, 1) := by decide +kernel
theorem dX0_addLoan_81 : decode cX0_addLoan 81 = .ok (.return_, 1) := by decide +kernel
theorem dX0_dueOn_0 : decode cX0_dueOn 0 = .ok (.iload_n 1, 1) := by decide +kernel
theorem dX0_dueOn_1 : decode cX0_dueOn 1 = .ok (.aload_n 0, 1) := by decide +kernel
theorem dX0_dueOn_2 : decode cX0_dueOn 2 = .ok (.getfield 36, 3) := by decide +kernel
theorem dX0_dueOn_5 : decode cX0_dueOn 5 = .ok (.iload_n 1, 1) := by decide +kernel
theorem dX0_dueOn_6 : decode cX0_dueOn 6 = .ok (.invokevirtual 91, 3) := by decide +kernel
theorem dX0_dueOn_9 : decode cX0_dueOn 9 = .ok (.iadd, 1) := by decide +kernel
theorem dX0_dueOn_10 : decode cX0_dueOn 10 = .ok (.ireturn, 1) := by decide +kernel
theorem dX0_dueFrom_0 : decode cX0_dueFrom 0 = .ok (.iconst 0, 1) := by decide +kernel
theorem dX0_dueFrom_1 : decode cX0_dueFrom 1 = .ok (.istore_n 3, 1) := by decide +kernel
theorem dX0_dueFrom_2 : decode cX0_dueFrom 2 = .ok (.iconst 0, 1) := by decide +kernel
theorem dX0_dueFrom_3 : decode cX0_dueFrom 3 = .ok (.istore 4, 2) := by decide +kernel
theorem dX0_dueFrom_5 : decode cX0_dueFrom 5 = .ok (.iload 4, 2) := by decide +kernel
theorem dX0_dueFrom_7 : decode cX0_dueFrom 7 = .ok (.aload_n 0, 1) := by decide +kernel
theorem dX0_dueFrom_8 : decode cX0_dueFrom 8 = .ok (.getfield 49, 3) := by decide +kernel
theorem dX0_dueFrom_11 : decode cX0_dueFrom 11 = .ok (.if_icmp .ge 49, 3) := by decide +kernel
theorem dX0_dueFrom_14 : decode cX0_dueFrom 14 = .ok (.iload_n 3, 1) := by decide +kernel
theorem dX0_dueFrom_15 : decode cX0_dueFrom 15 = .ok (.aload_n 0, 1) := by decide +kernel
theorem dX0_dueFrom_16 : decode cX0_dueFrom 16 = .ok (.getfield 21, 3) := by decide +kernel
theorem dX0_dueFrom_19 : decode cX0_dueFrom 19 = .ok (.iload 4, 2) := by decide +kernel
theorem dX0_dueFrom_21 : decode cX0_dueFrom 21 = .ok (.iaload, 1) := by decide +kernel
theorem dX0_dueFrom_22 : decode cX0_dueFrom 22 = .ok (.iload_n 1, 1) := by decide +kernel
theorem dX0_dueFrom_23 : decode cX0_dueFrom 23 = .ok (.if_icmp .ne 28, 3) := by decide +kernel
theorem dX0_dueFrom_26 : decode cX0_dueFrom 26 = .ok (.aload_n 0, 1) := by decide +kernel
theorem dX0_dueFrom_27 : decode cX0_dueFrom 27 = .ok (.getfield 27, 3) := by decide +kernel
theorem dX0_dueFrom_30 : decode cX0_dueFrom 30 = .ok (.iload 4, 2) := by decide +kernel
theorem dX0_dueFrom_32 : decode cX0_dueFrom 32 = .ok (.iaload, 1) := by decide +kernel
theorem dX0_dueFrom_33 : decode cX0_dueFrom 33 = .ok (.iload_n 2, 1) := by decide +kernel
theorem dX0_dueFrom_34 : decode cX0_dueFrom 34 = .ok (.if_icmp .gt 17, 3) := by decide +kernel
theorem dX0_dueFrom_37 : decode cX0_dueFrom 37 = .ok (.aload_n 0, 1) := by decide +kernel
theorem dX0_dueFrom_38 : decode cX0_dueFrom 38 = .ok (.aload_n 0, 1) := by decide +kernel
theorem dX0_dueFrom_39 : decode cX0_dueFrom 39 = .ok (.getfield 24, 3) := by decide +kernel
theorem dX0_dueFrom_42 : decode cX0_dueFrom 42 = .ok (.iload 4, 2) := by decide +kernel
theorem dX0_dueFrom_44 : decode cX0_dueFrom 44 = .ok (.iaload, 1) := by decide +kernel
theorem dX0_dueFrom_45 : decode cX0_dueFrom 45 = .ok (.invokevirtual 80, 3) := by decide +kernel
theorem dX0_dueFrom_48 : decode cX0_dueFrom 48 = .ok (.goto 4, 3) := by decide +kernel
theorem dX0_dueFrom_51 : decode cX0_dueFrom 51 = .ok (.iconst 0, 1) := by decide +kernel
theorem dX0_dueFrom_52 : decode cX0_dueFrom 52 = .ok (.iadd, 1) := by decide +kernel
theorem dX0_dueFrom_53 : decode cX0_dueFrom 53 = .ok (.istore_n 3, 1) := by decide +kernel
theorem dX0_dueFrom_54 : decode cX0_dueFrom 54 = .ok (.iinc 4 1, 3) := by decide +kernel
theorem dX0_dueFrom_57 : decode cX0_dueFrom 57 = .ok (.goto (-52), 3) := by decide +kernel
theorem dX0_dueFrom_60 : decode cX0_dueFrom 60 = .ok (.iload_n 3, 1) := by decide +kernel
theorem dX0_dueFrom_61 : decode cX0_dueFrom 61 = .ok (.ireturn, 1) := by decide +kernel
theorem dX0_weeksToNextDue_0 : decode cX0_weeksToNextDue 0 = .ok (.iload_n 1, 1) := by decide +kernel
theorem dX0_weeksToNextDue_1 : decode cX0_weeksToNextDue 1 = .ok (.istore_n 2, 1) := by decide +kernel
theorem dX0_weeksToNextDue_2 : decode cX0_weeksToNextDue 2 = .ok (.iconst 0, 1) := by decide +kernel
theorem dX0_weeksToNextDue_3 : decode cX0_weeksToNextDue 3 = .ok (.istore_n 3, 1) := by decide +kernel
theorem dX0_weeksToNextDue_4 : decode cX0_weeksToNextDue 4 = .ok (.iload_n 3, 1) := by decide +kernel
theorem dX0_weeksToNextDue_5 : decode cX0_weeksToNextDue 5 = .ok (.aload_n 0, 1) := by decide +kernel
theorem dX0_weeksToNextDue_6 : decode cX0_weeksToNextDue 6 = .ok (.getfield 49, 3) := by decide +kernel
theorem dX0_weeksToNextDue_9 : decode cX0_weeksToNextDue 9 = .ok (.if_icmp .ge 20, 3) := by decide +kernel
theorem dX0_weeksToNextDue_12 : decode cX0_weeksToNextDue 12 = .ok (.iload_n 2, 1) := by decide +kernel
theorem dX0_weeksToNextDue_13 : decode cX0_weeksToNextDue 13 = .ok (.aload_n 0, 1) := by decide +kernel
theorem dX0_weeksToNextDue_14 : decode cX0_weeksToNextDue 14 = .ok (.getfield 27, 3) := by decide +kernel
theorem dX0_weeksToNextDue_17 : decode cX0_weeksToNextDue 17 = .ok (.iload_n 3, 1) := by decide +kernel
theorem dX0_weeksToNextDue_18 : decode cX0_weeksToNextDue 18 = .ok (.iaload, 1) := by decide +kernel
theorem dX0_weeksToNextDue_19 : decode cX0_weeksToNextDue 19 = .ok (.invokestatic 94, 3) := by decide +kernel
theorem dX0_weeksToNextDue_22 : decode cX0_weeksToNextDue 22 = .ok (.istore_n 2, 1) := by decide +kernel
theorem dX0_weeksToNextDue_23 : decode cX0_weeksToNextDue 23 = .ok (.iinc 3 1, 3) := by decide +kernel
theorem dX0_weeksToNextDue_26 : decode cX0_weeksToNextDue 26 = .ok (.goto (-22), 3) := by decide +kernel
theorem dX0_weeksToNextDue_29 : decode cX0_weeksToNextDue 29 = .ok (.iconst 1, 1) := by decide +kernel
theorem dX0_weeksToNextDue_30 : decode cX0_weeksToNextDue 30 = .ok (.iload_n 2, 1) := by decide +kernel
theorem dX0_weeksToNextDue_31 : decode cX0_weeksToNextDue 31 = .ok (.invokestatic 99, 3) := by decide +kernel
theorem dX0_weeksToNextDue_34 : decode cX0_weeksToNextDue 34 = .ok (.ireturn, 1) := by decide +kernel
theorem dX0_pass_0 : decode cX0_pass 0 = .ok (.iconst 0, 1) := by decide +kernel
theorem dX0_pass_1 : decode cX0_pass 1 = .ok (.istore_n 2, 1) := by decide +kernel
theorem dX0_pass_2 : decode cX0_pass 2 = .ok (.iload_n 2, 1) := by decide +kernel
theorem dX0_pass_3 : decode cX0_pass 3 = .ok (.aload_n 0, 1) := by decide +kernel
theorem dX0_pass_4 : decode cX0_pass 4 = .ok (.getfield 36, 3) := by decide +kernel
theorem dX0_pass_7 : decode cX0_pass 7 = .ok (.getfield 40, 3) := by decide +kernel
theorem dX0_pass_10 : decode cX0_pass 10 = .ok (.if_icmp .ge 27, 3) := by decide +kernel
theorem dX0_pass_13 : decode cX0_pass 13 = .ok (.aload_n 0, 1) := by decide +kernel
theorem dX0_pass_14 : decode cX0_pass 14 = .ok (.getfield 9, 3) := by decide +kernel
theorem dX0_pass_17 : decode cX0_pass 17 = .ok (.iload_n 2, 1) := by decide +kernel
theorem dX0_pass_18 : decode cX0_pass 18 = .ok (.iconst 0, 1) := by decide +kernel
theorem dX0_pass_19 : decode cX0_pass 19 = .ok (.aload_n 0, 1) := by decide +kernel
theorem dX0_pass_20 : decode cX0_pass 20 = .ok (.getfield 9, 3) := by decide +kernel
theorem dX0_pass_23 : decode cX0_pass 23 = .ok (.iload_n 2, 1) := by decide +kernel
theorem dX0_pass_24 : decode cX0_pass 24 = .ok (.iaload, 1) := by decide +kernel
theorem dX0_pass_25 : decode cX0_pass 25 = .ok (.iload_n 1, 1) := by decide +kernel
theorem dX0_pass_26 : decode cX0_pass 26 = .ok (.isub, 1) := by decide +kernel
theorem dX0_pass_27 : decode cX0_pass 27 = .ok (.invokestatic 99, 3) := by decide +kernel
theorem dX0_pass_30 : decode cX0_pass 30 = .ok (.iastore, 1) := by decide +kernel
theorem dX0_pass_31 : decode cX0_pass 31 = .ok (.iinc 2 1, 3) := by decide +kernel
theorem dX0_pass_34 : decode cX0_pass 34 = .ok (.goto (-32), 3) := by decide +kernel
theorem dX0_pass_37 : decode cX0_pass 37 = .ok (.iconst 0, 1) := by decide +kernel
theorem dX0_pass_38 : decode cX0_pass 38 = .ok (.istore_n 2, 1) := by decide +kernel
theorem dX0_pass_39 : decode cX0_pass 39 = .ok (.iload_n 2, 1) := by decide +kernel
theorem dX0_pass_40 : decode cX0_pass 40 = .ok (.aload_n 0, 1) := by decide +kernel
theorem dX0_pass_41 : decode cX0_pass 41 = .ok (.getfield 49, 3) := by decide +kernel
theorem dX0_pass_44 : decode cX0_pass 44 = .ok (.if_icmp .ge 19, 3) := by decide +kernel
theorem dX0_pass_47 : decode cX0_pass 47 = .ok (.aload_n 0, 1) := by decide +kernel
theorem dX0_pass_48 : decode cX0_pass 48 = .ok (.getfield 27, 3) := by decide +kernel
theorem dX0_pass_51 : decode cX0_pass 51 = .ok (.iload_n 2, 1) := by decide +kernel
theorem dX0_pass_52 : decode cX0_pass 52 = .ok (.dup2, 1) := by decide +kernel
theorem dX0_pass_53 : decode cX0_pass 53 = .ok (.iaload, 1) := by decide +kernel
theorem dX0_pass_54 : decode cX0_pass 54 = .ok (.iload_n 1, 1) := by decide +kernel
theorem dX0_pass_55 : decode cX0_pass 55 = .ok (.isub, 1) := by decide +kernel
theorem dX0_pass_56 : decode cX0_pass 56 = .ok (.iastore, 1) := by decide +kernel
theorem dX0_pass_57 : decode cX0_pass 57 = .ok (.iinc 2 1, 3) := by decide +kernel
theorem dX0_pass_60 : decode cX0_pass 60 = .ok (.goto (-21), 3) := by decide +kernel
theorem dX0_pass_63 : decode cX0_pass 63 = .ok (.aload_n 0, 1) := by decide +kernel
theorem dX0_pass_64 : decode cX0_pass 64 = .ok (.invokevirtual 102, 3) := by decide +kernel
theorem dX0_pass_67 : decode cX0_pass 67 = .ok (.aload_n 0, 1) := by decide +kernel
theorem dX0_pass_68 : decode cX0_pass 68 = .ok (.invokevirtual 105, 3) := by decide +kernel
theorem dX0_pass_71 : decode cX0_pass 71 = .ok (.aload_n 0, 1) := by decide +kernel
theorem dX0_pass_72 : decode cX0_pass 72 = .ok (.dup, 1) := by decide +kernel
theorem dX0_pass_73 : decode cX0_pass 73 = .ok (.getfield 52, 3) := by decide +kernel
theorem dX0_pass_76 : decode cX0_pass 76 = .ok (.iload_n 1, 1) := by decide +kernel
theorem dX0_pass_77 : decode cX0_pass 77 = .ok (.iadd, 1) := by decide +kernel
theorem dX0_pass_78 : decode cX0_pass 78 = .ok (.putfield 52, 3) := by decide +kernel
theorem dX0_pass_81 : decode cX0_pass 81 = .ok (.return_, 1) := by decide +kernel
theorem dX0_payThoseDue_0 : decode cX0_payThoseDue 0 = .ok (.aload_n 0, 1) := by decide +kernel
theorem dX0_payThoseDue_1 : decode cX0_payThoseDue 1 = .ok (.getfield 36, 3) := by decide +kernel
theorem dX0_payThoseDue_4 : decode cX0_payThoseDue 4 = .ok (.getfield 108, 3) := by decide +kernel
theorem dX0_payThoseDue_7 : decode cX0_payThoseDue 7 = .ok (.iconst 2, 1) := by decide +kernel
theorem dX0_payThoseDue_8 : decode cX0_payThoseDue 8 = .ok (.if_icmp .ne 10, 3) := by decide +kernel
theorem dX0_payThoseDue_11 : decode cX0_payThoseDue 11 = .ok (.aload_n 0, 1) := by decide +kernel
theorem dX0_payThoseDue_12 : decode cX0_payThoseDue 12 = .ok (.invokevirtual 111, 3) := by decide +kernel
theorem dX0_payThoseDue_15 : decode cX0_payThoseDue 15 = .ok (.goto 5, 3) := by decide +kernel
theorem dX0_payThoseDue_18 : decode cX0_payThoseDue 18 = .ok (.bipush (-4), 2) := by decide +kernel
theorem dX0_payThoseDue_20 : decode cX0_payThoseDue 20 = .ok (.istore_n 1, 1) := by decide +kernel
theorem dX0_payThoseDue_21 : decode cX0_payThoseDue 21 = .ok (.iload_n 1, 1) := by decide +kernel
theorem dX0_payThoseDue_22 : decode cX0_payThoseDue 22 = .ok (.bipush (-4), 2) := by decide +kernel
theorem dX0_payThoseDue_24 : decode cX0_payThoseDue 24 = .ok (.if_icmp .eq 8, 3) := by decide +kernel
theorem dX0_payThoseDue_27 : decode cX0_payThoseDue 27 = .ok (.aload_n 0, 1) := by decide +kernel
theorem dX0_payThoseDue_28 : decode cX0_payThoseDue 28 = .ok (.iload_n 1, 1) := by decide +kernel
theorem dX0_payThoseDue_29 : decode cX0_payThoseDue 29 = .ok (.invokevirtual 115, 3) := by decide +kernel
theorem dX0_payThoseDue_32 : decode cX0_payThoseDue 32 = .ok (.iconst 0, 1) := by decide +kernel
theorem dX0_payThoseDue_33 : decode cX0_payThoseDue 33 = .ok (.istore_n 2, 1) := by decide +kernel
theorem dX0_payThoseDue_34 : decode cX0_payThoseDue 34 = .ok (.iload_n 2, 1) := by decide +kernel
theorem dX0_payThoseDue_35 : decode cX0_payThoseDue 35 = .ok (.aload_n 0, 1) := by decide +kernel
theorem dX0_payThoseDue_36 : decode cX0_payThoseDue 36 = .ok (.getfield 49, 3) := by decide +kernel
theorem dX0_payThoseDue_39 : decode cX0_payThoseDue 39 = .ok (.if_icmp .ge 27, 3) := by decide +kernel
theorem dX0_payThoseDue_42 : decode cX0_payThoseDue 42 = .ok (.aload_n 0, 1) := by decide +kernel
theorem dX0_payThoseDue_43 : decode cX0_payThoseDue 43 = .ok (.iload_n 2, 1) := by decide +kernel
theorem dX0_payThoseDue_44 : decode cX0_payThoseDue 44 = .ok (.invokevirtual 119, 3) := by decide +kernel
theorem dX0_payThoseDue_47 : decode cX0_payThoseDue 47 = .ok (.ifCond .eq 13, 3) := by decide +kernel
theorem dX0_payThoseDue_50 : decode cX0_payThoseDue 50 = .ok (.iload_n 2, 1) := by decide +kernel
theorem dX0_payThoseDue_51 : decode cX0_payThoseDue 51 = .ok (.iload_n 1, 1) := by decide +kernel
theorem dX0_payThoseDue_52 : decode cX0_payThoseDue 52 = .ok (.if_icmp .eq 8, 3) := by decide +kernel
theorem dX0_payThoseDue_55 : decode cX0_payThoseDue 55 = .ok (.aload_n 0, 1) := by decide +kernel
theorem dX0_payThoseDue_56 : decode cX0_payThoseDue 56 = .ok (.iload_n 2, 1) := by decide +kernel
theorem dX0_payThoseDue_57 : decode cX0_payThoseDue 57 = .ok (.invokevirtual 115, 3) := by decide +kernel
theorem dX0_payThoseDue_60 : decode cX0_payThoseDue 60 = .ok (.iinc 2 1, 3) := by decide +kernel
theorem dX0_payThoseDue_63 : decode cX0_payThoseDue 63 = .ok (.goto (-29), 3) := by decide +kernel
theorem dX0_payThoseDue_66 : decode cX0_payThoseDue 66 = .ok (.return_, 1) := by decide +kernel
theorem dX0_isDue_0 : decode cX0_isDue 0 = .ok (.aload_n 0, 1) := by decide +kernel
theorem dX0_isDue_1 : decode cX0_isDue 1 = .ok (.getfield 27, 3) := by decide +kernel
theorem dX0_isDue_4 : decode cX0_isDue 4 = .ok (.iload_n 1, 1) := by decide +kernel
theorem dX0_isDue_5 : decode cX0_isDue 5 = .ok (.iaload, 1) := by decide +kernel
theorem dX0_isDue_6 : decode cX0_isDue 6 = .ok (.ifCond .gt 7, 3) := by decide +kernel
theorem dX0_isDue_9 : decode cX0_isDue 9 = .ok (.iconst 1, 1) := by decide +kernel
theorem dX0_isDue_10 : decode cX0_isDue 10 = .ok (.goto 4, 3) := by decide +kernel
theorem dX0_isDue_13 : decode cX0_isDue 13 = .ok (.iconst 0, 1) := by decide +kernel
theorem dX0_isDue_14 : decode cX0_isDue 14 = .ok (.ireturn, 1) := by decide +kernel
theorem dX0_greatestDue_0 : decode cX0_greatestDue 0 = .ok (.bipush (-4), 2) := by decide +kernel
theorem dX0_greatestDue_2 : decode cX0_greatestDue 2 = .ok (.istore_n 1, 1) := by decide +kernel
theorem dX0_greatestDue_3 : decode cX0_greatestDue 3 = .ok (.iconst 0, 1) := by decide +kernel
theorem dX0_greatestDue_4 : decode cX0_greatestDue 4 = .ok (.istore_n 2, 1) := by decide +kernel
theorem dX0_greatestDue_5 : decode cX0_greatestDue 5 = .ok (.iload_n 2, 1) := by decide +kernel
theorem dX0_greatestDue_6 : decode cX0_greatestDue 6 = .ok (.aload_n 0, 1) := by decide +kernel
theorem dX0_greatestDue_7 : decode cX0_greatestDue 7 = .ok (.getfield 49, 3) := by decide +kernel
theorem dX0_greatestDue_10 : decode cX0_greatestDue 10 = .ok (.if_icmp .ge 40, 3) := by decide +kernel
theorem dX0_greatestDue_13 : decode cX0_greatestDue 13 = .ok (.aload_n 0, 1) := by decide +kernel
theorem dX0_greatestDue_14 : decode cX0_greatestDue 14 = .ok (.iload_n 2, 1) := by decide +kernel
theorem dX0_greatestDue_15 : decode cX0_greatestDue 15 = .ok (.invokevirtual 119, 3) := by decide +kernel
theorem dX0_greatestDue_18 : decode cX0_greatestDue 18 = .ok (.ifCond .eq 26, 3) := by decide +kernel
theorem dX0_greatestDue_21 : decode cX0_greatestDue 21 = .ok (.iload_n 1, 1) := by decide +kernel
theorem dX0_greatestDue_22 : decode cX0_greatestDue 22 = .ok (.bipush (-4), 2) := by decide +kernel
theorem dX0_greatestDue_24 : decode cX0_greatestDue 24 = .ok (.if_icmp .eq 18, 3) := by decide +kernel
theorem dX0_greatestDue_27 : decode cX0_greatestDue 27 = .ok (.aload_n 0, 1) := by decide +kernel
theorem dX0_greatestDue_28 : decode cX0_greatestDue 28 = .ok (.getfield 24, 3) := by decide +kernel
theorem dX0_greatestDue_31 : decode cX0_greatestDue 31 = .ok (.iload_n 2, 1) := by decide +kernel
theorem dX0_greatestDue_32 : decode cX0_greatestDue 32 = .ok (.iaload, 1) := by decide +kernel
theorem dX0_greatestDue_33 : decode cX0_greatestDue 33 = .ok (.aload_n 0, 1) := by decide +kernel
theorem dX0_greatestDue_34 : decode cX0_greatestDue 34 = .ok (.getfield 24, 3) := by decide +kernel
theorem dX0_greatestDue_37 : decode cX0_greatestDue 37 = .ok (.iload_n 1, 1) := by decide +kernel
theorem dX0_greatestDue_38 : decode cX0_greatestDue 38 = .ok (.iaload, 1) := by decide +kernel
theorem dX0_greatestDue_39 : decode cX0_greatestDue 39 = .ok (.if_icmp .le 5, 3) := by decide +kernel
theorem dX0_greatestDue_42 : decode cX0_greatestDue 42 = .ok (.iload_n 2, 1) := by decide +kernel
theorem dX0_greatestDue_43 : decode cX0_greatestDue 43 = .ok (.istore_n 1, 1) := by decide +kernel
theorem dX0_greatestDue_44 : decode cX0_greatestDue 44 = .ok (.iinc 2 1, 3) := by decide +kernel
theorem dX0_greatestDue_47 : decode cX0_greatestDue 47 = .ok (.goto (-42), 3) := by decide +kernel
theorem dX0_greatestDue_50 : decode cX0_greatestDue 50 = .ok (.iload_n 1, 1) := by decide +kernel
theorem dX0_greatestDue_51 : decode cX0_greatestDue 51 = .ok (.ireturn, 1) := by decide +kernel
theorem dX0_pay_0 : decode cX0_pay 0 = .ok (.aload_n 0, 1) := by decide +kernel
theorem dX0_pay_1 : decode cX0_pay 1 = .ok (.getfield 18, 3) := by decide +kernel
theorem dX0_pay_4 : decode cX0_pay 4 = .ok (.iload_n 1, 1) := by decide +kernel
theorem dX0_pay_5 : decode cX0_pay 5 = .ok (.iaload, 1) := by decide +kernel
theorem dX0_pay_6 : decode cX0_pay 6 = .ok (.istore_n 2, 1) := by decide +kernel
theorem dX0_pay_7 : decode cX0_pay 7 = .ok (.aload_n 0, 1) := by decide +kernel
theorem dX0_pay_8 : decode cX0_pay 8 = .ok (.getfield 21, 3) := by decide +kernel
theorem dX0_pay_11 : decode cX0_pay 11 = .ok (.iload_n 1, 1) := by decide +kernel
theorem dX0_pay_12 : decode cX0_pay 12 = .ok (.iaload, 1) := by decide +kernel
theorem dX0_pay_13 : decode cX0_pay 13 = .ok (.istore_n 3, 1) := by decide +kernel
theorem dX0_pay_14 : decode cX0_pay 14 = .ok (.aload_n 0, 1) := by decide +kernel
theorem dX0_pay_15 : decode cX0_pay 15 = .ok (.iload_n 2, 1) := by decide +kernel
theorem dX0_pay_16 : decode cX0_pay 16 = .ok (.invokevirtual 65, 3) := by decide +kernel
theorem dX0_pay_19 : decode cX0_pay 19 = .ok (.ifCond .ne 4, 3) := by decide +kernel
theorem dX0_pay_22 : decode cX0_pay 22 = .ok (.return_, 1) := by decide +kernel
theorem dX0_pay_23 : decode cX0_pay 23 = .ok (.aload_n 0, 1) := by decide +kernel
theorem dX0_pay_24 : decode cX0_pay 24 = .ok (.aload_n 0, 1) := by decide +kernel
theorem dX0_pay_25 : decode cX0_pay 25 = .ok (.getfield 24, 3) := by decide +kernel
theorem dX0_pay_28 : decode cX0_pay 28 = .ok (.iload_n 1, 1) := by decide +kernel
theorem dX0_pay_29 : decode cX0_pay 29 = .ok (.iaload, 1) := by decide +kernel
theorem dX0_pay_30 : decode cX0_pay 30 = .ok (.invokevirtual 80, 3) := by decide +kernel
theorem dX0_pay_33 : decode cX0_pay 33 = .ok (.istore 4, 2) := by decide +kernel
theorem dX0_pay_35 : decode cX0_pay 35 = .ok (.aload_n 0, 1) := by decide +kernel
theorem dX0_pay_36 : decode cX0_pay 36 = .ok (.iload_n 3, 1) := by decide +kernel
theorem dX0_pay_37 : decode cX0_pay 37 = .ok (.iload_n 2, 1) := by decide +kernel
theorem dX0_pay_38 : decode cX0_pay 38 = .ok (.aload_n 0, 1) := by decide +kernel
theorem dX0_pay_39 : decode cX0_pay 39 = .ok (.getfield 36, 3) := by decide +kernel
theorem dX0_pay_42 : decode cX0_pay 42 = .ok (.getfield 108, 3) := by decide +kernel
theorem dX0_pay_45 : decode cX0_pay 45 = .ok (.iconst 1, 1) := by decide +kernel
theorem dX0_pay_46 : decode cX0_pay 46 = .ok (.if_icmp .ne 18, 3) := by decide +kernel
theorem dX0_pay_49 : decode cX0_pay 49 = .ok (.aload_n 0, 1) := by decide +kernel
theorem dX0_pay_50 : decode cX0_pay 50 = .ok (.getfield 9, 3) := by decide +kernel
theorem dX0_pay_53 : decode cX0_pay 53 = .ok (.iload_n 3, 1) := by decide +kernel
theorem dX0_pay_54 : decode cX0_pay 54 = .ok (.iaload, 1) := by decide +kernel
theorem dX0_pay_55 : decode cX0_pay 55 = .ok (.iload 4, 2) := by decide +kernel
theorem dX0_pay_57 : decode cX0_pay 57 = .ok (.if_icmp .gt 7, 3) := by decide +kernel
theorem dX0_pay_60 : decode cX0_pay 60 = .ok (.iconst 0, 1) := by decide +kernel
theorem dX0_pay_61 : decode cX0_pay 61 = .ok (.goto 5, 3) := by decide +kernel
theorem dX0_pay_64 : decode cX0_pay 64 = .ok (.iload 4, 2) := by decide +kernel
theorem dX0_pay_66 : decode cX0_pay 66 = .ok (.invokevirtual 122, 3) := by decide +kernel
theorem dX0_pay_69 : decode cX0_pay 69 = .ok (.istore 5, 2) := by decide +kernel
theorem dX0_pay_71 : decode cX0_pay 71 = .ok (.aload_n 0, 1) := by decide +kernel
theorem dX0_pay_72 : decode cX0_pay 72 = .ok (.getfield 36, 3) := by decide +kernel
theorem dX0_pay_75 : decode cX0_pay 75 = .ok (.getfield 108, 3) := by decide +kernel
theorem dX0_pay_78 : decode cX0_pay 78 = .ok (.iconst 3, 1) := by decide +kernel
theorem dX0_pay_79 : decode cX0_pay 79 = .ok (.if_icmp .ne 24, 3) := by decide +kernel
theorem dX0_pay_82 : decode cX0_pay 82 = .ok (.iload 5, 2) := by decide +kernel
theorem dX0_pay_84 : decode cX0_pay 84 = .ok (.aload_n 0, 1) := by decide +kernel
theorem dX0_pay_85 : decode cX0_pay 85 = .ok (.aload_n 0, 1) := by decide +kernel
theorem dX0_pay_86 : decode cX0_pay 86 = .ok (.iload_n 2, 1) := by decide +kernel
theorem dX0_pay_87 : decode cX0_pay 87 = .ok (.iload_n 3, 1) := by decide +kernel
theorem dX0_pay_88 : decode cX0_pay 88 = .ok (.invokevirtual 126, 3) := by decide +kernel
theorem dX0_pay_91 : decode cX0_pay 91 = .ok (.iload_n 2, 1) := by decide +kernel
theorem dX0_pay_92 : decode cX0_pay 92 = .ok (.iload 4, 2) := by decide +kernel
theorem dX0_pay_94 : decode cX0_pay 94 = .ok (.iload 5, 2) := by decide +kernel
theorem dX0_pay_96 : decode cX0_pay 96 = .ok (.isub, 1) := by decide +kernel
theorem dX0_pay_97 : decode cX0_pay 97 = .ok (.invokevirtual 122, 3) := by decide +kernel
theorem dX0_pay_100 : decode cX0_pay 100 = .ok (.iadd, 1) := by decide +kernel
theorem dX0_pay_101 : decode cX0_pay 101 = .ok (.istore 5, 2) := by decide +kernel
theorem dX0_pay_103 : decode cX0_pay 103 = .ok (.aload_n 0, 1) := by decide +kernel
theorem dX0_pay_104 : decode cX0_pay 104 = .ok (.getfield 33, 3) := by decide +kernel
theorem dX0_pay_107 : decode cX0_pay 107 = .ok (.aload_n 0, 1) := by decide +kernel
theorem dX0_pay_108 : decode cX0_pay 108 = .ok (.getfield 30, 3) := by decide +kernel
theorem dX0_pay_111 : decode cX0_pay 111 = .ok (.iload_n 1, 1) := by decide +kernel
theorem dX0_pay_112 : decode cX0_pay 112 = .ok (.iaload, 1) := by decide +kernel
theorem dX0_pay_113 : decode cX0_pay 113 = .ok (.iload 5, 2) := by decide +kernel
theorem dX0_pay_115 : decode cX0_pay 115 = .ok (.iastore, 1) := by decide +kernel
theorem dX0_pay_116 : decode cX0_pay 116 = .ok (.aload_n 0, 1) := by decide +kernel
theorem dX0_pay_117 : decode cX0_pay 117 = .ok (.getfield 15, 3) := by decide +kernel
theorem dX0_pay_120 : decode cX0_pay 120 = .ok (.iload_n 2, 1) := by decide +kernel
theorem dX0_pay_121 : decode cX0_pay 121 = .ok (.dup2, 1) := by decide +kernel
theorem dX0_pay_122 : decode cX0_pay 122 = .ok (.iaload, 1) := by decide +kernel
theorem dX0_pay_123 : decode cX0_pay 123 = .ok (.iload 4, 2) := by decide +kernel
theorem dX0_pay_125 : decode cX0_pay 125 = .ok (.iload 5, 2) := by decide +kernel
theorem dX0_pay_127 : decode cX0_pay 127 = .ok (.isub, 1) := by decide +kernel
theorem dX0_pay_128 : decode cX0_pay 128 = .ok (.iadd, 1) := by decide +kernel
theorem dX0_pay_129 : decode cX0_pay 129 = .ok (.iastore, 1) := by decide +kernel
theorem dX0_pay_130 : decode cX0_pay 130 = .ok (.return_, 1) := by decide +kernel
theorem dX0_give_0 : decode cX0_give 0 = .ok (.aload_n 0, 1) := by decide +kernel
theorem dX0_give_1 : decode cX0_give 1 = .ok (.iload_n 1, 1) := by decide +kernel
theorem dX0_give_2 : decode cX0_give 2 = .ok (.invokevirtual 65, 3) := by decide +kernel
theorem dX0_give_5 : decode cX0_give 5 = .ok (.ifCond .ne 5, 3) := by decide +kernel
theorem dX0_give_8 : decode cX0_give 8 = .ok (.iconst 0, 1) := by decide +kernel
theorem dX0_give_9 : decode cX0_give 9 = .ok (.ireturn, 1) := by decide +kernel
theorem dX0_give_10 : decode cX0_give 10 = .ok (.iload_n 3, 1) := by decide +kernel
theorem dX0_give_11 : decode cX0_give 11 = .ok (.aload_n 0, 1) := by decide +kernel
theorem dX0_give_12 : decode cX0_give 12 = .ok (.getfield 9, 3) := by decide +kernel
theorem dX0_give_15 : decode cX0_give 15 = .ok (.iload_n 1, 1) := by decide +kernel
theorem dX0_give_16 : decode cX0_give 16 = .ok (.iaload, 1) := by decide +kernel
theorem dX0_give_17 : decode cX0_give 17 = .ok (.iconst 1, 1) := by decide +kernel
theorem dX0_give_18 : decode cX0_give 18 = .ok (.isub, 1) := by decide +kernel
theorem dX0_give_19 : decode cX0_give 19 = .ok (.invokestatic 94, 3) := by decide +kernel
theorem dX0_give_22 : decode cX0_give 22 = .ok (.istore 4, 2) := by decide +kernel
theorem dX0_give_24 : decode cX0_give 24 = .ok (.aload_n 0, 1) := by decide +kernel
theorem dX0_give_25 : decode cX0_give 25 = .ok (.getfield 9, 3) := by decide +kernel
theorem dX0_give_28 : decode cX0_give 28 = .ok (.iload_n 1, 1) := by decide +kernel
theorem dX0_give_29 : decode cX0_give 29 = .ok (.dup2, 1) := by decide +kernel
theorem dX0_give_30 : decode cX0_give 30 = .ok (.iaload, 1) := by decide +kernel
theorem dX0_give_31 : decode cX0_give 31 = .ok (.iload 4, 2) := by decide +kernel
theorem dX0_give_33 : decode cX0_give 33 = .ok (.isub, 1) := by decide +kernel
theorem dX0_give_34 : decode cX0_give 34 = .ok (.iastore, 1) := by decide +kernel
theorem dX0_give_35 : decode cX0_give 35 = .ok (.aload_n 0, 1) := by decide +kernel
theorem dX0_give_36 : decode cX0_give 36 = .ok (.getfield 9, 3) := by decide +kernel
theorem dX0_give_39 : decode cX0_give 39 = .ok (.iload_n 2, 1) := by decide +kernel
theorem dX0_give_40 : decode cX0_give 40 = .ok (.dup2, 1) := by decide +kernel
theorem dX0_give_41 : decode cX0_give 41 = .ok (.iaload, 1) := by decide +kernel
theorem dX0_give_42 : decode cX0_give 42 = .ok (.iload 4, 2) := by decide +kernel
theorem dX0_give_44 : decode cX0_give 44 = .ok (.iadd, 1) := by decide +kernel
theorem dX0_give_45 : decode cX0_give 45 = .ok (.iastore, 1) := by decide +kernel
theorem dX0_give_46 : decode cX0_give 46 = .ok (.iload 4, 2) := by decide +kernel
theorem dX0_give_48 : decode cX0_give 48 = .ok (.ireturn, 1) := by decide +kernel
theorem dX0_lowestOther_0 : decode cX0_lowestOther 0 = .ok (.iconst 0, 1) := by decide +kernel
theorem dX0_lowestOther_1 : decode cX0_lowestOther 1 = .ok (.istore_n 3, 1) := by decide +kernel
theorem dX0_lowestOther_2 : decode cX0_lowestOther 2 = .ok (.iload_n 3, 1) := by decide +kernel
theorem dX0_lowestOther_3 : decode cX0_lowestOther 3 = .ok (.aload_n 0, 1) := by decide +kernel
theorem dX0_lowestOther_4 : decode cX0_lowestOther 4 = .ok (.getfield 36, 3) := by decide +kernel
theorem dX0_lowestOther_7 : decode cX0_lowestOther 7 = .ok (.getfield 40, 3) := by decide +kernel
theorem dX0_lowestOther_10 : decode cX0_lowestOther 10 = .ok (.if_icmp .ge 29, 3) := by decide +kernel
theorem dX0_lowestOther_13 : decode cX0_lowestOther 13 = .ok (.iload_n 3, 1) := by decide +kernel
theorem dX0_lowestOther_14 : decode cX0_lowestOther 14 = .ok (.iload_n 1, 1) := by decide +kernel
theorem dX0_lowestOther_15 : decode cX0_lowestOther 15 = .ok (.if_icmp .eq 18, 3) := by decide +kernel
theorem dX0_lowestOther_18 : decode cX0_lowestOther 18 = .ok (.iload_n 3, 1) := by decide +kernel
theorem dX0_lowestOther_19 : decode cX0_lowestOther 19 = .ok (.iload_n 2, 1) := by decide +kernel
theorem dX0_lowestOther_20 : decode cX0_lowestOther 20 = .ok (.if_icmp .eq 13, 3) := by decide +kernel
theorem dX0_lowestOther_23 : decode cX0_lowestOther 23 = .ok (.aload_n 0, 1) := by decide +kernel
theorem dX0_lowestOther_24 : decode cX0_lowestOther 24 = .ok (.iload_n 3, 1) := by decide +kernel
theorem dX0_lowestOther_25 : decode cX0_lowestOther 25 = .ok (.invokevirtual 65, 3) := by decide +kernel
theorem dX0_lowestOther_28 : decode cX0_lowestOther 28 = .ok (.ifCond .eq 5, 3) := by decide +kernel
theorem dX0_lowestOther_31 : decode cX0_lowestOther 31 = .ok (.iload_n 3, 1) := by decide +kernel
theorem dX0_lowestOther_32 : decode cX0_lowestOther 32 = .ok (.ireturn, 1) := by decide +kernel
theorem dX0_lowestOther_33 : decode cX0_lowestOther 33 = .ok (.iinc 3 1, 3) := by decide +kernel
theorem dX0_lowestOther_36 : decode cX0_lowestOther 36 = .ok (.goto (-34), 3) := by decide +kernel
theorem dX0_lowestOther_39 : decode cX0_lowestOther 39 = .ok (.bipush (-4), 2) := by decide +kernel
theorem dX0_lowestOther_41 : decode cX0_lowestOther 41 = .ok (.ireturn, 1) := by decide +kernel
theorem dX0_dropThoseDue_0 : decode cX0_dropThoseDue 0 = .ok (.iconst 0, 1) := by decide +kernel
theorem dX0_dropThoseDue_1 : decode cX0_dropThoseDue 1 = .ok (.istore_n 1, 1) := by decide +kernel
theorem dX0_dropThoseDue_2 : decode cX0_dropThoseDue 2 = .ok (.iconst 0, 1) := by decide +kernel
theorem dX0_dropThoseDue_3 : decode cX0_dropThoseDue 3 = .ok (.istore_n 2, 1) := by decide +kernel
theorem dX0_dropThoseDue_4 : decode cX0_dropThoseDue 4 = .ok (.iload_n 2, 1) := by decide +kernel
theorem dX0_dropThoseDue_5 : decode cX0_dropThoseDue 5 = .ok (.aload_n 0, 1) := by decide +kernel
theorem dX0_dropThoseDue_6 : decode cX0_dropThoseDue 6 = .ok (.getfield 49, 3) := by decide +kernel
theorem dX0_dropThoseDue_9 : decode cX0_dropThoseDue 9 = .ok (.if_icmp .ge 80, 3) := by decide +kernel
theorem dX0_dropThoseDue_12 : decode cX0_dropThoseDue 12 = .ok (.aload_n 0, 1) := by decide +kernel
theorem dX0_dropThoseDue_13 : decode cX0_dropThoseDue 13 = .ok (.iload_n 2, 1) := by decide +kernel
theorem dX0_dropThoseDue_14 : decode cX0_dropThoseDue 14 = .ok (.invokevirtual 119, 3) := by decide +kernel
theorem dX0_dropThoseDue_17 : decode cX0_dropThoseDue 17 = .ok (.ifCond .ne 66, 3) := by decide +kernel
theorem dX0_dropThoseDue_20 : decode cX0_dropThoseDue 20 = .ok (.aload_n 0, 1) := by decide +kernel
theorem dX0_dropThoseDue_21 : decode cX0_dropThoseDue 21 = .ok (.getfield 18, 3) := by decide +kernel
theorem dX0_dropThoseDue_24 : decode cX0_dropThoseDue 24 = .ok (.iload_n 1, 1) := by decide +kernel
theorem dX0_dropThoseDue_25 : decode cX0_dropThoseDue 25 = .ok (.aload_n 0, 1) := by decide +kernel
theorem dX0_dropThoseDue_26 : decode cX0_dropThoseDue 26 = .ok (.getfield 18, 3) := by decide +kernel
theorem dX0_dropThoseDue_29 : decode cX0_dropThoseDue 29 = .ok (.iload_n 2, 1) := by decide +kernel
theorem dX0_dropThoseDue_30 : decode cX0_dropThoseDue 30 = .ok (.iaload, 1) := by decide +kernel
theorem dX0_dropThoseDue_31 : decode cX0_dropThoseDue 31 = .ok (.iastore, 1) := by decide +kernel
theorem dX0_dropThoseDue_32 : decode cX0_dropThoseDue 32 = .ok (.aload_n 0, 1) := by decide +kernel
theorem dX0_dropThoseDue_33 : decode cX0_dropThoseDue 33 = .ok (.getfield 21, 3) := by decide +kernel
theorem dX0_dropThoseDue_36 : decode cX0_dropThoseDue 36 = .ok (.iload_n 1, 1) := by decide +kernel
theorem dX0_dropThoseDue_37 : decode cX0_dropThoseDue 37 = .ok (.aload_n 0, 1) := by decide +kernel
theorem dX0_dropThoseDue_38 : decode cX0_dropThoseDue 38 = .ok (.getfield 21, 3) := by decide +kernel
theorem dX0_dropThoseDue_41 : decode cX0_dropThoseDue 41 = .ok (.iload_n 2, 1) := by decide +kernel
theorem dX0_dropThoseDue_42 : decode cX0_dropThoseDue 42 = .ok (.iaload, 1) := by decide +kernel
theorem dX0_dropThoseDue_43 : decode cX0_dropThoseDue 43 = .ok (.iastore, 1) := by decide +kernel
theorem dX0_dropThoseDue_44 : decode cX0_dropThoseDue 44 = .ok (.aload_n 0, 1) := by decide +kernel
theorem dX0_dropThoseDue_45 : decode cX0_dropThoseDue 45 = .ok (.getfield 24, 3) := by decide +kernel
theorem dX0_dropThoseDue_48 : decode cX0_dropThoseDue 48 = .ok (.iload_n 1, 1) := by decide +kernel
theorem dX0_dropThoseDue_49 : decode cX0_dropThoseDue 49 = .ok (.aload_n 0, 1) := by decide +kernel
theorem dX0_dropThoseDue_50 : decode cX0_dropThoseDue 50 = .ok (.getfield 24, 3) := by decide +kernel
theorem dX0_dropThoseDue_53 : decode cX0_dropThoseDue 53 = .ok (.iload_n 2, 1) := by decide +kernel
theorem dX0_dropThoseDue_54 : decode cX0_dropThoseDue 54 = .ok (.iaload, 1) := by decide +kernel
theorem dX0_dropThoseDue_55 : decode cX0_dropThoseDue 55 = .ok (.iastore, 1) := by decide +kernel
theorem dX0_dropThoseDue_56 : decode cX0_dropThoseDue 56 = .ok (.aload_n 0, 1) := by decide +kernel
theorem dX0_dropThoseDue_57 : decode cX0_dropThoseDue 57 = .ok (.getfield 27, 3) := by decide +kernel
theorem dX0_dropThoseDue_60 : decode cX0_dropThoseDue 60 = .ok (.iload_n 1, 1) := by decide +kernel
theorem dX0_dropThoseDue_61 : decode cX0_dropThoseDue 61 = .ok (.aload_n 0, 1) := by decide +kernel
theorem dX0_dropThoseDue_62 : decode cX0_dropThoseDue 62 = .ok (.getfield 27, 3) := by decide +kernel
theorem dX0_dropThoseDue_65 : decode cX0_dropThoseDue 65 = .ok (.iload_n 2, 1) := by decide +kernel
theorem dX0_dropThoseDue_66 : decode cX0_dropThoseDue 66 = .ok (.iaload, 1) := by decide +kernel
theorem dX0_dropThoseDue_67 : decode cX0_dropThoseDue 67 = .ok (.iastore, 1) := by decide +kernel
theorem dX0_dropThoseDue_68 : decode cX0_dropThoseDue 68 = .ok (.aload_n 0, 1) := by decide +kernel
theorem dX0_dropThoseDue_69 : decode cX0_dropThoseDue 69 = .ok (.getfield 30, 3) := by decide +kernel
theorem dX0_dropThoseDue_72 : decode cX0_dropThoseDue 72 = .ok (.iload_n 1, 1) := by decide +kernel
theorem dX0_dropThoseDue_73 : decode cX0_dropThoseDue 73 = .ok (.aload_n 0, 1) := by decide +kernel
theorem dX0_dropThoseDue_74 : decode cX0_dropThoseDue 74 = .ok (.getfield 30, 3) := by decide +kernel
theorem dX0_dropThoseDue_77 : decode cX0_dropThoseDue 77 = .ok (.iload_n 2, 1) := by decide +kernel
theorem dX0_dropThoseDue_78 : decode cX0_dropThoseDue 78 = .ok (.iaload, 1) := by decide +kernel
theorem dX0_dropThoseDue_79 : decode cX0_dropThoseDue 79 = .ok (.iastore, 1) := by decide +kernel
theorem dX0_dropThoseDue_80 : decode cX0_dropThoseDue 80 = .ok (.iinc 1 1, 3) := by decide +kernel
theorem dX0_dropThoseDue_83 : decode cX0_dropThoseDue 83 = .ok (.iinc 2 1, 3) := by decide +kernel
theorem dX0_dropThoseDue_86 : decode cX0_dropThoseDue 86 = .ok (.goto (-82), 3) := by decide +kernel
theorem dX0_dropThoseDue_89 : decode cX0_dropThoseDue 89 = .ok (.aload_n 0, 1) := by decide +kernel
theorem dX0_dropThoseDue_90 : decode cX0_dropThoseDue 90 = .ok (.iload_n 1, 1) := by decide +kernel
theorem dX0_dropThoseDue_91 : decode cX0_dropThoseDue 91 = .ok (.putfield 49, 3) := by decide +kernel
theorem dX0_dropThoseDue_94 : decode cX0_dropThoseDue 94 = .ok (.return_, 1) := by decide +kernel
theorem dX1_init_0 : decode cX1_init 0 = .ok (.aload_n 0, 1) := by decide +kernel
theorem dX1_init_1 : decode cX1_init 1 = .ok (.invokespecial 3, 3) := by decide +kernel
theorem dX1_init_4 : decode cX1_init 4 = .ok (.aload_n 0, 1) := by decide +kernel
theorem dX1_init_5 : decode cX1_init 5 = .ok (.bipush 6, 2) := by decide +kernel
theorem dX1_init_7 : decode cX1_init 7 = .ok (.newarray .int, 2) := by decide +kernel
theorem dX1_init_9 : decode cX1_init 9 = .ok (.putfield 9, 3) := by decide +kernel
theorem dX1_init_12 : decode cX1_init 12 = .ok (.aload_n 0, 1) := by decide +kernel
theorem dX1_init_13 : decode cX1_init 13 = .ok (.bipush 6, 2) := by decide +kernel
theorem dX1_init_15 : decode cX1_init 15 = .ok (.newarray .int, 2) := by decide +kernel
theorem dX1_init_17 : decode cX1_init 17 = .ok (.putfield 15, 3) := by decide +kernel
theorem dX1_init_20 : decode cX1_init 20 = .ok (.return_, 1) := by decide +kernel
theorem dX1_share_0 : decode cX1_share 0 = .ok (.iconst 0, 1) := by decide +kernel
theorem dX1_share_1 : decode cX1_share 1 = .ok (.istore_n 3, 1) := by decide +kernel
theorem dX1_share_2 : decode cX1_share 2 = .ok (.iconst 0, 1) := by decide +kernel
theorem dX1_share_3 : decode cX1_share 3 = .ok (.istore 4, 2) := by decide +kernel
theorem dX1_share_5 : decode cX1_share 5 = .ok (.iload 4, 2) := by decide +kernel
theorem dX1_share_7 : decode cX1_share 7 = .ok (.bipush 6, 2) := by decide +kernel
theorem dX1_share_9 : decode cX1_share 9 = .ok (.if_icmp .ge 48, 3) := by decide +kernel
theorem dX1_share_12 : decode cX1_share 12 = .ok (.aload_n 0, 1) := by decide +kernel
theorem dX1_share_13 : decode cX1_share 13 = .ok (.getfield 9, 3) := by decide +kernel
theorem dX1_share_16 : decode cX1_share 16 = .ok (.iload 4, 2) := by decide +kernel
theorem dX1_share_18 : decode cX1_share 18 = .ok (.iconst 0, 1) := by decide +kernel
theorem dX1_share_19 : decode cX1_share 19 = .ok (.iastore, 1) := by decide +kernel
theorem dX1_share_20 : decode cX1_share 20 = .ok (.aload_n 0, 1) := by decide +kernel
theorem dX1_share_21 : decode cX1_share 21 = .ok (.getfield 15, 3) := by decide +kernel
theorem dX1_share_24 : decode cX1_share 24 = .ok (.iload 4, 2) := by decide +kernel
theorem dX1_share_26 : decode cX1_share 26 = .ok (.iconst 0, 1) := by decide +kernel
theorem dX1_share_27 : decode cX1_share 27 = .ok (.iastore, 1) := by decide +kernel
theorem dX1_share_28 : decode cX1_share 28 = .ok (.iload_n 3, 1) := by decide +kernel
theorem dX1_share_29 : decode cX1_share 29 = .ok (.aload_n 2, 1) := by decide +kernel
theorem dX1_share_30 : decode cX1_share 30 = .ok (.iload 4, 2) := by decide +kernel
theorem dX1_share_32 : decode cX1_share 32 = .ok (.invokevirtual 18, 3) := by decide +kernel
theorem dX1_share_35 : decode cX1_share 35 = .ok (.ifCond .eq 13, 3) := by decide +kernel
theorem dX1_share_38 : decode cX1_share 38 = .ok (.aload_n 2, 1) := by decide +kernel
theorem dX1_share_39 : decode cX1_share 39 = .ok (.getfield 24, 3) := by decide +kernel
theorem dX1_share_42 : decode cX1_share 42 = .ok (.iload 4, 2) := by decide +kernel
theorem dX1_share_44 : decode cX1_share 44 = .ok (.iaload, 1) := by decide +kernel
theorem dX1_share_45 : decode cX1_share 45 = .ok (.goto 4, 3) := by decide +kernel
theorem dX1_share_48 : decode cX1_share 48 = .ok (.iconst 0, 1) := by decide +kernel
theorem dX1_share_49 : decode cX1_share 49 = .ok (.iadd, 1) := by decide +kernel
theorem dX1_share_50 : decode cX1_share 50 = .ok (.istore_n 3, 1) := by decide +kernel
theorem dX1_share_51 : decode cX1_share 51 = .ok (.iinc 4 1, 3) := by decide +kernel
theorem dX1_share_54 : decode cX1_share 54 = .ok (.goto (-49), 3) := by decide +kernel
theorem dX1_share_57 : decode cX1_share 57 = .ok (.iload_n 3, 1) := by decide +kernel
theorem dX1_share_58 : decode cX1_share 58 = .ok (.iconst 1, 1) := by decide +kernel
theorem dX1_share_59 : decode cX1_share 59 = .ok (.if_icmp .ge 4, 3) := by decide +kernel
theorem dX1_share_62 : decode cX1_share 62 = .ok (.return_, 1) := by decide +kernel
theorem dX1_share_63 : decode cX1_share 63 = .ok (.iload_n 1, 1) := by decide +kernel
theorem dX1_share_64 : decode cX1_share 64 = .ok (.istore 4, 2) := by decide +kernel
theorem dX1_share_66 : decode cX1_share 66 = .ok (.iconst 0, 1) := by decide +kernel
theorem dX1_share_67 : decode cX1_share 67 = .ok (.istore 5, 2) := by decide +kernel
theorem dX1_share_69 : decode cX1_share 69 = .ok (.iload 5, 2) := by decide +kernel
theorem dX1_share_71 : decode cX1_share 71 = .ok (.bipush 6, 2) := by decide +kernel
theorem dX1_share_73 : decode cX1_share 73 = .ok (.if_icmp .ge 66, 3) := by decide +kernel
theorem dX1_share_76 : decode cX1_share 76 = .ok (.aload_n 2, 1) := by decide +kernel
theorem dX1_share_77 : decode cX1_share 77 = .ok (.iload 5, 2) := by decide +kernel
theorem dX1_share_79 : decode cX1_share 79 = .ok (.invokevirtual 18, 3) := by decide +kernel
theorem dX1_share_82 : decode cX1_share 82 = .ok (.ifCond .eq 51, 3) := by decide +kernel
theorem dX1_share_85 : decode cX1_share 85 = .ok (.aload_n 0, 1) := by decide +kernel
theorem dX1_share_86 : decode cX1_share 86 = .ok (.getfield 9, 3) := by decide +kernel
theorem dX1_share_89 : decode cX1_share 89 = .ok (.iload 5, 2) := by decide +kernel
theorem dX1_share_91 : decode cX1_share 91 = .ok (.iload_n 1, 1) := by decide +kernel
theorem dX1_share_92 : decode cX1_share 92 = .ok (.aload_n 2, 1) := by decide +kernel
theorem dX1_share_93 : decode cX1_share 93 = .ok (.getfield 24, 3) := by decide +kernel
theorem dX1_share_96 : decode cX1_share 96 = .ok (.iload 5, 2) := by decide +kernel
theorem dX1_share_98 : decode cX1_share 98 = .ok (.iaload, 1) := by decide +kernel
theorem dX1_share_99 : decode cX1_share 99 = .ok (.imul, 1) := by decide +kernel
theorem dX1_share_100 : decode cX1_share 100 = .ok (.iload_n 3, 1) := by decide +kernel
theorem dX1_share_101 : decode cX1_share 101 = .ok (.idiv, 1) := by decide +kernel
theorem dX1_share_102 : decode cX1_share 102 = .ok (.iastore, 1) := by decide +kernel
theorem dX1_share_103 : decode cX1_share 103 = .ok (.aload_n 0, 1) := by decide +kernel
theorem dX1_share_104 : decode cX1_share 104 = .ok (.getfield 15, 3) := by decide +kernel
theorem dX1_share_107 : decode cX1_share 107 = .ok (.iload 5, 2) := by decide +kernel
theorem dX1_share_109 : decode cX1_share 109 = .ok (.iload_n 1, 1) := by decide +kernel
theorem dX1_share_110 : decode cX1_share 110 = .ok (.aload_n 2, 1) := by decide +kernel
theorem dX1_share_111 : decode cX1_share 111 = .ok (.getfield 24, 3) := by decide +kernel
theorem dX1_share_114 : decode cX1_share 114 = .ok (.iload 5, 2) := by decide +kernel
theorem dX1_share_116 : decode cX1_share 116 = .ok (.iaload, 1) := by decide +kernel
theorem dX1_share_117 : decode cX1_share 117 = .ok (.imul, 1) := by decide +kernel
theorem dX1_share_118 : decode cX1_share 118 = .ok (.iload_n 3, 1) := by decide +kernel
theorem dX1_share_119 : decode cX1_share 119 = .ok (.irem, 1) := by decide +kernel
theorem dX1_share_120 : decode cX1_share 120 = .ok (.iastore, 1) := by decide +kernel
theorem dX1_share_121 : decode cX1_share 121 = .ok (.iload 4, 2) := by decide +kernel
theorem dX1_share_123 : decode cX1_share 123 = .ok (.aload_n 0, 1) := by decide +kernel
theorem dX1_share_124 : decode cX1_share 124 = .ok (.getfield 9, 3) := by decide +kernel
theorem dX1_share_127 : decode cX1_share 127 = .ok (.iload 5, 2) := by decide +kernel
theorem dX1_share_129 : decode cX1_share 129 = .ok (.iaload, 1) := by decide +kernel
theorem dX1_share_130 : decode cX1_share 130 = .ok (.isub, 1) := by decide +kernel
theorem dX1_share_131 : decode cX1_share 131 = .ok (.istore 4, 2) := by decide +kernel
theorem dX1_share_133 : decode cX1_share 133 = .ok (.iinc 5 1, 3) := by decide +kernel
theorem dX1_share_136 : decode cX1_share 136 = .ok (.goto (-67), 3) := by decide +kernel
theorem dX1_share_139 : decode cX1_share 139 = .ok (.iconst 0, 1) := by decide +kernel
theorem dX1_share_140 : decode cX1_share 140 = .ok (.istore 5, 2) := by decide +kernel
theorem dX1_share_142 : decode cX1_share 142 = .ok (.iload 5, 2) := by decide +kernel
theorem dX1_share_144 : decode cX1_share 144 = .ok (.iload 4, 2) := by decide +kernel
theorem dX1_share_146 : decode cX1_share 146 = .ok (.if_icmp .ge 20, 3) := by decide +kernel
theorem dX1_share_149 : decode cX1_share 149 = .ok (.iload 5, 2) := by decide +kernel
theorem dX1_share_151 : decode cX1_share 151 = .ok (.bipush 6, 2) := by decide +kernel
theorem dX1_share_153 : decode cX1_share 153 = .ok (.if_icmp .ge 13, 3) := by decide +kernel
theorem dX1_share_156 : decode cX1_share 156 = .ok (.aload_n 0, 1) := by decide +kernel
theorem dX1_share_157 : decode cX1_share 157 = .ok (.invokevirtual 27, 3) := by decide +kernel
theorem dX1_share_160 : decode cX1_share 160 = .ok (.iinc 5 1, 3) := by decide +kernel
theorem dX1_share_163 : decode cX1_share 163 = .ok (.goto (-21), 3) := by decide +kernel
theorem dX1_share_166 : decode cX1_share 166 = .ok (.return_, 1) := by decide +kernel
theorem dX1_addToGreatestRest_0 : decode cX1_addToGreatestRest 0 = .ok (.iconst 0, 1) := by decide +kernel
theorem dX1_addToGreatestRest_1 : decode cX1_addToGreatestRest 1 = .ok (.istore_n 1, 1) := by decide +kernel
theorem dX1_addToGreatestRest_2 : decode cX1_addToGreatestRest 2 = .ok (.iconst 1, 1) := by decide +kernel
theorem dX1_addToGreatestRest_3 : decode cX1_addToGreatestRest 3 = .ok (.istore_n 2, 1) := by decide +kernel
theorem dX1_addToGreatestRest_4 : decode cX1_addToGreatestRest 4 = .ok (.iload_n 2, 1) := by decide +kernel
theorem dX1_addToGreatestRest_5 : decode cX1_addToGreatestRest 5 = .ok (.bipush 6, 2) := by decide +kernel
theorem dX1_addToGreatestRest_7 : decode cX1_addToGreatestRest 7 = .ok (.if_icmp .ge 30, 3) := by decide +kernel
theorem dX1_addToGreatestRest_10 : decode cX1_addToGreatestRest 10 = .ok (.aload_n 0, 1) := by decide +kernel
theorem dX1_addToGreatestRest_11 : decode cX1_addToGreatestRest 11 = .ok (.getfield 15, 3) := by decide +kernel
theorem dX1_addToGreatestRest_14 : decode cX1_addToGreatestRest 14 = .ok (.iload_n 2, 1) := by decide +kernel
theorem dX1_addToGreatestRest_15 : decode cX1_addToGreatestRest 15 = .ok (.iaload, 1) := by decide +kernel
theorem dX1_addToGreatestRest_16 : decode cX1_addToGreatestRest 16 = .ok (.aload_n 0, 1) := by decide +kernel
theorem dX1_addToGreatestRest_17 : decode cX1_addToGreatestRest 17 = .ok (.getfield 15, 3) := by decide +kernel
theorem dX1_addToGreatestRest_20 : decode cX1_addToGreatestRest 20 = .ok (.iload_n 1, 1) := by decide +kernel
theorem dX1_addToGreatestRest_21 : decode cX1_addToGreatestRest 21 = .ok (.iaload, 1) := by decide +kernel
theorem dX1_addToGreatestRest_22 : decode cX1_addToGreatestRest 22 = .ok (.if_icmp .le 7, 3) := by decide +kernel
theorem dX1_addToGreatestRest_25 : decode cX1_addToGreatestRest 25 = .ok (.iload_n 2, 1) := by decide +kernel
theorem dX1_addToGreatestRest_26 : decode cX1_addToGreatestRest 26 = .ok (.goto 4, 3) := by decide +kernel
theorem dX1_addToGreatestRest_29 : decode cX1_addToGreatestRest 29 = .ok (.iload_n 1, 1) := by decide +kernel
theorem dX1_addToGreatestRest_30 : decode cX1_addToGreatestRest 30 = .ok (.istore_n 1, 1) := by decide +kernel
theorem dX1_addToGreatestRest_31 : decode cX1_addToGreatestRest 31 = .ok (.iinc 2 1, 3) := by decide +kernel
theorem dX1_addToGreatestRest_34 : decode cX1_addToGreatestRest 34 = .ok (.goto (-30), 3) := by decide +kernel
theorem dX1_addToGreatestRest_37 : decode cX1_addToGreatestRest 37 = .ok (.aload_n 0, 1) := by decide +kernel
theorem dX1_addToGreatestRest_38 : decode cX1_addToGreatestRest 38 = .ok (.getfield 9, 3) := by decide +kernel
theorem dX1_addToGreatestRest_41 : decode cX1_addToGreatestRest 41 = .ok (.iload_n 1, 1) := by decide +kernel
theorem dX1_addToGreatestRest_42 : decode cX1_addToGreatestRest 42 = .ok (.dup2, 1) := by decide +kernel
theorem dX1_addToGreatestRest_43 : decode cX1_addToGreatestRest 43 = .ok (.iaload, 1) := by decide +kernel
theorem dX1_addToGreatestRest_44 : decode cX1_addToGreatestRest 44 = .ok (.iconst 1, 1) := by decide +kernel
theorem dX1_addToGreatestRest_45 : decode cX1_addToGreatestRest 45 = .ok (.iadd, 1) := by decide +kernel
theorem dX1_addToGreatestRest_46 : decode cX1_addToGreatestRest 46 = .ok (.iastore, 1) := by decide +kernel
theorem dX1_addToGreatestRest_47 : decode cX1_addToGreatestRest 47 = .ok (.aload_n 0, 1) := by decide +kernel
theorem dX1_addToGreatestRest_48 : decode cX1_addToGreatestRest 48 = .ok (.getfield 15, 3) := by decide +kernel
theorem dX1_addToGreatestRest_51 : decode cX1_addToGreatestRest 51 = .ok (.iload_n 1, 1) := by decide +kernel
theorem dX1_addToGreatestRest_52 : decode cX1_addToGreatestRest 52 = .ok (.iconst 0, 1) := by decide +kernel
theorem dX1_addToGreatestRest_53 : decode cX1_addToGreatestRest 53 = .ok (.iastore, 1) := by decide +kernel
theorem dX1_addToGreatestRest_54 : decode cX1_addToGreatestRest 54 = .ok (.return_, 1) := by decide +kernel
theorem dX1_takeAllOfOne_0 : decode cX1_takeAllOfOne 0 = .ok (.iconst 0, 1) := by decide +kernel
theorem dX1_takeAllOfOne_1 : decode cX1_takeAllOfOne 1 = .ok (.istore_n 2, 1) := by decide +kernel
theorem dX1_takeAllOfOne_2 : decode cX1_takeAllOfOne 2 = .ok (.iload_n 2, 1) := by decide +kernel
theorem dX1_takeAllOfOne_3 : decode cX1_takeAllOfOne 3 = .ok (.bipush 6, 2) := by decide +kernel
theorem dX1_takeAllOfOne_5 : decode cX1_takeAllOfOne 5 = .ok (.if_icmp .ge 34, 3) := by decide +kernel
theorem dX1_takeAllOfOne_8 : decode cX1_takeAllOfOne 8 = .ok (.aload_n 1, 1) := by decide +kernel
theorem dX1_takeAllOfOne_9 : decode cX1_takeAllOfOne 9 = .ok (.iload_n 2, 1) := by decide +kernel
theorem dX1_takeAllOfOne_10 : decode cX1_takeAllOfOne 10 = .ok (.invokevirtual 18, 3) := by decide +kernel
theorem dX1_takeAllOfOne_13 : decode cX1_takeAllOfOne 13 = .ok (.ifCond .eq 20, 3) := by decide +kernel
theorem dX1_takeAllOfOne_16 : decode cX1_takeAllOfOne 16 = .ok (.aload_n 0, 1) := by decide +kernel
theorem dX1_takeAllOfOne_17 : decode cX1_takeAllOfOne 17 = .ok (.getfield 9, 3) := by decide +kernel
theorem dX1_takeAllOfOne_20 : decode cX1_takeAllOfOne 20 = .ok (.iload_n 2, 1) := by decide +kernel
theorem dX1_takeAllOfOne_21 : decode cX1_takeAllOfOne 21 = .ok (.iaload, 1) := by decide +kernel
theorem dX1_takeAllOfOne_22 : decode cX1_takeAllOfOne 22 = .ok (.aload_n 1, 1) := by decide +kernel
theorem dX1_takeAllOfOne_23 : decode cX1_takeAllOfOne 23 = .ok (.getfield 24, 3) := by decide +kernel
theorem dX1_takeAllOfOne_26 : decode cX1_takeAllOfOne 26 = .ok (.iload_n 2, 1) := by decide +kernel
theorem dX1_takeAllOfOne_27 : decode cX1_takeAllOfOne 27 = .ok (.iaload, 1) := by decide +kernel
theorem dX1_takeAllOfOne_28 : decode cX1_takeAllOfOne 28 = .ok (.if_icmp .lt 5, 3) := by decide +kernel
theorem dX1_takeAllOfOne_31 : decode cX1_takeAllOfOne 31 = .ok (.iconst 1, 1) := by decide +kernel
theorem dX1_takeAllOfOne_32 : decode cX1_takeAllOfOne 32 = .ok (.ireturn, 1) := by decide +kernel
theorem dX1_takeAllOfOne_33 : decode cX1_takeAllOfOne 33 = .ok (.iinc 2 1, 3) := by decide +kernel
theorem dX1_takeAllOfOne_36 : decode cX1_takeAllOfOne 36 = .ok (.goto (-34), 3) := by decide +kernel
theorem dX1_takeAllOfOne_39 : decode cX1_takeAllOfOne 39 = .ok (.iconst 0, 1) := by decide +kernel
theorem dX1_takeAllOfOne_40 : decode cX1_takeAllOfOne 40 = .ok (.ireturn, 1) := by decide +kernel
theorem dX2_init_0 : decode cX2_init 0 = .ok (.aload_n 0, 1) := by decide +kernel
theorem dX2_init_1 : decode cX2_init 1 = .ok (.invokespecial 3, 3) := by decide +kernel
theorem dX2_init_4 : decode cX2_init 4 = .ok (.aload_n 0, 1) := by decide +kernel
theorem dX2_init_5 : decode cX2_init 5 = .ok (.bipush 6, 2) := by decide +kernel
theorem dX2_init_7 : decode cX2_init 7 = .ok (.bipush 6, 2) := by decide +kernel
theorem dX2_init_9 : decode cX2_init 9 = .ok (.multianewarray 9 2, 4) := by decide +kernel
theorem dX2_init_13 : decode cX2_init 13 = .ok (.putfield 11, 3) := by decide +kernel
theorem dX2_init_16 : decode cX2_init 16 = .ok (.aload_n 0, 1) := by decide +kernel
theorem dX2_init_17 : decode cX2_init 17 = .ok (.bipush 6, 2) := by decide +kernel
theorem dX2_init_19 : decode cX2_init 19 = .ok (.newarray .int, 2) := by decide +kernel
theorem dX2_init_21 : decode cX2_init 21 = .ok (.putfield 16, 3) := by decide +kernel
theorem dX2_init_24 : decode cX2_init 24 = .ok (.return_, 1) := by decide +kernel
theorem dX2_readFrom_0 : decode cX2_readFrom 0 = .ok (.aload_n 0, 1) := by decide +kernel
theorem dX2_readFrom_1 : decode cX2_readFrom 1 = .ok (.aload_n 1, 1) := by decide +kernel
theorem dX2_readFrom_2 : decode cX2_readFrom 2 = .ok (.getfield 20, 3) := by decide +kernel
theorem dX2_readFrom_5 : decode cX2_readFrom 5 = .ok (.getfield 26, 3) := by decide +kernel
theorem dX2_readFrom_8 : decode cX2_readFrom 8 = .ok (.putfield 32, 3) := by decide +kernel
theorem dX2_readFrom_11 : decode cX2_readFrom 11 = .ok (.iconst 0, 1) := by decide +kernel
theorem dX2_readFrom_12 : decode cX2_readFrom 12 = .ok (.istore_n 2, 1) := by decide +kernel
theorem dX2_readFrom_13 : decode cX2_readFrom 13 = .ok (.iload_n 2, 1) := by decide +kernel
theorem dX2_readFrom_14 : decode cX2_readFrom 14 = .ok (.bipush 6, 2) := by decide +kernel
theorem dX2_readFrom_16 : decode cX2_readFrom 16 = .ok (.if_icmp .ge 32, 3) := by decide +kernel
theorem dX2_readFrom_19 : decode cX2_readFrom 19 = .ok (.iconst 0, 1) := by decide +kernel
theorem dX2_readFrom_20 : decode cX2_readFrom 20 = .ok (.istore_n 3, 1) := by decide +kernel
theorem dX2_readFrom_21 : decode cX2_readFrom 21 = .ok (.iload_n 3, 1) := by decide +kernel
theorem dX2_readFrom_22 : decode cX2_readFrom 22 = .ok (.bipush 6, 2) := by decide +kernel
theorem dX2_readFrom_24 : decode cX2_readFrom 24 = .ok (.if_icmp .ge 18, 3) := by decide +kernel
theorem dX2_readFrom_27 : decode cX2_readFrom 27 = .ok (.aload_n 0, 1) := by decide +kernel
theorem dX2_readFrom_28 : decode cX2_readFrom 28 = .ok (.getfield 11, 3) := by decide +kernel
theorem dX2_readFrom_31 : decode cX2_readFrom 31 = .ok (.iload_n 2, 1) := by decide +kernel
theorem dX2_readFrom_32 : decode cX2_readFrom 32 = .ok (.aaload, 1) := by decide +kernel
theorem dX2_readFrom_33 : decode cX2_readFrom 33 = .ok (.iload_n 3, 1) := by decide +kernel
theorem dX2_readFrom_34 : decode cX2_readFrom 34 = .ok (.iconst 0, 1) := by decide +kernel
theorem dX2_readFrom_35 : decode cX2_readFrom 35 = .ok (.iastore, 1) := by decide +kernel
theorem dX2_readFrom_36 : decode cX2_readFrom 36 = .ok (.iinc 3 1, 3) := by decide +kernel
theorem dX2_readFrom_39 : decode cX2_readFrom 39 = .ok (.goto (-18), 3) := by decide +kernel
theorem dX2_readFrom_42 : decode cX2_readFrom 42 = .ok (.iinc 2 1, 3) := by decide +kernel
theorem dX2_readFrom_45 : decode cX2_readFrom 45 = .ok (.goto (-32), 3) := by decide +kernel
theorem dX2_readFrom_48 : decode cX2_readFrom 48 = .ok (.iconst 0, 1) := by decide +kernel
theorem dX2_readFrom_49 : decode cX2_readFrom 49 = .ok (.istore_n 2, 1) := by decide +kernel
theorem dX2_readFrom_50 : decode cX2_readFrom 50 = .ok (.iload_n 2, 1) := by decide +kernel
theorem dX2_readFrom_51 : decode cX2_readFrom 51 = .ok (.aload_n 1, 1) := by decide +kernel
theorem dX2_readFrom_52 : decode cX2_readFrom 52 = .ok (.getfield 33, 3) := by decide +kernel
theorem dX2_readFrom_55 : decode cX2_readFrom 55 = .ok (.if_icmp .ge 36, 3) := by decide +kernel
theorem dX2_readFrom_58 : decode cX2_readFrom 58 = .ok (.aload_n 0, 1) := by decide +kernel
theorem dX2_readFrom_59 : decode cX2_readFrom 59 = .ok (.getfield 11, 3) := by decide +kernel
theorem dX2_readFrom_62 : decode cX2_readFrom 62 = .ok (.aload_n 1, 1) := by decide +kernel
theorem dX2_readFrom_63 : decode cX2_readFrom 63 = .ok (.getfield 36, 3) := by decide +kernel
theorem dX2_readFrom_66 : decode cX2_readFrom 66 = .ok (.iload_n 2, 1) := by decide +kernel
theorem dX2_readFrom_67 : decode cX2_readFrom 67 = .ok (.iaload, 1) := by decide +kernel
theorem dX2_readFrom_68 : decode cX2_readFrom 68 = .ok (.aaload, 1) := by decide +kernel
theorem dX2_readFrom_69 : decode cX2_readFrom 69 = .ok (.aload_n 1, 1) := by decide +kernel
theorem dX2_readFrom_70 : decode cX2_readFrom 70 = .ok (.getfield 39, 3) := by decide +kernel
theorem dX2_readFrom_73 : decode cX2_readFrom 73 = .ok (.iload_n 2, 1) := by decide +kernel
theorem dX2_readFrom_74 : decode cX2_readFrom 74 = .ok (.iaload, 1) := by decide +kernel
theorem dX2_readFrom_75 : decode cX2_readFrom 75 = .ok (.dup2, 1) := by decide +kernel
theorem dX2_readFrom_76 : decode cX2_readFrom 76 = .ok (.iaload, 1) := by decide +kernel
theorem dX2_readFrom_77 : decode cX2_readFrom 77 = .ok (.aload_n 1, 1) := by decide +kernel
theorem dX2_readFrom_78 : decode cX2_readFrom 78 = .ok (.getfield 42, 3) := by decide +kernel
theorem dX2_readFrom_81 : decode cX2_readFrom 81 = .ok (.iload_n 2, 1) := by decide +kernel
theorem dX2_readFrom_82 : decode cX2_readFrom 82 = .ok (.iaload, 1) := by decide +kernel
theorem dX2_readFrom_83 : decode cX2_readFrom 83 = .ok (.iadd, 1) := by decide +kernel
theorem dX2_readFrom_84 : decode cX2_readFrom 84 = .ok (.iastore, 1) := by decide +kernel
theorem dX2_readFrom_85 : decode cX2_readFrom 85 = .ok (.iinc 2 1, 3) := by decide +kernel
theorem dX2_readFrom_88 : decode cX2_readFrom 88 = .ok (.goto (-38), 3) := by decide +kernel
theorem dX2_readFrom_91 : decode cX2_readFrom 91 = .ok (.return_, 1) := by decide +kernel
theorem dX2_clearAll_0 : decode cX2_clearAll 0 = .ok (.iconst 0, 1) := by decide +kernel
theorem dX2_clearAll_1 : decode cX2_clearAll 1 = .ok (.istore_n 1, 1) := by decide +kernel
theorem dX2_clearAll_2 : decode cX2_clearAll 2 = .ok (.iconst 0, 1) := by decide +kernel
theorem dX2_clearAll_3 : decode cX2_clearAll 3 = .ok (.istore_n 2, 1) := by decide +kernel
theorem dX2_clearAll_4 : decode cX2_clearAll 4 = .ok (.iload_n 2, 1) := by decide +kernel
theorem dX2_clearAll_5 : decode cX2_clearAll 5 = .ok (.bipush 8, 2) := by decide +kernel
theorem dX2_clearAll_7 : decode cX2_clearAll 7 = .ok (.if_icmp .ge 22, 3) := by decide +kernel
theorem dX2_clearAll_10 : decode cX2_clearAll 10 = .ok (.aload_n 0, 1) := by decide +kernel
theorem dX2_clearAll_11 : decode cX2_clearAll 11 = .ok (.invokevirtual 45, 3) := by decide +kernel
theorem dX2_clearAll_14 : decode cX2_clearAll 14 = .ok (.istore_n 3, 1) := by decide +kernel
theorem dX2_clearAll_15 : decode cX2_clearAll 15 = .ok (.iload_n 1, 1) := by decide +kernel
theorem dX2_clearAll_16 : decode cX2_clearAll 16 = .ok (.aload_n 0, 1) := by decide +kernel
theorem dX2_clearAll_17 : decode cX2_clearAll 17 = .ok (.iload_n 3, 1) := by decide +kernel
theorem dX2_clearAll_18 : decode cX2_clearAll 18 = .ok (.invokevirtual 49, 3) := by decide +kernel
theorem dX2_clearAll_21 : decode cX2_clearAll 21 = .ok (.iadd, 1) := by decide +kernel
theorem dX2_clearAll_22 : decode cX2_clearAll 22 = .ok (.istore_n 1, 1) := by decide +kernel
theorem dX2_clearAll_23 : decode cX2_clearAll 23 = .ok (.iinc 2 1, 3) := by decide +kernel
theorem dX2_clearAll_26 : decode cX2_clearAll 26 = .ok (.goto (-22), 3) := by decide +kernel
theorem dX2_clearAll_29 : decode cX2_clearAll 29 = .ok (.iload_n 1, 1) := by decide +kernel
theorem dX2_clearAll_30 : decode cX2_clearAll 30 = .ok (.ireturn, 1) := by decide +kernel
theorem dX2_findShortest_0 : decode cX2_findShortest 0 = .ok (.iconst 2, 1) := by decide +kernel
theorem dX2_findShortest_1 : decode cX2_findShortest 1 = .ok (.istore_n 1, 1) := by decide +kernel
theorem dX2_findShortest_2 : decode cX2_findShortest 2 = .ok (.iload_n 1, 1) := by decide +kernel
theorem dX2_findShortest_3 : decode cX2_findShortest 3 = .ok (.aload_n 0, 1) := by decide +kernel
theorem dX2_findShortest_4 : decode cX2_findShortest 4 = .ok (.getfield 32, 3) := by decide +kernel
theorem dX2_findShortest_7 : decode cX2_findShortest 7 = .ok (.if_icmp .gt 43, 3) := by decide +kernel
theorem dX2_findShortest_10 : decode cX2_findShortest 10 = .ok (.iconst 0, 1) := by decide +kernel
theorem dX2_findShortest_11 : decode cX2_findShortest 11 = .ok (.istore_n 2, 1) := by decide +kernel
theorem dX2_findShortest_12 : decode cX2_findShortest 12 = .ok (.iload_n 2, 1) := by decide +kernel
theorem dX2_findShortest_13 : decode cX2_findShortest 13 = .ok (.aload_n 0, 1) := by decide +kernel
theorem dX2_findShortest_14 : decode cX2_findShortest 14 = .ok (.getfield 32, 3) := by decide +kernel
theorem dX2_findShortest_17 : decode cX2_findShortest 17 = .ok (.if_icmp .ge 27, 3) := by decide +kernel
theorem dX2_findShortest_20 : decode cX2_findShortest 20 = .ok (.aload_n 0, 1) := by decide +kernel
theorem dX2_findShortest_21 : decode cX2_findShortest 21 = .ok (.getfield 16, 3) := by decide +kernel
theorem dX2_findShortest_24 : decode cX2_findShortest 24 = .ok (.iconst 0, 1) := by decide +kernel
theorem dX2_findShortest_25 : decode cX2_findShortest 25 = .ok (.iload_n 2, 1) := by decide +kernel
theorem dX2_findShortest_26 : decode cX2_findShortest 26 = .ok (.iastore, 1) := by decide +kernel
theorem dX2_findShortest_27 : decode cX2_findShortest 27 = .ok (.aload_n 0, 1) := by decide +kernel
theorem dX2_findShortest_28 : decode cX2_findShortest 28 = .ok (.iconst 1, 1) := by decide +kernel
theorem dX2_findShortest_29 : decode cX2_findShortest 29 = .ok (.iload_n 1, 1) := by decide +kernel
theorem dX2_findShortest_30 : decode cX2_findShortest 30 = .ok (.invokevirtual 53, 3) := by decide +kernel
theorem dX2_findShortest_33 : decode cX2_findShortest 33 = .ok (.ifCond .eq 5, 3) := by decide +kernel
theorem dX2_findShortest_36 : decode cX2_findShortest 36 = .ok (.iload_n 1, 1) := by decide +kernel
theorem dX2_findShortest_37 : decode cX2_findShortest 37 = .ok (.ireturn, 1) := by decide +kernel
theorem dX2_findShortest_38 : decode cX2_findShortest 38 = .ok (.iinc 2 1, 3) := by decide +kernel
theorem dX2_findShortest_41 : decode cX2_findShortest 41 = .ok (.goto (-29), 3) := by decide +kernel
theorem dX2_findShortest_44 : decode cX2_findShortest 44 = .ok (.iinc 1 1, 3) := by decide +kernel
theorem dX2_findShortest_47 : decode cX2_findShortest 47 = .ok (.goto (-45), 3) := by decide +kernel
theorem dX2_findShortest_50 : decode cX2_findShortest 50 = .ok (.iconst 0, 1) := by decide +kernel
theorem dX2_findShortest_51 : decode cX2_findShortest 51 = .ok (.ireturn, 1) := by decide +kernel
theorem dX2_closes_0 : decode cX2_closes 0 = .ok (.iload_n 1, 1) := by decide +kernel
theorem dX2_closes_1 : decode cX2_closes 1 = .ok (.iconst 1, 1) := by decide +kernel
theorem dX2_closes_2 : decode cX2_closes 2 = .ok (.bipush 6, 2) := by decide +kernel
theorem dX2_closes_4 : decode cX2_closes 4 = .ok (.invokestatic 57, 3) := by decide +kernel
theorem dX2_closes_7 : decode cX2_closes 7 = .ok (.ifCond .ne 5, 3) := by decide +kernel
theorem dX2_closes_10 : decode cX2_closes 10 = .ok (.iconst 0, 1) := by decide +kernel
theorem dX2_closes_11 : decode cX2_closes 11 = .ok (.ireturn, 1) := by decide +kernel
theorem dX2_closes_12 : decode cX2_closes 12 = .ok (.aload_n 0, 1) := by decide +kernel
theorem dX2_closes_13 : decode cX2_closes 13 = .ok (.getfield 16, 3) := by decide +kernel
theorem dX2_closes_16 : decode cX2_closes 16 = .ok (.iload_n 1, 1) := by decide +kernel
theorem dX2_closes_17 : decode cX2_closes 17 = .ok (.iconst 1, 1) := by decide +kernel
theorem dX2_closes_18 : decode cX2_closes 18 = .ok (.isub, 1) := by decide +kernel
theorem dX2_closes_19 : decode cX2_closes 19 = .ok (.iaload, 1) := by decide +kernel
theorem dX2_closes_20 : decode cX2_closes 20 = .ok (.istore_n 3, 1) := by decide +kernel
theorem dX2_closes_21 : decode cX2_closes 21 = .ok (.iload_n 1, 1) := by decide +kernel
theorem dX2_closes_22 : decode cX2_closes 22 = .ok (.iload_n 2, 1) := by decide +kernel
theorem dX2_closes_23 : decode cX2_closes 23 = .ok (.if_icmp .ge 9, 3) := by decide +kernel
theorem dX2_closes_26 : decode cX2_closes 26 = .ok (.iload_n 1, 1) := by decide +kernel
theorem dX2_closes_27 : decode cX2_closes 27 = .ok (.bipush 6, 2) := by decide +kernel
theorem dX2_closes_29 : decode cX2_closes 29 = .ok (.if_icmp .lt 25, 3) := by decide +kernel
theorem dX2_closes_32 : decode cX2_closes 32 = .ok (.aload_n 0, 1) := by decide +kernel
theorem dX2_closes_33 : decode cX2_closes 33 = .ok (.getfield 11, 3) := by decide +kernel
theorem dX2_closes_36 : decode cX2_closes 36 = .ok (.iload_n 3, 1) := by decide +kernel
theorem dX2_closes_37 : decode cX2_closes 37 = .ok (.aaload, 1) := by decide +kernel
theorem dX2_closes_38 : decode cX2_closes 38 = .ok (.aload_n 0, 1) := by decide +kernel
theorem dX2_closes_39 : decode cX2_closes 39 = .ok (.getfield 16, 3) := by decide +kernel
theorem dX2_closes_42 : decode cX2_closes 42 = .ok (.iconst 0, 1) := by decide +kernel
theorem dX2_closes_43 : decode cX2_closes 43 = .ok (.iaload, 1) := by decide +kernel
theorem dX2_closes_44 : decode cX2_closes 44 = .ok (.iaload, 1) := by decide +kernel
theorem dX2_closes_45 : decode cX2_closes 45 = .ok (.ifCond .le 7, 3) := by decide +kernel
theorem dX2_closes_48 : decode cX2_closes 48 = .ok (.iconst 1, 1) := by decide +kernel
theorem dX2_closes_49 : decode cX2_closes 49 = .ok (.goto 4, 3) := by decide +kernel
theorem dX2_closes_52 : decode cX2_closes 52 = .ok (.iconst 0, 1) := by decide +kernel
theorem dX2_closes_53 : decode cX2_closes 53 = .ok (.ireturn, 1) := by decide +kernel
theorem dX2_closes_54 : decode cX2_closes 54 = .ok (.aload_n 0, 1) := by decide +kernel
theorem dX2_closes_55 : decode cX2_closes 55 = .ok (.getfield 16, 3) := by decide +kernel
theorem dX2_closes_58 : decode cX2_closes 58 = .ok (.iconst 0, 1) := by decide +kernel
theorem dX2_closes_59 : decode cX2_closes 59 = .ok (.iaload, 1) := by decide +kernel
theorem dX2_closes_60 : decode cX2_closes 60 = .ok (.iconst 1, 1) := by decide +kernel
theorem dX2_closes_61 : decode cX2_closes 61 = .ok (.iadd, 1) := by decide +kernel
theorem dX2_closes_62 : decode cX2_closes 62 = .ok (.istore 4, 2) := by decide +kernel
theorem dX2_closes_64 : decode cX2_closes 64 = .ok (.iload 4, 2) := by decide +kernel
theorem dX2_closes_66 : decode cX2_closes 66 = .ok (.aload_n 0, 1) := by decide +kernel
theorem dX2_closes_67 : decode cX2_closes 67 = .ok (.getfield 32, 3) := by decide +kernel
theorem dX2_closes_70 : decode cX2_closes 70 = .ok (.if_icmp .ge 52, 3) := by decide +kernel
theorem dX2_closes_73 : decode cX2_closes 73 = .ok (.aload_n 0, 1) := by decide +kernel
theorem dX2_closes_74 : decode cX2_closes 74 = .ok (.getfield 11, 3) := by decide +kernel
theorem dX2_closes_77 : decode cX2_closes 77 = .ok (.iload_n 3, 1) := by decide +kernel
theorem dX2_closes_78 : decode cX2_closes 78 = .ok (.aaload, 1) := by decide +kernel
theorem dX2_closes_79 : decode cX2_closes 79 = .ok (.iload 4, 2) := by decide +kernel
theorem dX2_closes_81 : decode cX2_closes 81 = .ok (.iaload, 1) := by decide +kernel
theorem dX2_closes_82 : decode cX2_closes 82 = .ok (.ifCond .le 34, 3) := by decide +kernel
theorem dX2_closes_85 : decode cX2_closes 85 = .ok (.aload_n 0, 1) := by decide +kernel
theorem dX2_closes_86 : decode cX2_closes 86 = .ok (.iload 4, 2) := by decide +kernel
theorem dX2_closes_88 : decode cX2_closes 88 = .ok (.iload_n 1, 1) := by decide +kernel
theorem dX2_closes_89 : decode cX2_closes 89 = .ok (.invokevirtual 61, 3) := by decide +kernel
theorem dX2_closes_92 : decode cX2_closes 92 = .ok (.ifCond .ne 24, 3) := by decide +kernel
theorem dX2_closes_95 : decode cX2_closes 95 = .ok (.aload_n 0, 1) := by decide +kernel
theorem dX2_closes_96 : decode cX2_closes 96 = .ok (.getfield 16, 3) := by decide +kernel
theorem dX2_closes_99 : decode cX2_closes 99 = .ok (.iload_n 1, 1) := by decide +kernel
theorem dX2_closes_100 : decode cX2_closes 100 = .ok (.iload 4, 2) := by decide +kernel
theorem dX2_closes_102 : decode cX2_closes 102 = .ok (.iastore, 1) := by decide +kernel
theorem dX2_closes_103 : decode cX2_closes 103 = .ok (.aload_n 0, 1) := by decide +kernel
theorem dX2_closes_104 : decode cX2_closes 104 = .ok (.iload_n 1, 1) := by decide +kernel
theorem dX2_closes_105 : decode cX2_closes 105 = .ok (.iconst 1, 1) := by decide +kernel
theorem dX2_closes_106 : decode cX2_closes 106 = .ok (.iadd, 1) := by decide +kernel
theorem dX2_closes_107 : decode cX2_closes 107 = .ok (.iload_n 2, 1) := by decide +kernel
theorem dX2_closes_108 : decode cX2_closes 108 = .ok (.invokevirtual 53, 3) := by decide +kernel
theorem dX2_closes_111 : decode cX2_closes 111 = .ok (.ifCond .eq 5, 3) := by decide +kernel
theorem dX2_closes_114 : decode cX2_closes 114 = .ok (.iconst 1, 1) := by decide +kernel
theorem dX2_closes_115 : decode cX2_closes 115 = .ok (.ireturn, 1) := by decide +kernel
theorem dX2_closes_116 : decode cX2_closes 116 = .ok (.iinc 4 1, 3) := by decide +kernel
theorem dX2_closes_119 : decode cX2_closes 119 = .ok (.goto (-55), 3) := by decide +kernel
theorem dX2_closes_122 : decode cX2_closes 122 = .ok (.iconst 0, 1) := by decide +kernel
theorem dX2_closes_123 : decode cX2_closes 123 = .ok (.ireturn, 1) := by decide +kernel
theorem dX2_isPlaced_0 : decode cX2_isPlaced 0 = .ok (.iconst 0, 1) := by decide +kernel
theorem dX2_isPlaced_1 : decode cX2_isPlaced 1 = .ok (.istore_n 3, 1) := by decide +kernel
theorem dX2_isPlaced_2 : decode cX2_isPlaced 2 = .ok (.iload_n 3, 1) := by decide +kernel
theorem dX2_isPlaced_3 : decode cX2_isPlaced 3 = .ok (.iload_n 2, 1) := by decide +kernel
theorem dX2_isPlaced_4 : decode cX2_isPlaced 4 = .ok (.if_icmp .ge 21, 3) := by decide +kernel
theorem dX2_isPlaced_7 : decode cX2_isPlaced 7 = .ok (.aload_n 0, 1) := by decide +kernel
theorem dX2_isPlaced_8 : decode cX2_isPlaced 8 = .ok (.getfield 16, 3) := by decide +kernel
theorem dX2_isPlaced_11 : decode cX2_isPlaced 11 = .ok (.iload_n 3, 1) := by decide +kernel
theorem dX2_isPlaced_12 : decode cX2_isPlaced 12 = .ok (.iaload, 1) := by decide +kernel
theorem dX2_isPlaced_13 : decode cX2_isPlaced 13 = .ok (.iload_n 1, 1) := by decide +kernel
theorem dX2_isPlaced_14 : decode cX2_isPlaced 14 = .ok (.if_icmp .ne 5, 3) := by decide +kernel
theorem dX2_isPlaced_17 : decode cX2_isPlaced 17 = .ok (.iconst 1, 1) := by decide +kernel
theorem dX2_isPlaced_18 : decode cX2_isPlaced 18 = .ok (.ireturn, 1) := by decide +kernel
theorem dX2_isPlaced_19 : decode cX2_isPlaced 19 = .ok (.iinc 3 1, 3) := by decide +kernel
theorem dX2_isPlaced_22 : decode cX2_isPlaced 22 = .ok (.goto (-20), 3) := by decide +kernel
theorem dX2_isPlaced_25 : decode cX2_isPlaced 25 = .ok (.iconst 0, 1) := by decide +kernel
theorem dX2_isPlaced_26 : decode cX2_isPlaced 26 = .ok (.ireturn, 1) := by decide +kernel
theorem dX2_clear_0 : decode cX2_clear 0 = .ok (.iload_n 1, 1) := by decide +kernel
theorem dX2_clear_1 : decode cX2_clear 1 = .ok (.iconst 2, 1) := by decide +kernel
theorem dX2_clear_2 : decode cX2_clear 2 = .ok (.bipush 6, 2) := by decide +kernel
theorem dX2_clear_4 : decode cX2_clear 4 = .ok (.invokestatic 57, 3) := by decide +kernel
theorem dX2_clear_7 : decode cX2_clear 7 = .ok (.ifCond .ne 5, 3) := by decide +kernel
theorem dX2_clear_10 : decode cX2_clear 10 = .ok (.iconst 0, 1) := by decide +kernel
theorem dX2_clear_11 : decode cX2_clear 11 = .ok (.ireturn, 1) := by decide +kernel
theorem dX2_clear_12 : decode cX2_clear 12 = .ok (.ldc 64, 2) := by decide +kernel
theorem dX2_clear_14 : decode cX2_clear 14 = .ok (.istore_n 2, 1) := by decide +kernel
theorem dX2_clear_15 : decode cX2_clear 15 = .ok (.iconst 0, 1) := by decide +kernel
theorem dX2_clear_16 : decode cX2_clear 16 = .ok (.istore_n 3, 1) := by decide +kernel
theorem dX2_clear_17 : decode cX2_clear 17 = .ok (.iload_n 3, 1) := by decide +kernel
theorem dX2_clear_18 : decode cX2_clear 18 = .ok (.iload_n 1, 1) := by decide +kernel
theorem dX2_clear_19 : decode cX2_clear 19 = .ok (.if_icmp .ge 36, 3) := by decide +kernel
theorem dX2_clear_22 : decode cX2_clear 22 = .ok (.iload_n 2, 1) := by decide +kernel
theorem dX2_clear_23 : decode cX2_clear 23 = .ok (.aload_n 0, 1) := by decide +kernel
theorem dX2_clear_24 : decode cX2_clear 24 = .ok (.getfield 11, 3) := by decide +kernel
theorem dX2_clear_27 : decode cX2_clear 27 = .ok (.aload_n 0, 1) := by decide +kernel
theorem dX2_clear_28 : decode cX2_clear 28 = .ok (.getfield 16, 3) := by decide +kernel
theorem dX2_clear_31 : decode cX2_clear 31 = .ok (.iload_n 3, 1) := by decide +kernel
theorem dX2_clear_32 : decode cX2_clear 32 = .ok (.iaload, 1) := by decide +kernel
theorem dX2_clear_33 : decode cX2_clear 33 = .ok (.aaload, 1) := by decide +kernel
theorem dX2_clear_34 : decode cX2_clear 34 = .ok (.aload_n 0, 1) := by decide +kernel
theorem dX2_clear_35 : decode cX2_clear 35 = .ok (.getfield 16, 3) := by decide +kernel
theorem dX2_clear_38 : decode cX2_clear 38 = .ok (.iload_n 3, 1) := by decide +kernel
theorem dX2_clear_39 : decode cX2_clear 39 = .ok (.iconst 1, 1) := by decide +kernel
theorem dX2_clear_40 : decode cX2_clear 40 = .ok (.iadd, 1) := by decide +kernel
theorem dX2_clear_41 : decode cX2_clear 41 = .ok (.iload_n 1, 1) := by decide +kernel
theorem dX2_clear_42 : decode cX2_clear 42 = .ok (.irem, 1) := by decide +kernel
theorem dX2_clear_43 : decode cX2_clear 43 = .ok (.iaload, 1) := by decide +kernel
theorem dX2_clear_44 : decode cX2_clear 44 = .ok (.iaload, 1) := by decide +kernel
theorem dX2_clear_45 : decode cX2_clear 45 = .ok (.invokestatic 65, 3) := by decide +kernel
theorem dX2_clear_48 : decode cX2_clear 48 = .ok (.istore_n 2, 1) := by decide +kernel
theorem dX2_clear_49 : decode cX2_clear 49 = .ok (.iinc 3 1, 3) := by decide +kernel
theorem dX2_clear_52 : decode cX2_clear 52 = .ok (.goto (-35), 3) := by decide +kernel
theorem dX2_clear_55 : decode cX2_clear 55 = .ok (.iconst 0, 1) := by decide +kernel
theorem dX2_clear_56 : decode cX2_clear 56 = .ok (.istore_n 3, 1) := by decide +kernel
theorem dX2_clear_57 : decode cX2_clear 57 = .ok (.iload_n 3, 1) := by decide +kernel
theorem dX2_clear_58 : decode cX2_clear 58 = .ok (.iload_n 1, 1) := by decide +kernel
theorem dX2_clear_59 : decode cX2_clear 59 = .ok (.if_icmp .ge 35, 3) := by decide +kernel
theorem dX2_clear_62 : decode cX2_clear 62 = .ok (.aload_n 0, 1) := by decide +kernel
theorem dX2_clear_63 : decode cX2_clear 63 = .ok (.getfield 11, 3) := by decide +kernel
theorem dX2_clear_66 : decode cX2_clear 66 = .ok (.aload_n 0, 1) := by decide +kernel
theorem dX2_clear_67 : decode cX2_clear 67 = .ok (.getfield 16, 3) := by decide +kernel
theorem dX2_clear_70 : decode cX2_clear 70 = .ok (.iload_n 3, 1) := by decide +kernel
theorem dX2_clear_71 : decode cX2_clear 71 = .ok (.iaload, 1) := by decide +kernel
theorem dX2_clear_72 : decode cX2_clear 72 = .ok (.aaload, 1) := by decide +kernel
theorem dX2_clear_73 : decode cX2_clear 73 = .ok (.aload_n 0, 1) := by decide +kernel
theorem dX2_clear_74 : decode cX2_clear 74 = .ok (.getfield 16, 3) := by decide +kernel
theorem dX2_clear_77 : decode cX2_clear 77 = .ok (.iload_n 3, 1) := by decide +kernel
theorem dX2_clear_78 : decode cX2_clear 78 = .ok (.iconst 1, 1) := by decide +kernel
theorem dX2_clear_79 : decode cX2_clear 79 = .ok (.iadd, 1) := by decide +kernel
theorem dX2_clear_80 : decode cX2_clear 80 = .ok (.iload_n 1, 1) := by decide +kernel
theorem dX2_clear_81 : decode cX2_clear 81 = .ok (.irem, 1) := by decide +kernel
theorem dX2_clear_82 : decode cX2_clear 82 = .ok (.iaload, 1) := by decide +kernel
theorem dX2_clear_83 : decode cX2_clear 83 = .ok (.dup2, 1) := by decide +kernel
theorem dX2_clear_84 : decode cX2_clear 84 = .ok (.iaload, 1) := by decide +kernel
theorem dX2_clear_85 : decode cX2_clear 85 = .ok (.iload_n 2, 1) := by decide +kernel
theorem dX2_clear_86 : decode cX2_clear 86 = .ok (.isub, 1) := by decide +kernel
theorem dX2_clear_87 : decode cX2_clear 87 = .ok (.iastore, 1) := by decide +kernel
theorem dX2_clear_88 : decode cX2_clear 88 = .ok (.iinc 3 1, 3) := by decide +kernel
theorem dX2_clear_91 : decode cX2_clear 91 = .ok (.goto (-34), 3) := by decide +kernel
theorem dX2_clear_94 : decode cX2_clear 94 = .ok (.iload_n 2, 1) := by decide +kernel
theorem dX2_clear_95 : decode cX2_clear 95 = .ok (.iload_n 1, 1) := by decide +kernel
theorem dX2_clear_96 : decode cX2_clear 96 = .ok (.imul, 1) := by decide +kernel
theorem dX2_clear_97 : decode cX2_clear 97 = .ok (.ireturn, 1) := by decide +kernel
theorem dX3_init_0 : decode cX3_init 0 = .ok (.aload_n 0, 1) := by decide +kernel
theorem dX3_init_1 : decode cX3_init 1 = .ok (.invokespecial 3, 3) := by decide +kernel
theorem dX3_init_4 : decode cX3_init 4 = .ok (.aload_n 0, 1) := by decide +kernel
theorem dX3_init_5 : decode cX3_init 5 = .ok (.iconst 1, 1) := by decide +kernel
theorem dX3_init_6 : decode cX3_init 6 = .ok (.iload_n 1, 1) := by decide +kernel
theorem dX3_init_7 : decode cX3_init 7 = .ok (.invokestatic 9, 3) := by decide +kernel
theorem dX3_init_10 : decode cX3_init 10 = .ok (.anewarray 15, 3) := by decide +kernel
theorem dX3_init_13 : decode cX3_init 13 = .ok (.putfield 17, 3) := by decide +kernel
theorem dX3_init_16 : decode cX3_init 16 = .ok (.iconst 0, 1) := by decide +kernel
theorem dX3_init_17 : decode cX3_init 17 = .ok (.istore_n 3, 1) := by decide +kernel
theorem dX3_init_18 : decode cX3_init 18 = .ok (.iload_n 3, 1) := by decide +kernel
theorem dX3_init_19 : decode cX3_init 19 = .ok (.aload_n 0, 1) := by decide +kernel
theorem dX3_init_20 : decode cX3_init 20 = .ok (.getfield 17, 3) := by decide +kernel
theorem dX3_init_23 : decode cX3_init 23 = .ok (.arraylength, 1) := by decide +kernel
theorem dX3_init_24 : decode cX3_init 24 = .ok (.if_icmp .ge 23, 3) := by decide +kernel
theorem dX3_init_27 : decode cX3_init 27 = .ok (.aload_n 0, 1) := by decide +kernel
theorem dX3_init_28 : decode cX3_init 28 = .ok (.getfield 17, 3) := by decide +kernel
theorem dX3_init_31 : decode cX3_init 31 = .ok (.iload_n 3, 1) := by decide +kernel
theorem dX3_init_32 : decode cX3_init 32 = .ok (.new 15, 3) := by decide +kernel
theorem dX3_init_35 : decode cX3_init 35 = .ok (.dup, 1) := by decide +kernel
theorem dX3_init_36 : decode cX3_init 36 = .ok (.aload_n 2, 1) := by decide +kernel
theorem dX3_init_37 : decode cX3_init 37 = .ok (.invokespecial 23, 3) := by decide +kernel
theorem dX3_init_40 : decode cX3_init 40 = .ok (.aastore, 1) := by decide +kernel
theorem dX3_init_41 : decode cX3_init 41 = .ok (.iinc 3 1, 3) := by decide +kernel
theorem dX3_init_44 : decode cX3_init 44 = .ok (.goto (-26), 3) := by decide +kernel
theorem dX3_init_47 : decode cX3_init 47 = .ok (.return_, 1) := by decide +kernel
theorem dX3_put_0 : decode cX3_put 0 = .ok (.aload_n 0, 1) := by decide +kernel
theorem dX3_put_1 : decode cX3_put 1 = .ok (.getfield 26, 3) := by decide +kernel
theorem dX3_put_4 : decode cX3_put 4 = .ok (.aload_n 0, 1) := by decide +kernel
theorem dX3_put_5 : decode cX3_put 5 = .ok (.getfield 17, 3) := by decide +kernel
theorem dX3_put_8 : decode cX3_put 8 = .ok (.arraylength, 1) := by decide +kernel
theorem dX3_put_9 : decode cX3_put 9 = .ok (.if_icmp .lt 7, 3) := by decide +kernel
theorem dX3_put_12 : decode cX3_put 12 = .ok (.aload_n 0, 1) := by decide +kernel
theorem dX3_put_13 : decode cX3_put 13 = .ok (.invokevirtual 30, 3) := by decide +kernel
theorem dX3_put_16 : decode cX3_put 16 = .ok (.aload_n 0, 1) := by decide +kernel
theorem dX3_put_17 : decode cX3_put 17 = .ok (.getfield 17, 3) := by decide +kernel
theorem dX3_put_20 : decode cX3_put 20 = .ok (.aload_n 0, 1) := by decide +kernel
theorem dX3_put_21 : decode cX3_put 21 = .ok (.getfield 26, 3) := by decide +kernel
theorem dX3_put_24 : decode cX3_put 24 = .ok (.aaload, 1) := by decide +kernel
theorem dX3_put_25 : decode cX3_put 25 = .ok (.aload_n 1, 1) := by decide +kernel
theorem dX3_put_26 : decode cX3_put 26 = .ok (.invokevirtual 33, 3) := by decide +kernel
theorem dX3_put_29 : decode cX3_put 29 = .ok (.aload_n 0, 1) := by decide +kernel
theorem dX3_put_30 : decode cX3_put 30 = .ok (.dup, 1) := by decide +kernel
theorem dX3_put_31 : decode cX3_put 31 = .ok (.getfield 26, 3) := by decide +kernel
theorem dX3_put_34 : decode cX3_put 34 = .ok (.iconst 1, 1) := by decide +kernel
theorem dX3_put_35 : decode cX3_put 35 = .ok (.iadd, 1) := by decide +kernel
theorem dX3_put_36 : decode cX3_put 36 = .ok (.putfield 26, 3) := by decide +kernel
theorem dX3_put_39 : decode cX3_put 39 = .ok (.return_, 1) := by decide +kernel
theorem dX3_moveLowestUp_0 : decode cX3_moveLowestUp 0 = .ok (.aload_n 0, 1) := by decide +kernel
theorem dX3_moveLowestUp_1 : decode cX3_moveLowestUp 1 = .ok (.getfield 17, 3) := by decide +kernel
theorem dX3_moveLowestUp_4 : decode cX3_moveLowestUp 4 = .ok (.iconst 0, 1) := by decide +kernel
theorem dX3_moveLowestUp_5 : decode cX3_moveLowestUp 5 = .ok (.aaload, 1) := by decide +kernel
theorem dX3_moveLowestUp_6 : decode cX3_moveLowestUp 6 = .ok (.astore_n 1, 1) := by decide +kernel
theorem dX3_moveLowestUp_7 : decode cX3_moveLowestUp 7 = .ok (.iconst 1, 1) := by decide +kernel
theorem dX3_moveLowestUp_8 : decode cX3_moveLowestUp 8 = .ok (.istore_n 2, 1) := by decide +kernel
theorem dX3_moveLowestUp_9 : decode cX3_moveLowestUp 9 = .ok (.iload_n 2, 1) := by decide +kernel
theorem dX3_moveLowestUp_10 : decode cX3_moveLowestUp 10 = .ok (.aload_n 0, 1) := by decide +kernel
theorem dX3_moveLowestUp_11 : decode cX3_moveLowestUp 11 = .ok (.getfield 17, 3) := by decide +kernel
theorem dX3_moveLowestUp_14 : decode cX3_moveLowestUp 14 = .ok (.arraylength, 1) := by decide +kernel
theorem dX3_moveLowestUp_15 : decode cX3_moveLowestUp 15 = .ok (.if_icmp .ge 23, 3) := by decide +kernel
theorem dX3_moveLowestUp_18 : decode cX3_moveLowestUp 18 = .ok (.aload_n 0, 1) := by decide +kernel
theorem dX3_moveLowestUp_19 : decode cX3_moveLowestUp 19 = .ok (.getfield 17, 3) := by decide +kernel
theorem dX3_moveLowestUp_22 : decode cX3_moveLowestUp 22 = .ok (.iload_n 2, 1) := by decide +kernel
theorem dX3_moveLowestUp_23 : decode cX3_moveLowestUp 23 = .ok (.iconst 1, 1) := by decide +kernel
theorem dX3_moveLowestUp_24 : decode cX3_moveLowestUp 24 = .ok (.isub, 1) := by decide +kernel
theorem dX3_moveLowestUp_25 : decode cX3_moveLowestUp 25 = .ok (.aload_n 0, 1) := by decide +kernel
theorem dX3_moveLowestUp_26 : decode cX3_moveLowestUp 26 = .ok (.getfield 17, 3) := by decide +kernel
theorem dX3_moveLowestUp_29 : decode cX3_moveLowestUp 29 = .ok (.iload_n 2, 1) := by decide +kernel
theorem dX3_moveLowestUp_30 : decode cX3_moveLowestUp 30 = .ok (.aaload, 1) := by decide +kernel
theorem dX3_moveLowestUp_31 : decode cX3_moveLowestUp 31 = .ok (.aastore, 1) := by decide +kernel
theorem dX3_moveLowestUp_32 : decode cX3_moveLowestUp 32 = .ok (.iinc 2 1, 3) := by decide +kernel
theorem dX3_moveLowestUp_35 : decode cX3_moveLowestUp 35 = .ok (.goto (-26), 3) := by decide +kernel
theorem dX3_moveLowestUp_38 : decode cX3_moveLowestUp 38 = .ok (.aload_n 0, 1) := by decide +kernel
theorem dX3_moveLowestUp_39 : decode cX3_moveLowestUp 39 = .ok (.aload_n 0, 1) := by decide +kernel
theorem dX3_moveLowestUp_40 : decode cX3_moveLowestUp 40 = .ok (.getfield 17, 3) := by decide +kernel
theorem dX3_moveLowestUp_43 : decode cX3_moveLowestUp 43 = .ok (.arraylength, 1) := by decide +kernel
theorem dX3_moveLowestUp_44 : decode cX3_moveLowestUp 44 = .ok (.iconst 1, 1) := by decide +kernel
theorem dX3_moveLowestUp_45 : decode cX3_moveLowestUp 45 = .ok (.isub, 1) := by decide +kernel
theorem dX3_moveLowestUp_46 : decode cX3_moveLowestUp 46 = .ok (.putfield 26, 3) := by decide +kernel
theorem dX3_moveLowestUp_49 : decode cX3_moveLowestUp 49 = .ok (.aload_n 0, 1) := by decide +kernel
theorem dX3_moveLowestUp_50 : decode cX3_moveLowestUp 50 = .ok (.getfield 17, 3) := by decide +kernel
theorem dX3_moveLowestUp_53 : decode cX3_moveLowestUp 53 = .ok (.aload_n 0, 1) := by decide +kernel
theorem dX3_moveLowestUp_54 : decode cX3_moveLowestUp 54 = .ok (.getfield 26, 3) := by decide +kernel
theorem dX3_moveLowestUp_57 : decode cX3_moveLowestUp 57 = .ok (.aload_n 1, 1) := by decide +kernel
theorem dX3_moveLowestUp_58 : decode cX3_moveLowestUp 58 = .ok (.aastore, 1) := by decide +kernel
theorem dX3_moveLowestUp_59 : decode cX3_moveLowestUp 59 = .ok (.return_, 1) := by decide +kernel
theorem dX3_takeInto_0 : decode cX3_takeInto 0 = .ok (.aload_n 0, 1) := by decide +kernel
theorem dX3_takeInto_1 : decode cX3_takeInto 1 = .ok (.getfield 26, 3) := by decide +kernel
theorem dX3_takeInto_4 : decode cX3_takeInto 4 = .ok (.iconst 1, 1) := by decide +kernel
theorem dX3_takeInto_5 : decode cX3_takeInto 5 = .ok (.aload_n 0, 1) := by decide +kernel
theorem dX3_takeInto_6 : decode cX3_takeInto 6 = .ok (.getfield 17, 3) := by decide +kernel
theorem dX3_takeInto_9 : decode cX3_takeInto 9 = .ok (.arraylength, 1) := by decide +kernel
theorem dX3_takeInto_10 : decode cX3_takeInto 10 = .ok (.invokestatic 37, 3) := by decide +kernel
theorem dX3_takeInto_13 : decode cX3_takeInto 13 = .ok (.ifCond .ne 6, 3) := by decide +kernel
theorem dX3_takeInto_16 : decode cX3_takeInto 16 = .ok (.bipush (-2), 2) := by decide +kernel
theorem dX3_takeInto_18 : decode cX3_takeInto 18 = .ok (.ireturn, 1) := by decide +kernel
theorem dX3_takeInto_19 : decode cX3_takeInto 19 = .ok (.aload_n 0, 1) := by decide +kernel
theorem dX3_takeInto_20 : decode cX3_takeInto 20 = .ok (.dup, 1) := by decide +kernel
theorem dX3_takeInto_21 : decode cX3_takeInto 21 = .ok (.getfield 26, 3) := by decide +kernel
theorem dX3_takeInto_24 : decode cX3_takeInto 24 = .ok (.iconst 1, 1) := by decide +kernel
theorem dX3_takeInto_25 : decode cX3_takeInto 25 = .ok (.isub, 1) := by decide +kernel
theorem dX3_takeInto_26 : decode cX3_takeInto 26 = .ok (.putfield 26, 3) := by decide +kernel
theorem dX3_takeInto_29 : decode cX3_takeInto 29 = .ok (.aload_n 1, 1) := by decide +kernel
theorem dX3_takeInto_30 : decode cX3_takeInto 30 = .ok (.aload_n 0, 1) := by decide +kernel
theorem dX3_takeInto_31 : decode cX3_takeInto 31 = .ok (.getfield 17, 3) := by decide +kernel
theorem dX3_takeInto_34 : decode cX3_takeInto 34 = .ok (.aload_n 0, 1) := by decide +kernel
theorem dX3_takeInto_35 : decode cX3_takeInto 35 = .ok (.getfield 26, 3) := by decide +kernel
theorem dX3_takeInto_38 : decode cX3_takeInto 38 = .ok (.aaload, 1) := by decide +kernel
theorem dX3_takeInto_39 : decode cX3_takeInto 39 = .ok (.invokevirtual 33, 3) := by decide +kernel
theorem dX3_takeInto_42 : decode cX3_takeInto 42 = .ok (.aload_n 0, 1) := by decide +kernel
theorem dX3_takeInto_43 : decode cX3_takeInto 43 = .ok (.getfield 26, 3) := by decide +kernel
theorem dX3_takeInto_46 : decode cX3_takeInto 46 = .ok (.ireturn, 1) := by decide +kernel
theorem dX4_init_0 : decode cX4_init 0 = .ok (.aload_n 0, 1) := by decide +kernel
theorem dX4_init_1 : decode cX4_init 1 = .ok (.invokespecial 3, 3) := by decide +kernel
theorem dX4_init_4 : decode cX4_init 4 = .ok (.aload_n 0, 1) := by decide +kernel
theorem dX4_init_5 : decode cX4_init 5 = .ok (.bipush 6, 2) := by decide +kernel
theorem dX4_init_7 : decode cX4_init 7 = .ok (.newarray .int, 2) := by decide +kernel
theorem dX4_init_9 : decode cX4_init 9 = .ok (.putfield 9, 3) := by decide +kernel
theorem dX4_init_12 : decode cX4_init 12 = .ok (.return_, 1) := by decide +kernel
theorem dX4_clear_0 : decode cX4_clear 0 = .ok (.aload_n 0, 1) := by decide +kernel
theorem dX4_clear_1 : decode cX4_clear 1 = .ok (.iconst 0, 1) := by decide +kernel
theorem dX4_clear_2 : decode cX4_clear 2 = .ok (.putfield 15, 3) := by decide +kernel
theorem dX4_clear_5 : decode cX4_clear 5 = .ok (.aload_n 0, 1) := by decide +kernel
theorem dX4_clear_6 : decode cX4_clear 6 = .ok (.bipush 10, 2) := by decide +kernel
theorem dX4_clear_8 : decode cX4_clear 8 = .ok (.putfield 19, 3) := by decide +kernel
theorem dX4_clear_11 : decode cX4_clear 11 = .ok (.aload_n 0, 1) := by decide +kernel
theorem dX4_clear_12 : decode cX4_clear 12 = .ok (.iconst 0, 1) := by decide +kernel
theorem dX4_clear_13 : decode cX4_clear 13 = .ok (.putfield 22, 3) := by decide +kernel
theorem dX4_clear_16 : decode cX4_clear 16 = .ok (.aload_n 0, 1) := by decide +kernel
theorem dX4_clear_17 : decode cX4_clear 17 = .ok (.iconst 0, 1) := by decide +kernel
theorem dX4_clear_18 : decode cX4_clear 18 = .ok (.putfield 25, 3) := by decide +kernel
theorem dX4_clear_21 : decode cX4_clear 21 = .ok (.return_, 1) := by decide +kernel
theorem dX4_copyFrom_0 : decode cX4_copyFrom 0 = .ok (.aload_n 1, 1) := by decide +kernel
theorem dX4_copyFrom_1 : decode cX4_copyFrom 1 = .ok (.getfield 9, 3) := by decide +kernel
theorem dX4_copyFrom_4 : decode cX4_copyFrom 4 = .ok (.iconst 0, 1) := by decide +kernel
theorem dX4_copyFrom_5 : decode cX4_copyFrom 5 = .ok (.aload_n 0, 1) := by decide +kernel
theorem dX4_copyFrom_6 : decode cX4_copyFrom 6 = .ok (.getfield 9, 3) := by decide +kernel
theorem dX4_copyFrom_9 : decode cX4_copyFrom 9 = .ok (.iconst 0, 1) := by decide +kernel
theorem dX4_copyFrom_10 : decode cX4_copyFrom 10 = .ok (.bipush 6, 2) := by decide +kernel
theorem dX4_copyFrom_12 : decode cX4_copyFrom 12 = .ok (.invokestatic 28, 3) := by decide +kernel
theorem dX4_copyFrom_15 : decode cX4_copyFrom 15 = .ok (.aload_n 0, 1) := by decide +kernel
theorem dX4_copyFrom_16 : decode cX4_copyFrom 16 = .ok (.aload_n 1, 1) := by decide +kernel
theorem dX4_copyFrom_17 : decode cX4_copyFrom 17 = .ok (.getfield 15, 3) := by decide +kernel
theorem dX4_copyFrom_20 : decode cX4_copyFrom 20 = .ok (.putfield 15, 3) := by decide +kernel
theorem dX4_copyFrom_23 : decode cX4_copyFrom 23 = .ok (.aload_n 0, 1) := by decide +kernel
theorem dX4_copyFrom_24 : decode cX4_copyFrom 24 = .ok (.aload_n 1, 1) := by decide +kernel
theorem dX4_copyFrom_25 : decode cX4_copyFrom 25 = .ok (.getfield 19, 3) := by decide +kernel
theorem dX4_copyFrom_28 : decode cX4_copyFrom 28 = .ok (.putfield 19, 3) := by decide +kernel
theorem dX4_copyFrom_31 : decode cX4_copyFrom 31 = .ok (.aload_n 0, 1) := by decide +kernel
theorem dX4_copyFrom_32 : decode cX4_copyFrom 32 = .ok (.aload_n 1, 1) := by decide +kernel
theorem dX4_copyFrom_33 : decode cX4_copyFrom 33 = .ok (.getfield 22, 3) := by decide +kernel
theorem dX4_copyFrom_36 : decode cX4_copyFrom 36 = .ok (.putfield 22, 3) := by decide +kernel
theorem dX4_copyFrom_39 : decode cX4_copyFrom 39 = .ok (.aload_n 0, 1) := by decide +kernel
theorem dX4_copyFrom_40 : decode cX4_copyFrom 40 = .ok (.aload_n 1, 1) := by decide +kernel
theorem dX4_copyFrom_41 : decode cX4_copyFrom 41 = .ok (.getfield 25, 3) := by decide +kernel
theorem dX4_copyFrom_44 : decode cX4_copyFrom 44 = .ok (.putfield 25, 3) := by decide +kernel
theorem dX4_copyFrom_47 : decode cX4_copyFrom 47 = .ok (.return_, 1) := by decide +kernel
theorem dX4_readFrom_0 : decode cX4_readFrom 0 = .ok (.aload_n 0, 1) := by decide +kernel
theorem dX4_readFrom_1 : decode cX4_readFrom 1 = .ok (.invokevirtual 34, 3) := by decide +kernel
theorem dX4_readFrom_4 : decode cX4_readFrom 4 = .ok (.iconst 0, 1) := by decide +kernel
theorem dX4_readFrom_5 : decode cX4_readFrom 5 = .ok (.istore_n 2, 1) := by decide +kernel
theorem dX4_readFrom_6 : decode cX4_readFrom 6 = .ok (.iload_n 2, 1) := by decide +kernel
theorem dX4_readFrom_7 : decode cX4_readFrom 7 = .ok (.aload_n 1, 1) := by decide +kernel
theorem dX4_readFrom_8 : decode cX4_readFrom 8 = .ok (.getfield 37, 3) := by decide +kernel
theorem dX4_readFrom_11 : decode cX4_readFrom 11 = .ok (.if_icmp .ge 42, 3) := by decide +kernel
theorem dX4_readFrom_14 : decode cX4_readFrom 14 = .ok (.aload_n 1, 1) := by decide +kernel
theorem dX4_readFrom_15 : decode cX4_readFrom 15 = .ok (.iload_n 2, 1) := by decide +kernel
theorem dX4_readFrom_16 : decode cX4_readFrom 16 = .ok (.invokevirtual 42, 3) := by decide +kernel
theorem dX4_readFrom_19 : decode cX4_readFrom 19 = .ok (.ifCond .eq 18, 3) := by decide +kernel
theorem dX4_readFrom_22 : decode cX4_readFrom 22 = .ok (.aload_n 0, 1) := by decide +kernel
theorem dX4_readFrom_23 : decode cX4_readFrom 23 = .ok (.aload_n 1, 1) := by decide +kernel
theorem dX4_readFrom_24 : decode cX4_readFrom 24 = .ok (.getfield 46, 3) := by decide +kernel
theorem dX4_readFrom_27 : decode cX4_readFrom 27 = .ok (.aload_n 1, 1) := by decide +kernel
theorem dX4_readFrom_28 : decode cX4_readFrom 28 = .ok (.getfield 49, 3) := by decide +kernel
theorem dX4_readFrom_31 : decode cX4_readFrom 31 = .ok (.invokevirtual 52, 3) := by decide +kernel
theorem dX4_readFrom_34 : decode cX4_readFrom 34 = .ok (.ifCond .ne 5, 3) := by decide +kernel
theorem dX4_readFrom_37 : decode cX4_readFrom 37 = .ok (.iload_n 2, 1) := by decide +kernel
theorem dX4_readFrom_38 : decode cX4_readFrom 38 = .ok (.ireturn, 1) := by decide +kernel
theorem dX4_readFrom_39 : decode cX4_readFrom 39 = .ok (.iload_n 2, 1) := by decide +kernel
theorem dX4_readFrom_40 : decode cX4_readFrom 40 = .ok (.iconst 1, 1) := by decide +kernel
theorem dX4_readFrom_41 : decode cX4_readFrom 41 = .ok (.iadd, 1) := by decide +kernel
theorem dX4_readFrom_42 : decode cX4_readFrom 42 = .ok (.aload_n 1, 1) := by decide +kernel
theorem dX4_readFrom_43 : decode cX4_readFrom 43 = .ok (.getfield 56, 3) := by decide +kernel
theorem dX4_readFrom_46 : decode cX4_readFrom 46 = .ok (.invokestatic 59, 3) := by decide +kernel
theorem dX4_readFrom_49 : decode cX4_readFrom 49 = .ok (.istore_n 2, 1) := by decide +kernel
theorem dX4_readFrom_50 : decode cX4_readFrom 50 = .ok (.goto (-44), 3) := by decide +kernel
theorem dX4_readFrom_53 : decode cX4_readFrom 53 = .ok (.bipush (-4), 2) := by decide +kernel
theorem dX4_readFrom_55 : decode cX4_readFrom 55 = .ok (.ireturn, 1) := by decide +kernel
theorem dX4_accept_0 : decode cX4_accept 0 = .ok (.iload_n 1, 1) := by decide +kernel
theorem dX4_accept_1 : decode cX4_accept 1 = .ok (.tableswitch 90 107 114 #[66, 90, 90, 78, 90, 47, 90, 53], 47) := by decide +kernel
theorem dX4_accept_48 : decode cX4_accept 48 = .ok (.aload_n 0, 1) := by decide +kernel
theorem dX4_accept_49 : decode cX4_accept 49 = .ok (.iload_n 2, 1) := by decide +kernel
theorem dX4_accept_50 : decode cX4_accept 50 = .ok (.invokevirtual 65, 3) := by decide +kernel
theorem dX4_accept_53 : decode cX4_accept 53 = .ok (.ireturn, 1) := by decide +kernel
theorem dX4_accept_54 : decode cX4_accept 54 = .ok (.aload_n 0, 1) := by decide +kernel
theorem dX4_accept_55 : decode cX4_accept 55 = .ok (.iload_n 2, 1) := by decide +kernel
theorem dX4_accept_56 : decode cX4_accept 56 = .ok (.putfield 19, 3) := by decide +kernel
theorem dX4_accept_59 : decode cX4_accept 59 = .ok (.iload_n 2, 1) := by decide +kernel
theorem dX4_accept_60 : decode cX4_accept 60 = .ok (.iconst 0, 1) := by decide +kernel
theorem dX4_accept_61 : decode cX4_accept 61 = .ok (.bipush 99, 2) := by decide +kernel
theorem dX4_accept_63 : decode cX4_accept 63 = .ok (.invokestatic 68, 3) := by decide +kernel
theorem dX4_accept_66 : decode cX4_accept 66 = .ok (.ireturn, 1) := by decide +kernel
theorem dX4_accept_67 : decode cX4_accept 67 = .ok (.aload_n 0, 1) := by decide +kernel
theorem dX4_accept_68 : decode cX4_accept 68 = .ok (.iload_n 2, 1) := by decide +kernel
theorem dX4_accept_69 : decode cX4_accept 69 = .ok (.putfield 22, 3) := by decide +kernel
theorem dX4_accept_72 : decode cX4_accept 72 = .ok (.iload_n 2, 1) := by decide +kernel
theorem dX4_accept_73 : decode cX4_accept 73 = .ok (.iconst 0, 1) := by decide +kernel
theorem dX4_accept_74 : decode cX4_accept 74 = .ok (.iconst 3, 1) := by decide +kernel
theorem dX4_accept_75 : decode cX4_accept 75 = .ok (.invokestatic 68, 3) := by decide +kernel
theorem dX4_accept_78 : decode cX4_accept 78 = .ok (.ireturn, 1) := by decide +kernel
theorem dX4_accept_79 : decode cX4_accept 79 = .ok (.aload_n 0, 1) := by decide +kernel
theorem dX4_accept_80 : decode cX4_accept 80 = .ok (.iload_n 2, 1) := by decide +kernel
theorem dX4_accept_81 : decode cX4_accept 81 = .ok (.putfield 25, 3) := by decide +kernel
theorem dX4_accept_84 : decode cX4_accept 84 = .ok (.iload_n 2, 1) := by decide +kernel
theorem dX4_accept_85 : decode cX4_accept 85 = .ok (.iconst 0, 1) := by decide +kernel
theorem dX4_accept_86 : decode cX4_accept 86 = .ok (.iconst 2, 1) := by decide +kernel
theorem dX4_accept_87 : decode cX4_accept 87 = .ok (.invokestatic 68, 3) := by decide +kernel
theorem dX4_accept_90 : decode cX4_accept 90 = .ok (.ireturn, 1) := by decide +kernel
theorem dX4_accept_91 : decode cX4_accept 91 = .ok (.iconst 0, 1) := by decide +kernel
theorem dX4_accept_92 : decode cX4_accept 92 = .ok (.ireturn, 1) := by decide +kernel
theorem dX4_addPerson_0 : decode cX4_addPerson 0 = .ok (.iload_n 1, 1) := by decide +kernel
theorem dX4_addPerson_1 : decode cX4_addPerson 1 = .ok (.iconst 1, 1) := by decide +kernel
theorem dX4_addPerson_2 : decode cX4_addPerson 2 = .ok (.sipush 999, 3) := by decide +kernel
theorem dX4_addPerson_5 : decode cX4_addPerson 5 = .ok (.invokestatic 68, 3) := by decide +kernel
theorem dX4_addPerson_8 : decode cX4_addPerson 8 = .ok (.ifCond .eq 12, 3) := by decide +kernel
theorem dX4_addPerson_11 : decode cX4_addPerson 11 = .ok (.aload_n 0, 1) := by decide +kernel
theorem dX4_addPerson_12 : decode cX4_addPerson 12 = .ok (.getfield 15, 3) := by decide +kernel
theorem dX4_addPerson_15 : decode cX4_addPerson 15 = .ok (.bipush 6, 2) := by decide +kernel
theorem dX4_addPerson_17 : decode cX4_addPerson 17 = .ok (.if_icmp .lt 5, 3) := by decide +kernel
theorem dX4_addPerson_20 : decode cX4_addPerson 20 = .ok (.iconst 0, 1) := by decide +kernel
theorem dX4_addPerson_21 : decode cX4_addPerson 21 = .ok (.ireturn, 1) := by decide +kernel
theorem dX4_addPerson_22 : decode cX4_addPerson 22 = .ok (.aload_n 0, 1) := by decide +kernel
theorem dX4_addPerson_23 : decode cX4_addPerson 23 = .ok (.getfield 9, 3) := by decide +kernel
theorem dX4_addPerson_26 : decode cX4_addPerson 26 = .ok (.aload_n 0, 1) := by decide +kernel
theorem dX4_addPerson_27 : decode cX4_addPerson 27 = .ok (.getfield 15, 3) := by decide +kernel
theorem dX4_addPerson_30 : decode cX4_addPerson 30 = .ok (.iload_n 1, 1) := by decide +kernel
theorem dX4_addPerson_31 : decode cX4_addPerson 31 = .ok (.iastore, 1) := by decide +kernel
theorem dX4_addPerson_32 : decode cX4_addPerson 32 = .ok (.aload_n 0, 1) := by decide +kernel
theorem dX4_addPerson_33 : decode cX4_addPerson 33 = .ok (.dup, 1) := by decide +kernel
theorem dX4_addPerson_34 : decode cX4_addPerson 34 = .ok (.getfield 15, 3) := by decide +kernel
theorem dX4_addPerson_37 : decode cX4_addPerson 37 = .ok (.iconst 1, 1) := by decide +kernel
theorem dX4_addPerson_38 : decode cX4_addPerson 38 = .ok (.iadd, 1) := by decide +kernel
theorem dX4_addPerson_39 : decode cX4_addPerson 39 = .ok (.putfield 15, 3) := by decide +kernel
theorem dX4_addPerson_42 : decode cX4_addPerson 42 = .ok (.iconst 1, 1) := by decide +kernel
theorem dX4_addPerson_43 : decode cX4_addPerson 43 = .ok (.ireturn, 1) := by decide +kernel
theorem dX4_interestOn_0 : decode cX4_interestOn 0 = .ok (.iload_n 1, 1) := by decide +kernel
theorem dX4_interestOn_1 : decode cX4_interestOn 1 = .ok (.aload_n 0, 1) := by decide +kernel
theorem dX4_interestOn_2 : decode cX4_interestOn 2 = .ok (.getfield 19, 3) := by decide +kernel
theorem dX4_interestOn_5 : decode cX4_interestOn 5 = .ok (.imul, 1) := by decide +kernel
theorem dX4_interestOn_6 : decode cX4_interestOn 6 = .ok (.bipush 100, 2) := by decide +kernel
theorem dX4_interestOn_8 : decode cX4_interestOn 8 = .ok (.idiv, 1) := by decide +kernel
theorem dX4_interestOn_9 : decode cX4_interestOn 9 = .ok (.ireturn, 1) := by decide +kernel
theorem dX5_init_0 : decode cX5_init 0 = .ok (.aload_n 0, 1) := by decide +kernel
theorem dX5_init_1 : decode cX5_init 1 = .ok (.invokespecial 3, 3) := by decide +kernel
theorem dX5_init_4 : decode cX5_init 4 = .ok (.aload_n 0, 1) := by decide +kernel
theorem dX5_init_5 : decode cX5_init 5 = .ok (.sipush 300, 3) := by decide +kernel
theorem dX5_init_8 : decode cX5_init 8 = .ok (.newarray .int, 2) := by decide +kernel
theorem dX5_init_10 : decode cX5_init 10 = .ok (.putfield 9, 3) := by decide +kernel
theorem dX5_init_13 : decode cX5_init 13 = .ok (.return_, 1) := by decide +kernel
theorem dX5_append_0 : decode cX5_append 0 = .ok (.iload_n 1, 1) := by decide +kernel
theorem dX5_append_1 : decode cX5_append 1 = .ok (.iconst 1, 1) := by decide +kernel
theorem dX5_append_2 : decode cX5_append 2 = .ok (.isub, 1) := by decide +kernel
theorem dX5_append_3 : decode cX5_append 3 = .ok (.istore 4, 2) := by decide +kernel
theorem dX5_append_5 : decode cX5_append 5 = .ok (.iload 4, 2) := by decide +kernel
theorem dX5_append_7 : decode cX5_append 7 = .ok (.ifCond .lt 50, 3) := by decide +kernel
theorem dX5_append_10 : decode cX5_append 10 = .ok (.aload_n 0, 1) := by decide +kernel
theorem dX5_append_11 : decode cX5_append 11 = .ok (.getfield 15, 3) := by decide +kernel
theorem dX5_append_14 : decode cX5_append 14 = .ok (.sipush 300, 3) := by decide +kernel
theorem dX5_append_17 : decode cX5_append 17 = .ok (.if_icmp .ge 40, 3) := by decide +kernel
theorem dX5_append_20 : decode cX5_append 20 = .ok (.aload_n 0, 1) := by decide +kernel
theorem dX5_append_21 : decode cX5_append 21 = .ok (.getfield 9, 3) := by decide +kernel
theorem dX5_append_24 : decode cX5_append 24 = .ok (.aload_n 0, 1) := by decide +kernel
theorem dX5_append_25 : decode cX5_append 25 = .ok (.getfield 15, 3) := by decide +kernel
theorem dX5_append_28 : decode cX5_append 28 = .ok (.lload_n 2, 1) := by decide +kernel
theorem dX5_append_29 : decode cX5_append 29 = .ok (.bipush 8, 2) := by decide +kernel
theorem dX5_append_31 : decode cX5_append 31 = .ok (.iload 4, 2) := by decide +kernel
theorem dX5_append_33 : decode cX5_append 33 = .ok (.imul, 1) := by decide +kernel
theorem dX5_append_34 : decode cX5_append 34 = .ok (.lushr, 1) := by decide +kernel
theorem dX5_append_35 : decode cX5_append 35 = .ok (.l2i, 1) := by decide +kernel
theorem dX5_append_36 : decode cX5_append 36 = .ok (.sipush 255, 3) := by decide +kernel
theorem dX5_append_39 : decode cX5_append 39 = .ok (.iand, 1) := by decide +kernel
theorem dX5_append_40 : decode cX5_append 40 = .ok (.iastore, 1) := by decide +kernel
theorem dX5_append_41 : decode cX5_append 41 = .ok (.aload_n 0, 1) := by decide +kernel
theorem dX5_append_42 : decode cX5_append 42 = .ok (.dup, 1) := by decide +kernel
theorem dX5_append_43 : decode cX5_append 43 = .ok (.getfield 15, 3) := by decide +kernel
theorem dX5_append_46 : decode cX5_append 46 = .ok (.iconst 1, 1) := by decide +kernel
theorem dX5_append_47 : decode cX5_append 47 = .ok (.iadd, 1) := by decide +kernel
theorem dX5_append_48 : decode cX5_append 48 = .ok (.putfield 15, 3) := by decide +kernel
theorem dX5_append_51 : decode cX5_append 51 = .ok (.iinc 4 (-1), 3) := by decide +kernel
theorem dX5_append_54 : decode cX5_append 54 = .ok (.goto (-49), 3) := by decide +kernel
theorem dX5_append_57 : decode cX5_append 57 = .ok (.return_, 1) := by decide +kernel
theorem dX5_readItem_0 : decode cX5_readItem 0 = .ok (.iload_n 1, 1) := by decide +kernel
theorem dX5_readItem_1 : decode cX5_readItem 1 = .ok (.iconst 0, 1) := by decide +kernel
theorem dX5_readItem_2 : decode cX5_readItem 2 = .ok (.aload_n 0, 1) := by decide +kernel
theorem dX5_readItem_3 : decode cX5_readItem 3 = .ok (.getfield 15, 3) := by decide +kernel
theorem dX5_readItem_6 : decode cX5_readItem 6 = .ok (.iconst 1, 1) := by decide +kernel
theorem dX5_readItem_7 : decode cX5_readItem 7 = .ok (.isub, 1) := by decide +kernel
theorem dX5_readItem_8 : decode cX5_readItem 8 = .ok (.invokestatic 19, 3) := by decide +kernel
theorem dX5_readItem_11 : decode cX5_readItem 11 = .ok (.ifCond .ne 5, 3) := by decide +kernel
theorem dX5_readItem_14 : decode cX5_readItem 14 = .ok (.iconst 0, 1) := by decide +kernel
theorem dX5_readItem_15 : decode cX5_readItem 15 = .ok (.ireturn, 1) := by decide +kernel
theorem dX5_readItem_16 : decode cX5_readItem 16 = .ok (.aload_n 0, 1) := by decide +kernel
theorem dX5_readItem_17 : decode cX5_readItem 17 = .ok (.aload_n 0, 1) := by decide +kernel
theorem dX5_readItem_18 : decode cX5_readItem 18 = .ok (.getfield 9, 3) := by decide +kernel
theorem dX5_readItem_21 : decode cX5_readItem 21 = .ok (.iload_n 1, 1) := by decide +kernel
theorem dX5_readItem_22 : decode cX5_readItem 22 = .ok (.iaload, 1) := by decide +kernel
theorem dX5_readItem_23 : decode cX5_readItem 23 = .ok (.putfield 23, 3) := by decide +kernel
theorem dX5_readItem_26 : decode cX5_readItem 26 = .ok (.aload_n 0, 1) := by decide +kernel
theorem dX5_readItem_27 : decode cX5_readItem 27 = .ok (.iconst 0, 1) := by decide +kernel
theorem dX5_readItem_28 : decode cX5_readItem 28 = .ok (.putfield 26, 3) := by decide +kernel
theorem dX5_readItem_31 : decode cX5_readItem 31 = .ok (.iload_n 1, 1) := by decide +kernel
theorem dX5_readItem_32 : decode cX5_readItem 32 = .ok (.iconst 1, 1) := by decide +kernel
theorem dX5_readItem_33 : decode cX5_readItem 33 = .ok (.iadd, 1) := by decide +kernel
theorem dX5_readItem_34 : decode cX5_readItem 34 = .ok (.istore_n 2, 1) := by decide +kernel
theorem dX5_readItem_35 : decode cX5_readItem 35 = .ok (.iload_n 2, 1) := by decide +kernel
theorem dX5_readItem_36 : decode cX5_readItem 36 = .ok (.aload_n 0, 1) := by decide +kernel
theorem dX5_readItem_37 : decode cX5_readItem 37 = .ok (.getfield 15, 3) := by decide +kernel
theorem dX5_readItem_40 : decode cX5_readItem 40 = .ok (.if_icmp .ge 53, 3) := by decide +kernel
theorem dX5_readItem_43 : decode cX5_readItem 43 = .ok (.iload_n 2, 1) := by decide +kernel
theorem dX5_readItem_44 : decode cX5_readItem 44 = .ok (.iload_n 1, 1) := by decide +kernel
theorem dX5_readItem_45 : decode cX5_readItem 45 = .ok (.iconst 3, 1) := by decide +kernel
theorem dX5_readItem_46 : decode cX5_readItem 46 = .ok (.iadd, 1) := by decide +kernel
theorem dX5_readItem_47 : decode cX5_readItem 47 = .ok (.if_icmp .gt 46, 3) := by decide +kernel
theorem dX5_readItem_50 : decode cX5_readItem 50 = .ok (.aload_n 0, 1) := by decide +kernel
theorem dX5_readItem_51 : decode cX5_readItem 51 = .ok (.getfield 9, 3) := by decide +kernel
theorem dX5_readItem_54 : decode cX5_readItem 54 = .ok (.iload_n 2, 1) := by decide +kernel
theorem dX5_readItem_55 : decode cX5_readItem 55 = .ok (.iaload, 1) := by decide +kernel
theorem dX5_readItem_56 : decode cX5_readItem 56 = .ok (.bipush 48, 2) := by decide +kernel
theorem dX5_readItem_58 : decode cX5_readItem 58 = .ok (.bipush 57, 2) := by decide +kernel
theorem dX5_readItem_60 : decode cX5_readItem 60 = .ok (.invokestatic 19, 3) := by decide +kernel
theorem dX5_readItem_63 : decode cX5_readItem 63 = .ok (.ifCond .eq 30, 3) := by decide +kernel
theorem dX5_readItem_66 : decode cX5_readItem 66 = .ok (.aload_n 0, 1) := by decide +kernel
theorem dX5_readItem_67 : decode cX5_readItem 67 = .ok (.bipush 10, 2) := by decide +kernel
theorem dX5_readItem_69 : decode cX5_readItem 69 = .ok (.aload_n 0, 1) := by decide +kernel
theorem dX5_readItem_70 : decode cX5_readItem 70 = .ok (.getfield 26, 3) := by decide +kernel
theorem dX5_readItem_73 : decode cX5_readItem 73 = .ok (.imul, 1) := by decide +kernel
theorem dX5_readItem_74 : decode cX5_readItem 74 = .ok (.aload_n 0, 1) := by decide +kernel
theorem dX5_readItem_75 : decode cX5_readItem 75 = .ok (.getfield 9, 3) := by decide +kernel
theorem dX5_readItem_78 : decode cX5_readItem 78 = .ok (.iload_n 2, 1) := by decide +kernel
theorem dX5_readItem_79 : decode cX5_readItem 79 = .ok (.iaload, 1) := by decide +kernel
theorem dX5_readItem_80 : decode cX5_readItem 80 = .ok (.iadd, 1) := by decide +kernel
theorem dX5_readItem_81 : decode cX5_readItem 81 = .ok (.bipush 48, 2) := by decide +kernel
theorem dX5_readItem_83 : decode cX5_readItem 83 = .ok (.isub, 1) := by decide +kernel
theorem dX5_readItem_84 : decode cX5_readItem 84 = .ok (.putfield 26, 3) := by decide +kernel
theorem dX5_readItem_87 : decode cX5_readItem 87 = .ok (.iinc 2 1, 3) := by decide +kernel
theorem dX5_readItem_90 : decode cX5_readItem 90 = .ok (.goto (-55), 3) := by decide +kernel
theorem dX5_readItem_93 : decode cX5_readItem 93 = .ok (.aload_n 0, 1) := by decide +kernel
theorem dX5_readItem_94 : decode cX5_readItem 94 = .ok (.iload_n 2, 1) := by decide +kernel
theorem dX5_readItem_95 : decode cX5_readItem 95 = .ok (.iconst 1, 1) := by decide +kernel
theorem dX5_readItem_96 : decode cX5_readItem 96 = .ok (.iadd, 1) := by decide +kernel
theorem dX5_readItem_97 : decode cX5_readItem 97 = .ok (.putfield 29, 3) := by decide +kernel
theorem dX5_readItem_100 : decode cX5_readItem 100 = .ok (.iload_n 2, 1) := by decide +kernel
theorem dX5_readItem_101 : decode cX5_readItem 101 = .ok (.iload_n 1, 1) := by decide +kernel
theorem dX5_readItem_102 : decode cX5_readItem 102 = .ok (.iconst 1, 1) := by decide +kernel
theorem dX5_readItem_103 : decode cX5_readItem 103 = .ok (.iadd, 1) := by decide +kernel
theorem dX5_readItem_104 : decode cX5_readItem 104 = .ok (.if_icmp .le 26, 3) := by decide +kernel
theorem dX5_readItem_107 : decode cX5_readItem 107 = .ok (.iload_n 2, 1) := by decide +kernel
theorem dX5_readItem_108 : decode cX5_readItem 108 = .ok (.aload_n 0, 1) := by decide +kernel
theorem dX5_readItem_109 : decode cX5_readItem 109 = .ok (.getfield 15, 3) := by decide +kernel
theorem dX5_readItem_112 : decode cX5_readItem 112 = .ok (.if_icmp .ge 18, 3) := by decide +kernel
theorem dX5_readItem_115 : decode cX5_readItem 115 = .ok (.aload_n 0, 1) := by decide +kernel
theorem dX5_readItem_116 : decode cX5_readItem 116 = .ok (.getfield 9, 3) := by decide +kernel
theorem dX5_readItem_119 : decode cX5_readItem 119 = .ok (.iload_n 2, 1) := by decide +kernel
theorem dX5_readItem_120 : decode cX5_readItem 120 = .ok (.iaload, 1) := by decide +kernel
theorem dX5_readItem_121 : decode cX5_readItem 121 = .ok (.bipush 59, 2) := by decide +kernel
theorem dX5_readItem_123 : decode cX5_readItem 123 = .ok (.if_icmp .ne 7, 3) := by decide +kernel
theorem dX5_readItem_126 : decode cX5_readItem 126 = .ok (.iconst 1, 1) := by decide +kernel
theorem dX5_readItem_127 : decode cX5_readItem 127 = .ok (.goto 4, 3) := by decide +kernel
theorem dX5_readItem_130 : decode cX5_readItem 130 = .ok (.iconst 0, 1) := by decide +kernel
theorem dX5_readItem_131 : decode cX5_readItem 131 = .ok (.ireturn, 1) := by decide +kernel
theorem dX6_init_0 : decode cX6_init 0 = .ok (.aload_n 0, 1) := by decide +kernel
theorem dX6_init_1 : decode cX6_init 1 = .ok (.invokespecial 3, 3) := by decide +kernel
theorem dX6_init_4 : decode cX6_init 4 = .ok (.aload_n 0, 1) := by decide +kernel
theorem dX6_init_5 : decode cX6_init 5 = .ok (.bipush 12, 2) := by decide +kernel
theorem dX6_init_7 : decode cX6_init 7 = .ok (.newarray .int, 2) := by decide +kernel
theorem dX6_init_9 : decode cX6_init 9 = .ok (.putfield 9, 3) := by decide +kernel
theorem dX6_init_12 : decode cX6_init 12 = .ok (.aload_n 0, 1) := by decide +kernel
theorem dX6_init_13 : decode cX6_init 13 = .ok (.bipush 12, 2) := by decide +kernel
theorem dX6_init_15 : decode cX6_init 15 = .ok (.newarray .int, 2) := by decide +kernel
theorem dX6_init_17 : decode cX6_init 17 = .ok (.putfield 15, 3) := by decide +kernel
theorem dX6_init_20 : decode cX6_init 20 = .ok (.aload_n 0, 1) := by decide +kernel
theorem dX6_init_21 : decode cX6_init 21 = .ok (.bipush 12, 2) := by decide +kernel
theorem dX6_init_23 : decode cX6_init 23 = .ok (.newarray .boolean, 2) := by decide +kernel
theorem dX6_init_25 : decode cX6_init 25 = .ok (.putfield 18, 3) := by decide +kernel
theorem dX6_init_28 : decode cX6_init 28 = .ok (.return_, 1) := by decide +kernel
theorem dX6_add_0 : decode cX6_add 0 = .ok (.aload_n 0, 1) := by decide +kernel
theorem dX6_add_1 : decode cX6_add 1 = .ok (.getfield 22, 3) := by decide +kernel
theorem dX6_add_4 : decode cX6_add 4 = .ok (.bipush 12, 2) := by decide +kernel
theorem dX6_add_6 : decode cX6_add 6 = .ok (.if_icmp .lt 4, 3) := by decide +kernel
theorem dX6_add_9 : decode cX6_add 9 = .ok (.return_, 1) := by decide +kernel
theorem dX6_add_10 : decode cX6_add 10 = .ok (.aload_n 0, 1) := by decide +kernel
theorem dX6_add_11 : decode cX6_add 11 = .ok (.getfield 9, 3) := by decide +kernel
theorem dX6_add_14 : decode cX6_add 14 = .ok (.aload_n 0, 1) := by decide +kernel
theorem dX6_add_15 : decode cX6_add 15 = .ok (.getfield 22, 3) := by decide +kernel
theorem dX6_add_18 : decode cX6_add 18 = .ok (.iload_n 1, 1) := by decide +kernel
theorem dX6_add_19 : decode cX6_add 19 = .ok (.iastore, 1) := by decide +kernel
theorem dX6_add_20 : decode cX6_add 20 = .ok (.aload_n 0, 1) := by decide +kernel
theorem dX6_add_21 : decode cX6_add 21 = .ok (.getfield 15, 3) := by decide +kernel
theorem dX6_add_24 : decode cX6_add 24 = .ok (.aload_n 0, 1) := by decide +kernel
theorem dX6_add_25 : decode cX6_add 25 = .ok (.getfield 22, 3) := by decide +kernel
theorem dX6_add_28 : decode cX6_add 28 = .ok (.iload_n 2, 1) := by decide +kernel
theorem dX6_add_29 : decode cX6_add 29 = .ok (.iastore, 1) := by decide +kernel
theorem dX6_add_30 : decode cX6_add 30 = .ok (.aload_n 0, 1) := by decide +kernel
theorem dX6_add_31 : decode cX6_add 31 = .ok (.getfield 18, 3) := by decide +kernel
theorem dX6_add_34 : decode cX6_add 34 = .ok (.aload_n 0, 1) := by decide +kernel
theorem dX6_add_35 : decode cX6_add 35 = .ok (.getfield 22, 3) := by decide +kernel
theorem dX6_add_38 : decode cX6_add 38 = .ok (.iload_n 3, 1) := by decide +kernel
theorem dX6_add_39 : decode cX6_add 39 = .ok (.bastore, 1) := by decide +kernel
theorem dX6_add_40 : decode cX6_add 40 = .ok (.aload_n 0, 1) := by decide +kernel
theorem dX6_add_41 : decode cX6_add 41 = .ok (.dup, 1) := by decide +kernel
theorem dX6_add_42 : decode cX6_add 42 = .ok (.getfield 22, 3) := by decide +kernel
theorem dX6_add_45 : decode cX6_add 45 = .ok (.iconst 1, 1) := by decide +kernel
theorem dX6_add_46 : decode cX6_add 46 = .ok (.iadd, 1) := by decide +kernel
theorem dX6_add_47 : decode cX6_add 47 = .ok (.putfield 22, 3) := by decide +kernel
theorem dX6_add_50 : decode cX6_add 50 = .ok (.return_, 1) := by decide +kernel
theorem dX6_least_0 : decode cX6_least 0 = .ok (.iconst 1, 1) := by decide +kernel
theorem dX6_least_1 : decode cX6_least 1 = .ok (.istore_n 2, 1) := by decide +kernel
theorem dX6_least_2 : decode cX6_least 2 = .ok (.iconst 0, 1) := by decide +kernel
theorem dX6_least_3 : decode cX6_least 3 = .ok (.istore_n 3, 1) := by decide +kernel
theorem dX6_least_4 : decode cX6_least 4 = .ok (.iload_n 3, 1) := by decide +kernel
theorem dX6_least_5 : decode cX6_least 5 = .ok (.aload_n 0, 1) := by decide +kernel
theorem dX6_least_6 : decode cX6_least 6 = .ok (.getfield 22, 3) := by decide +kernel
theorem dX6_least_9 : decode cX6_least 9 = .ok (.if_icmp .ge 41, 3) := by decide +kernel
theorem dX6_least_12 : decode cX6_least 12 = .ok (.aload_n 0, 1) := by decide +kernel
theorem dX6_least_13 : decode cX6_least 13 = .ok (.getfield 9, 3) := by decide +kernel
theorem dX6_least_16 : decode cX6_least 16 = .ok (.iload_n 3, 1) := by decide +kernel
theorem dX6_least_17 : decode cX6_least 17 = .ok (.iaload, 1) := by decide +kernel
theorem dX6_least_18 : decode cX6_least 18 = .ok (.iload_n 1, 1) := by decide +kernel
theorem dX6_least_19 : decode cX6_least 19 = .ok (.if_icmp .ne 25, 3) := by decide +kernel
theorem dX6_least_22 : decode cX6_least 22 = .ok (.aload_n 0, 1) := by decide +kernel
theorem dX6_least_23 : decode cX6_least 23 = .ok (.getfield 18, 3) := by decide +kernel
theorem dX6_least_26 : decode cX6_least 26 = .ok (.iload_n 3, 1) := by decide +kernel
theorem dX6_least_27 : decode cX6_least 27 = .ok (.baload, 1) := by decide +kernel
theorem dX6_least_28 : decode cX6_least 28 = .ok (.ifCond .eq 16, 3) := by decide +kernel
theorem dX6_least_31 : decode cX6_least 31 = .ok (.iload_n 2, 1) := by decide +kernel
theorem dX6_least_32 : decode cX6_least 32 = .ok (.aload_n 0, 1) := by decide +kernel
theorem dX6_least_33 : decode cX6_least 33 = .ok (.getfield 15, 3) := by decide +kernel
theorem dX6_least_36 : decode cX6_least 36 = .ok (.iload_n 3, 1) := by decide +kernel
theorem dX6_least_37 : decode cX6_least 37 = .ok (.iaload, 1) := by decide +kernel
theorem dX6_least_38 : decode cX6_least 38 = .ok (.iconst 1, 1) := by decide +kernel
theorem dX6_least_39 : decode cX6_least 39 = .ok (.iadd, 1) := by decide +kernel
theorem dX6_least_40 : decode cX6_least 40 = .ok (.invokestatic 26, 3) := by decide +kernel
theorem dX6_least_43 : decode cX6_least 43 = .ok (.istore_n 2, 1) := by decide +kernel
theorem dX6_least_44 : decode cX6_least 44 = .ok (.iinc 3 1, 3) := by decide +kernel
theorem dX6_least_47 : decode cX6_least 47 = .ok (.goto (-43), 3) := by decide +kernel
theorem dX6_least_50 : decode cX6_least 50 = .ok (.iload_n 2, 1) := by decide +kernel
theorem dX6_least_51 : decode cX6_least 51 = .ok (.ireturn, 1) := by decide +kernel
theorem dX6_greatest_0 : decode cX6_greatest 0 = .ok (.sipush 999, 3) := by decide +kernel
theorem dX6_greatest_3 : decode cX6_greatest 3 = .ok (.istore_n 2, 1) := by decide +kernel
theorem dX6_greatest_4 : decode cX6_greatest 4 = .ok (.iconst 0, 1) := by decide +kernel
theorem dX6_greatest_5 : decode cX6_greatest 5 = .ok (.istore_n 3, 1) := by decide +kernel
theorem dX6_greatest_6 : decode cX6_greatest 6 = .ok (.iload_n 3, 1) := by decide +kernel
theorem dX6_greatest_7 : decode cX6_greatest 7 = .ok (.aload_n 0, 1) := by decide +kernel
theorem dX6_greatest_8 : decode cX6_greatest 8 = .ok (.getfield 22, 3) := by decide +kernel
theorem dX6_greatest_11 : decode cX6_greatest 11 = .ok (.if_icmp .ge 39, 3) := by decide +kernel
theorem dX6_greatest_14 : decode cX6_greatest 14 = .ok (.aload_n 0, 1) := by decide +kernel
theorem dX6_greatest_15 : decode cX6_greatest 15 = .ok (.getfield 9, 3) := by decide +kernel
theorem dX6_greatest_18 : decode cX6_greatest 18 = .ok (.iload_n 3, 1) := by decide +kernel
theorem dX6_greatest_19 : decode cX6_greatest 19 = .ok (.iaload, 1) := by decide +kernel
theorem dX6_greatest_20 : decode cX6_greatest 20 = .ok (.iload_n 1, 1) := by decide +kernel
theorem dX6_greatest_21 : decode cX6_greatest 21 = .ok (.if_icmp .ne 23, 3) := by decide +kernel
theorem dX6_greatest_24 : decode cX6_greatest 24 = .ok (.aload_n 0, 1) := by decide +kernel
theorem dX6_greatest_25 : decode cX6_greatest 25 = .ok (.getfield 18, 3) := by decide +kernel
theorem dX6_greatest_28 : decode cX6_greatest 28 = .ok (.iload_n 3, 1) := by decide +kernel
theorem dX6_greatest_29 : decode cX6_greatest 29 = .ok (.baload, 1) := by decide +kernel
theorem dX6_greatest_30 : decode cX6_greatest 30 = .ok (.ifCond .ne 14, 3) := by decide +kernel
theorem dX6_greatest_33 : decode cX6_greatest 33 = .ok (.iload_n 2, 1) := by decide +kernel
theorem dX6_greatest_34 : decode cX6_greatest 34 = .ok (.aload_n 0, 1) := by decide +kernel
theorem dX6_greatest_35 : decode cX6_greatest 35 = .ok (.getfield 15, 3) := by decide +kernel
theorem dX6_greatest_38 : decode cX6_greatest 38 = .ok (.iload_n 3, 1) := by decide +kernel
theorem dX6_greatest_39 : decode cX6_greatest 39 = .ok (.iaload, 1) := by decide +kernel
theorem dX6_greatest_40 : decode cX6_greatest 40 = .ok (.invokestatic 32, 3) := by decide +kernel
theorem dX6_greatest_43 : decode cX6_greatest 43 = .ok (.istore_n 2, 1) := by decide +kernel
theorem dX6_greatest_44 : decode cX6_greatest 44 = .ok (.iinc 3 1, 3) := by decide +kernel
theorem dX6_greatest_47 : decode cX6_greatest 47 = .ok (.goto (-41), 3) := by decide +kernel
theorem dX6_greatest_50 : decode cX6_greatest 50 = .ok (.iload_n 2, 1) := by decide +kernel
theorem dX6_greatest_51 : decode cX6_greatest 51 = .ok (.ireturn, 1) := by decide +kernel
theorem dX6_bestDue_0 : decode cX6_bestDue 0 = .ok (.aload_n 0, 1) := by decide +kernel
theorem dX6_bestDue_1 : decode cX6_bestDue 1 = .ok (.iload_n 1, 1) := by decide +kernel
theorem dX6_bestDue_2 : decode cX6_bestDue 2 = .ok (.invokevirtual 35, 3) := by decide +kernel
theorem dX6_bestDue_5 : decode cX6_bestDue 5 = .ok (.istore_n 3, 1) := by decide +kernel
theorem dX6_bestDue_6 : decode cX6_bestDue 6 = .ok (.aload_n 0, 1) := by decide +kernel
theorem dX6_bestDue_7 : decode cX6_bestDue 7 = .ok (.iload_n 1, 1) := by decide +kernel
theorem dX6_bestDue_8 : decode cX6_bestDue 8 = .ok (.invokevirtual 39, 3) := by decide +kernel
theorem dX6_bestDue_11 : decode cX6_bestDue 11 = .ok (.istore 4, 2) := by decide +kernel
theorem dX6_bestDue_13 : decode cX6_bestDue 13 = .ok (.bipush (-4), 2) := by decide +kernel
theorem dX6_bestDue_15 : decode cX6_bestDue 15 = .ok (.istore 5, 2) := by decide +kernel
theorem dX6_bestDue_17 : decode cX6_bestDue 17 = .ok (.ldc 42, 2) := by decide +kernel
theorem dX6_bestDue_19 : decode cX6_bestDue 19 = .ok (.istore 6, 2) := by decide +kernel
theorem dX6_bestDue_21 : decode cX6_bestDue 21 = .ok (.iconst 1, 1) := by decide +kernel
theorem dX6_bestDue_22 : decode cX6_bestDue 22 = .ok (.istore 7, 2) := by decide +kernel
theorem dX6_bestDue_24 : decode cX6_bestDue 24 = .ok (.iload 7, 2) := by decide +kernel
theorem dX6_bestDue_26 : decode cX6_bestDue 26 = .ok (.sipush 200, 3) := by decide +kernel
theorem dX6_bestDue_29 : decode cX6_bestDue 29 = .ok (.if_icmp .gt 62, 3) := by decide +kernel
theorem dX6_bestDue_32 : decode cX6_bestDue 32 = .ok (.iload 7, 2) := by decide +kernel
theorem dX6_bestDue_34 : decode cX6_bestDue 34 = .ok (.iload_n 2, 1) := by decide +kernel
theorem dX6_bestDue_35 : decode cX6_bestDue 35 = .ok (.iadd, 1) := by decide +kernel
theorem dX6_bestDue_36 : decode cX6_bestDue 36 = .ok (.iload_n 3, 1) := by decide +kernel
theorem dX6_bestDue_37 : decode cX6_bestDue 37 = .ok (.isub, 1) := by decide +kernel
theorem dX6_bestDue_38 : decode cX6_bestDue 38 = .ok (.iconst 1, 1) := by decide +kernel
theorem dX6_bestDue_39 : decode cX6_bestDue 39 = .ok (.iadd, 1) := by decide +kernel
theorem dX6_bestDue_40 : decode cX6_bestDue 40 = .ok (.istore 8, 2) := by decide +kernel
theorem dX6_bestDue_42 : decode cX6_bestDue 42 = .ok (.iload 4, 2) := by decide +kernel
theorem dX6_bestDue_44 : decode cX6_bestDue 44 = .ok (.iload 7, 2) := by decide +kernel
theorem dX6_bestDue_46 : decode cX6_bestDue 46 = .ok (.isub, 1) := by decide +kernel
theorem dX6_bestDue_47 : decode cX6_bestDue 47 = .ok (.iload_n 2, 1) := by decide +kernel
theorem dX6_bestDue_48 : decode cX6_bestDue 48 = .ok (.isub, 1) := by decide +kernel
theorem dX6_bestDue_49 : decode cX6_bestDue 49 = .ok (.istore 9, 2) := by decide +kernel
end
section
theorem dX6_bestDue_51 : decode cX6_bestDue 51 = .ok (.iload 8, 2) := by decide +kernel
theorem dX6_bestDue_53 : decode cX6_bestDue 53 = .ok (.iload 9, 2) := by decide +kernel
theorem dX6_bestDue_55 : decode cX6_bestDue 55 = .ok (.invokestatic 26, 3) := by decide +kernel
theorem dX6_bestDue_58 : decode cX6_bestDue 58 = .ok (.istore 10, 2) := by decide +kernel
theorem dX6_bestDue_60 : decode cX6_bestDue 60 = .ok (.iload 8, 2) := by decide +kernel
theorem dX6_bestDue_62 : decode cX6_bestDue 62 = .ok (.ifCond .le 23, 3) := by decide +kernel
theorem dX6_bestDue_65 : decode cX6_bestDue 65 = .ok (.iload 9, 2) := by decide +kernel
theorem dX6_bestDue_67 : decode cX6_bestDue 67 = .ok (.ifCond .le 18, 3) := by decide +kernel
theorem dX6_bestDue_70 : decode cX6_bestDue 70 = .ok (.iload 10, 2) := by decide +kernel
theorem dX6_bestDue_72 : decode cX6_bestDue 72 = .ok (.iload 6, 2) := by decide +kernel
theorem dX6_bestDue_74 : decode cX6_bestDue 74 = .ok (.if_icmp .ge 11, 3) := by decide +kernel
theorem dX6_bestDue_77 : decode cX6_bestDue 77 = .ok (.iload 7, 2) := by decide +kernel
theorem dX6_bestDue_79 : decode cX6_bestDue 79 = .ok (.istore 5, 2) := by decide +kernel
theorem dX6_bestDue_81 : decode cX6_bestDue 81 = .ok (.iload 10, 2) := by decide +kernel
theorem dX6_bestDue_83 : decode cX6_bestDue 83 = .ok (.istore 6, 2) := by decide +kernel
theorem dX6_bestDue_85 : decode cX6_bestDue 85 = .ok (.iinc 7 1, 3) := by decide +kernel
theorem dX6_bestDue_88 : decode cX6_bestDue 88 = .ok (.goto (-64), 3) := by decide +kernel
theorem dX6_bestDue_91 : decode cX6_bestDue 91 = .ok (.iload 5, 2) := by decide +kernel
theorem dX6_bestDue_93 : decode cX6_bestDue 93 = .ok (.ireturn, 1) := by decide +kernel
theorem dX6_untrueOf_0 : decode cX6_untrueOf 0 = .ok (.iconst 0, 1) := by decide +kernel
theorem dX6_untrueOf_1 : decode cX6_untrueOf 1 = .ok (.istore_n 2, 1) := by decide +kernel
theorem dX6_untrueOf_2 : decode cX6_untrueOf 2 = .ok (.iconst 0, 1) := by decide +kernel
theorem dX6_untrueOf_3 : decode cX6_untrueOf 3 = .ok (.istore_n 3, 1) := by decide +kernel
theorem dX6_untrueOf_4 : decode cX6_untrueOf 4 = .ok (.iload_n 3, 1) := by decide +kernel
theorem dX6_untrueOf_5 : decode cX6_untrueOf 5 = .ok (.aload_n 0, 1) := by decide +kernel
theorem dX6_untrueOf_6 : decode cX6_untrueOf 6 = .ok (.getfield 22, 3) := by decide +kernel
theorem dX6_untrueOf_9 : decode cX6_untrueOf 9 = .ok (.if_icmp .ge 57, 3) := by decide +kernel
theorem dX6_untrueOf_12 : decode cX6_untrueOf 12 = .ok (.aload_n 1, 1) := by decide +kernel
theorem dX6_untrueOf_13 : decode cX6_untrueOf 13 = .ok (.getfield 43, 3) := by decide +kernel
theorem dX6_untrueOf_16 : decode cX6_untrueOf 16 = .ok (.aload_n 0, 1) := by decide +kernel
theorem dX6_untrueOf_17 : decode cX6_untrueOf 17 = .ok (.getfield 9, 3) := by decide +kernel
theorem dX6_untrueOf_20 : decode cX6_untrueOf 20 = .ok (.iload_n 3, 1) := by decide +kernel
theorem dX6_untrueOf_21 : decode cX6_untrueOf 21 = .ok (.iaload, 1) := by decide +kernel
theorem dX6_untrueOf_22 : decode cX6_untrueOf 22 = .ok (.iaload, 1) := by decide +kernel
theorem dX6_untrueOf_23 : decode cX6_untrueOf 23 = .ok (.aload_n 0, 1) := by decide +kernel
theorem dX6_untrueOf_24 : decode cX6_untrueOf 24 = .ok (.getfield 15, 3) := by decide +kernel
theorem dX6_untrueOf_27 : decode cX6_untrueOf 27 = .ok (.iload_n 3, 1) := by decide +kernel
theorem dX6_untrueOf_28 : decode cX6_untrueOf 28 = .ok (.iaload, 1) := by decide +kernel
theorem dX6_untrueOf_29 : decode cX6_untrueOf 29 = .ok (.if_icmp .le 7, 3) := by decide +kernel
theorem dX6_untrueOf_32 : decode cX6_untrueOf 32 = .ok (.iconst 1, 1) := by decide +kernel
theorem dX6_untrueOf_33 : decode cX6_untrueOf 33 = .ok (.goto 4, 3) := by decide +kernel
theorem dX6_untrueOf_36 : decode cX6_untrueOf 36 = .ok (.iconst 0, 1) := by decide +kernel
theorem dX6_untrueOf_37 : decode cX6_untrueOf 37 = .ok (.istore 4, 2) := by decide +kernel
theorem dX6_untrueOf_39 : decode cX6_untrueOf 39 = .ok (.iload_n 2, 1) := by decide +kernel
theorem dX6_untrueOf_40 : decode cX6_untrueOf 40 = .ok (.iload 4, 2) := by decide +kernel
theorem dX6_untrueOf_42 : decode cX6_untrueOf 42 = .ok (.aload_n 0, 1) := by decide +kernel
theorem dX6_untrueOf_43 : decode cX6_untrueOf 43 = .ok (.getfield 18, 3) := by decide +kernel
theorem dX6_untrueOf_46 : decode cX6_untrueOf 46 = .ok (.iload_n 3, 1) := by decide +kernel
theorem dX6_untrueOf_47 : decode cX6_untrueOf 47 = .ok (.baload, 1) := by decide +kernel
theorem dX6_untrueOf_48 : decode cX6_untrueOf 48 = .ok (.if_icmp .ne 7, 3) := by decide +kernel
theorem dX6_untrueOf_51 : decode cX6_untrueOf 51 = .ok (.iconst 0, 1) := by decide +kernel
theorem dX6_untrueOf_52 : decode cX6_untrueOf 52 = .ok (.goto 6, 3) := by decide +kernel
theorem dX6_untrueOf_55 : decode cX6_untrueOf 55 = .ok (.iconst 1, 1) := by decide +kernel
theorem dX6_untrueOf_56 : decode cX6_untrueOf 56 = .ok (.iload_n 3, 1) := by decide +kernel
theorem dX6_untrueOf_57 : decode cX6_untrueOf 57 = .ok (.ishl, 1) := by decide +kernel
theorem dX6_untrueOf_58 : decode cX6_untrueOf 58 = .ok (.ior, 1) := by decide +kernel
theorem dX6_untrueOf_59 : decode cX6_untrueOf 59 = .ok (.istore_n 2, 1) := by decide +kernel
theorem dX6_untrueOf_60 : decode cX6_untrueOf 60 = .ok (.iinc 3 1, 3) := by decide +kernel
theorem dX6_untrueOf_63 : decode cX6_untrueOf 63 = .ok (.goto (-59), 3) := by decide +kernel
theorem dX6_untrueOf_66 : decode cX6_untrueOf 66 = .ok (.iload_n 2, 1) := by decide +kernel
theorem dX6_untrueOf_67 : decode cX6_untrueOf 67 = .ok (.ireturn, 1) := by decide +kernel
theorem dX7_init_0 : decode cX7_init 0 = .ok (.aload_n 0, 1) := by decide +kernel
theorem dX7_init_1 : decode cX7_init 1 = .ok (.invokespecial 3, 3) := by decide +kernel
theorem dX7_init_4 : decode cX7_init 4 = .ok (.aload_n 0, 1) := by decide +kernel
theorem dX7_init_5 : decode cX7_init 5 = .ok (.bipush 6, 2) := by decide +kernel
theorem dX7_init_7 : decode cX7_init 7 = .ok (.newarray .int, 2) := by decide +kernel
theorem dX7_init_9 : decode cX7_init 9 = .ok (.putfield 9, 3) := by decide +kernel
theorem dX7_init_12 : decode cX7_init 12 = .ok (.aload_n 0, 1) := by decide +kernel
theorem dX7_init_13 : decode cX7_init 13 = .ok (.new 15, 3) := by decide +kernel
theorem dX7_init_16 : decode cX7_init 16 = .ok (.dup, 1) := by decide +kernel
theorem dX7_init_17 : decode cX7_init 17 = .ok (.aload_n 1, 1) := by decide +kernel
theorem dX7_init_18 : decode cX7_init 18 = .ok (.invokespecial 17, 3) := by decide +kernel
theorem dX7_init_21 : decode cX7_init 21 = .ok (.putfield 20, 3) := by decide +kernel
theorem dX7_init_24 : decode cX7_init 24 = .ok (.return_, 1) := by decide +kernel
theorem dX7_start_0 : decode cX7_start 0 = .ok (.aload_n 0, 1) := by decide +kernel
theorem dX7_start_1 : decode cX7_start 1 = .ok (.getfield 20, 3) := by decide +kernel
theorem dX7_start_4 : decode cX7_start 4 = .ok (.aload_n 1, 1) := by decide +kernel
theorem dX7_start_5 : decode cX7_start 5 = .ok (.invokevirtual 24, 3) := by decide +kernel
theorem dX7_start_8 : decode cX7_start 8 = .ok (.aload_n 0, 1) := by decide +kernel
theorem dX7_start_9 : decode cX7_start 9 = .ok (.getfield 20, 3) := by decide +kernel
theorem dX7_start_12 : decode cX7_start 12 = .ok (.invokevirtual 28, 3) := by decide +kernel
theorem dX7_start_15 : decode cX7_start 15 = .ok (.aload_n 0, 1) := by decide +kernel
theorem dX7_start_16 : decode cX7_start 16 = .ok (.iconst 0, 1) := by decide +kernel
theorem dX7_start_17 : decode cX7_start 17 = .ok (.putfield 31, 3) := by decide +kernel
theorem dX7_start_20 : decode cX7_start 20 = .ok (.iconst 0, 1) := by decide +kernel
theorem dX7_start_21 : decode cX7_start 21 = .ok (.istore_n 2, 1) := by decide +kernel
theorem dX7_start_22 : decode cX7_start 22 = .ok (.iload_n 2, 1) := by decide +kernel
theorem dX7_start_23 : decode cX7_start 23 = .ok (.bipush 6, 2) := by decide +kernel
theorem dX7_start_25 : decode cX7_start 25 = .ok (.if_icmp .ge 32, 3) := by decide +kernel
theorem dX7_start_28 : decode cX7_start 28 = .ok (.aload_n 0, 1) := by decide +kernel
theorem dX7_start_29 : decode cX7_start 29 = .ok (.getfield 9, 3) := by decide +kernel
theorem dX7_start_32 : decode cX7_start 32 = .ok (.iload_n 2, 1) := by decide +kernel
theorem dX7_start_33 : decode cX7_start 33 = .ok (.aload_n 0, 1) := by decide +kernel
theorem dX7_start_34 : decode cX7_start 34 = .ok (.getfield 20, 3) := by decide +kernel
theorem dX7_start_37 : decode cX7_start 37 = .ok (.iload_n 2, 1) := by decide +kernel
theorem dX7_start_38 : decode cX7_start 38 = .ok (.invokevirtual 35, 3) := by decide +kernel
theorem dX7_start_41 : decode cX7_start 41 = .ok (.ifCond .eq 8, 3) := by decide +kernel
theorem dX7_start_44 : decode cX7_start 44 = .ok (.ldc 39, 2) := by decide +kernel
theorem dX7_start_46 : decode cX7_start 46 = .ok (.goto 4, 3) := by decide +kernel
theorem dX7_start_49 : decode cX7_start 49 = .ok (.iconst 0, 1) := by decide +kernel
theorem dX7_start_50 : decode cX7_start 50 = .ok (.iastore, 1) := by decide +kernel
theorem dX7_start_51 : decode cX7_start 51 = .ok (.iinc 2 1, 3) := by decide +kernel
theorem dX7_start_54 : decode cX7_start 54 = .ok (.goto (-32), 3) := by decide +kernel
theorem dX7_start_57 : decode cX7_start 57 = .ok (.return_, 1) := by decide +kernel
theorem dX7_startWithout_0 : decode cX7_startWithout 0 = .ok (.aload_n 0, 1) := by decide +kernel
theorem dX7_startWithout_1 : decode cX7_startWithout 1 = .ok (.aload_n 2, 1) := by decide +kernel
theorem dX7_startWithout_2 : decode cX7_startWithout 2 = .ok (.invokevirtual 40, 3) := by decide +kernel
theorem dX7_startWithout_5 : decode cX7_startWithout 5 = .ok (.aload_n 0, 1) := by decide +kernel
theorem dX7_startWithout_6 : decode cX7_startWithout 6 = .ok (.getfield 20, 3) := by decide +kernel
theorem dX7_startWithout_9 : decode cX7_startWithout 9 = .ok (.iload_n 1, 1) := by decide +kernel
theorem dX7_startWithout_10 : decode cX7_startWithout 10 = .ok (.invokevirtual 35, 3) := by decide +kernel
theorem dX7_startWithout_13 : decode cX7_startWithout 13 = .ok (.ifCond .eq 20, 3) := by decide +kernel
theorem dX7_startWithout_16 : decode cX7_startWithout 16 = .ok (.aload_n 0, 1) := by decide +kernel
theorem dX7_startWithout_17 : decode cX7_startWithout 17 = .ok (.getfield 20, 3) := by decide +kernel
theorem dX7_startWithout_20 : decode cX7_startWithout 20 = .ok (.getfield 43, 3) := by decide +kernel
theorem dX7_startWithout_23 : decode cX7_startWithout 23 = .ok (.iload_n 1, 1) := by decide +kernel
theorem dX7_startWithout_24 : decode cX7_startWithout 24 = .ok (.iconst 0, 1) := by decide +kernel
theorem dX7_startWithout_25 : decode cX7_startWithout 25 = .ok (.iastore, 1) := by decide +kernel
theorem dX7_startWithout_26 : decode cX7_startWithout 26 = .ok (.aload_n 0, 1) := by decide +kernel
theorem dX7_startWithout_27 : decode cX7_startWithout 27 = .ok (.getfield 9, 3) := by decide +kernel
theorem dX7_startWithout_30 : decode cX7_startWithout 30 = .ok (.iload_n 1, 1) := by decide +kernel
theorem dX7_startWithout_31 : decode cX7_startWithout 31 = .ok (.iconst 0, 1) := by decide +kernel
theorem dX7_startWithout_32 : decode cX7_startWithout 32 = .ok (.iastore, 1) := by decide +kernel
theorem dX7_startWithout_33 : decode cX7_startWithout 33 = .ok (.return_, 1) := by decide +kernel
theorem dX7_advance_0 : decode cX7_advance 0 = .ok (.iload_n 1, 1) := by decide +kernel
theorem dX7_advance_1 : decode cX7_advance 1 = .ok (.istore_n 2, 1) := by decide +kernel
theorem dX7_advance_2 : decode cX7_advance 2 = .ok (.iload_n 2, 1) := by decide +kernel
theorem dX7_advance_3 : decode cX7_advance 3 = .ok (.ifCond .le 46, 3) := by decide +kernel
theorem dX7_advance_6 : decode cX7_advance 6 = .ok (.iconst 1, 1) := by decide +kernel
theorem dX7_advance_7 : decode cX7_advance 7 = .ok (.aload_n 0, 1) := by decide +kernel
theorem dX7_advance_8 : decode cX7_advance 8 = .ok (.getfield 20, 3) := by decide +kernel
theorem dX7_advance_11 : decode cX7_advance 11 = .ok (.iload_n 2, 1) := by decide +kernel
theorem dX7_advance_12 : decode cX7_advance 12 = .ok (.invokevirtual 46, 3) := by decide +kernel
theorem dX7_advance_15 : decode cX7_advance 15 = .ok (.invokestatic 50, 3) := by decide +kernel
theorem dX7_advance_18 : decode cX7_advance 18 = .ok (.istore_n 3, 1) := by decide +kernel
theorem dX7_advance_19 : decode cX7_advance 19 = .ok (.aload_n 0, 1) := by decide +kernel
theorem dX7_advance_20 : decode cX7_advance 20 = .ok (.iload_n 3, 1) := by decide +kernel
theorem dX7_advance_21 : decode cX7_advance 21 = .ok (.invokevirtual 56, 3) := by decide +kernel
theorem dX7_advance_24 : decode cX7_advance 24 = .ok (.aload_n 0, 1) := by decide +kernel
theorem dX7_advance_25 : decode cX7_advance 25 = .ok (.getfield 20, 3) := by decide +kernel
theorem dX7_advance_28 : decode cX7_advance 28 = .ok (.iload_n 3, 1) := by decide +kernel
theorem dX7_advance_29 : decode cX7_advance 29 = .ok (.invokevirtual 60, 3) := by decide +kernel
theorem dX7_advance_32 : decode cX7_advance 32 = .ok (.aload_n 0, 1) := by decide +kernel
theorem dX7_advance_33 : decode cX7_advance 33 = .ok (.dup, 1) := by decide +kernel
theorem dX7_advance_34 : decode cX7_advance 34 = .ok (.getfield 31, 3) := by decide +kernel
theorem dX7_advance_37 : decode cX7_advance 37 = .ok (.iload_n 3, 1) := by decide +kernel
theorem dX7_advance_38 : decode cX7_advance 38 = .ok (.iadd, 1) := by decide +kernel
theorem dX7_advance_39 : decode cX7_advance 39 = .ok (.putfield 31, 3) := by decide +kernel
theorem dX7_advance_42 : decode cX7_advance 42 = .ok (.iload_n 2, 1) := by decide +kernel
theorem dX7_advance_43 : decode cX7_advance 43 = .ok (.iload_n 3, 1) := by decide +kernel
theorem dX7_advance_44 : decode cX7_advance 44 = .ok (.isub, 1) := by decide +kernel
theorem dX7_advance_45 : decode cX7_advance 45 = .ok (.istore_n 2, 1) := by decide +kernel
theorem dX7_advance_46 : decode cX7_advance 46 = .ok (.goto (-44), 3) := by decide +kernel
theorem dX7_advance_49 : decode cX7_advance 49 = .ok (.return_, 1) := by decide +kernel
theorem dX7_noteDeaths_0 : decode cX7_noteDeaths 0 = .ok (.iconst 0, 1) := by decide +kernel
theorem dX7_noteDeaths_1 : decode cX7_noteDeaths 1 = .ok (.istore_n 2, 1) := by decide +kernel
theorem dX7_noteDeaths_2 : decode cX7_noteDeaths 2 = .ok (.iload_n 2, 1) := by decide +kernel
theorem dX7_noteDeaths_3 : decode cX7_noteDeaths 3 = .ok (.bipush 6, 2) := by decide +kernel
theorem dX7_noteDeaths_5 : decode cX7_noteDeaths 5 = .ok (.if_icmp .ge 53, 3) := by decide +kernel
theorem dX7_noteDeaths_8 : decode cX7_noteDeaths 8 = .ok (.aload_n 0, 1) := by decide +kernel
theorem dX7_noteDeaths_9 : decode cX7_noteDeaths 9 = .ok (.getfield 20, 3) := by decide +kernel
theorem dX7_noteDeaths_12 : decode cX7_noteDeaths 12 = .ok (.iload_n 2, 1) := by decide +kernel
theorem dX7_noteDeaths_13 : decode cX7_noteDeaths 13 = .ok (.invokevirtual 35, 3) := by decide +kernel
theorem dX7_noteDeaths_16 : decode cX7_noteDeaths 16 = .ok (.ifCond .eq 36, 3) := by decide +kernel
theorem dX7_noteDeaths_19 : decode cX7_noteDeaths 19 = .ok (.aload_n 0, 1) := by decide +kernel
theorem dX7_noteDeaths_20 : decode cX7_noteDeaths 20 = .ok (.getfield 20, 3) := by decide +kernel
theorem dX7_noteDeaths_23 : decode cX7_noteDeaths 23 = .ok (.getfield 43, 3) := by decide +kernel
theorem dX7_noteDeaths_26 : decode cX7_noteDeaths 26 = .ok (.iload_n 2, 1) := by decide +kernel
theorem dX7_noteDeaths_27 : decode cX7_noteDeaths 27 = .ok (.iaload, 1) := by decide +kernel
theorem dX7_noteDeaths_28 : decode cX7_noteDeaths 28 = .ok (.iload_n 1, 1) := by decide +kernel
theorem dX7_noteDeaths_29 : decode cX7_noteDeaths 29 = .ok (.if_icmp .gt 23, 3) := by decide +kernel
theorem dX7_noteDeaths_32 : decode cX7_noteDeaths 32 = .ok (.aload_n 0, 1) := by decide +kernel
theorem dX7_noteDeaths_33 : decode cX7_noteDeaths 33 = .ok (.getfield 9, 3) := by decide +kernel
theorem dX7_noteDeaths_36 : decode cX7_noteDeaths 36 = .ok (.iload_n 2, 1) := by decide +kernel
theorem dX7_noteDeaths_37 : decode cX7_noteDeaths 37 = .ok (.aload_n 0, 1) := by decide +kernel
theorem dX7_noteDeaths_38 : decode cX7_noteDeaths 38 = .ok (.getfield 31, 3) := by decide +kernel
theorem dX7_noteDeaths_41 : decode cX7_noteDeaths 41 = .ok (.aload_n 0, 1) := by decide +kernel
theorem dX7_noteDeaths_42 : decode cX7_noteDeaths 42 = .ok (.getfield 20, 3) := by decide +kernel
theorem dX7_noteDeaths_45 : decode cX7_noteDeaths 45 = .ok (.getfield 43, 3) := by decide +kernel
theorem dX7_noteDeaths_48 : decode cX7_noteDeaths 48 = .ok (.iload_n 2, 1) := by decide +kernel
theorem dX7_noteDeaths_49 : decode cX7_noteDeaths 49 = .ok (.iaload, 1) := by decide +kernel
theorem dX7_noteDeaths_50 : decode cX7_noteDeaths 50 = .ok (.iadd, 1) := by decide +kernel
theorem dX7_noteDeaths_51 : decode cX7_noteDeaths 51 = .ok (.iastore, 1) := by decide +kernel
theorem dX7_noteDeaths_52 : decode cX7_noteDeaths 52 = .ok (.iinc 2 1, 3) := by decide +kernel
theorem dX7_noteDeaths_55 : decode cX7_noteDeaths 55 = .ok (.goto (-53), 3) := by decide +kernel
theorem dX7_noteDeaths_58 : decode cX7_noteDeaths 58 = .ok (.return_, 1) := by decide +kernel
theorem dX7_loansPaidLessThan_0 : decode cX7_loansPaidLessThan 0 = .ok (.iconst 0, 1) := by decide +kernel
theorem dX7_loansPaidLessThan_1 : decode cX7_loansPaidLessThan 1 = .ok (.istore_n 2, 1) := by decide +kernel
theorem dX7_loansPaidLessThan_2 : decode cX7_loansPaidLessThan 2 = .ok (.iconst 0, 1) := by decide +kernel
theorem dX7_loansPaidLessThan_3 : decode cX7_loansPaidLessThan 3 = .ok (.istore_n 3, 1) := by decide +kernel
theorem dX7_loansPaidLessThan_4 : decode cX7_loansPaidLessThan 4 = .ok (.iload_n 3, 1) := by decide +kernel
theorem dX7_loansPaidLessThan_5 : decode cX7_loansPaidLessThan 5 = .ok (.bipush 8, 2) := by decide +kernel
theorem dX7_loansPaidLessThan_7 : decode cX7_loansPaidLessThan 7 = .ok (.if_icmp .ge 38, 3) := by decide +kernel
theorem dX7_loansPaidLessThan_10 : decode cX7_loansPaidLessThan 10 = .ok (.iload_n 2, 1) := by decide +kernel
theorem dX7_loansPaidLessThan_11 : decode cX7_loansPaidLessThan 11 = .ok (.aload_n 0, 1) := by decide +kernel
theorem dX7_loansPaidLessThan_12 : decode cX7_loansPaidLessThan 12 = .ok (.getfield 20, 3) := by decide +kernel
theorem dX7_loansPaidLessThan_15 : decode cX7_loansPaidLessThan 15 = .ok (.getfield 63, 3) := by decide +kernel
theorem dX7_loansPaidLessThan_18 : decode cX7_loansPaidLessThan 18 = .ok (.iload_n 3, 1) := by decide +kernel
theorem dX7_loansPaidLessThan_19 : decode cX7_loansPaidLessThan 19 = .ok (.iaload, 1) := by decide +kernel
theorem dX7_loansPaidLessThan_20 : decode cX7_loansPaidLessThan 20 = .ok (.aload_n 1, 1) := by decide +kernel
theorem dX7_loansPaidLessThan_21 : decode cX7_loansPaidLessThan 21 = .ok (.getfield 20, 3) := by decide +kernel
theorem dX7_loansPaidLessThan_24 : decode cX7_loansPaidLessThan 24 = .ok (.getfield 63, 3) := by decide +kernel
theorem dX7_loansPaidLessThan_27 : decode cX7_loansPaidLessThan 27 = .ok (.iload_n 3, 1) := by decide +kernel
theorem dX7_loansPaidLessThan_28 : decode cX7_loansPaidLessThan 28 = .ok (.iaload, 1) := by decide +kernel
theorem dX7_loansPaidLessThan_29 : decode cX7_loansPaidLessThan 29 = .ok (.if_icmp .ge 7, 3) := by decide +kernel
theorem dX7_loansPaidLessThan_32 : decode cX7_loansPaidLessThan 32 = .ok (.iconst 1, 1) := by decide +kernel
theorem dX7_loansPaidLessThan_33 : decode cX7_loansPaidLessThan 33 = .ok (.goto 4, 3) := by decide +kernel
theorem dX7_loansPaidLessThan_36 : decode cX7_loansPaidLessThan 36 = .ok (.iconst 0, 1) := by decide +kernel
theorem dX7_loansPaidLessThan_37 : decode cX7_loansPaidLessThan 37 = .ok (.iadd, 1) := by decide +kernel
theorem dX7_loansPaidLessThan_38 : decode cX7_loansPaidLessThan 38 = .ok (.istore_n 2, 1) := by decide +kernel
theorem dX7_loansPaidLessThan_39 : decode cX7_loansPaidLessThan 39 = .ok (.iinc 3 1, 3) := by decide +kernel
theorem dX7_loansPaidLessThan_42 : decode cX7_loansPaidLessThan 42 = .ok (.goto (-38), 3) := by decide +kernel
theorem dX7_loansPaidLessThan_45 : decode cX7_loansPaidLessThan 45 = .ok (.iload_n 2, 1) := by decide +kernel
theorem dX7_loansPaidLessThan_46 : decode cX7_loansPaidLessThan 46 = .ok (.ireturn, 1) := by decide +kernel
theorem dX7_firstDeadEarlierThan_0 : decode cX7_firstDeadEarlierThan 0 = .ok (.bipush (-4), 2) := by decide +kernel
theorem dX7_firstDeadEarlierThan_2 : decode cX7_firstDeadEarlierThan 2 = .ok (.istore_n 3, 1) := by decide +kernel
theorem dX7_firstDeadEarlierThan_3 : decode cX7_firstDeadEarlierThan 3 = .ok (.iconst 0, 1) := by decide +kernel
theorem dX7_firstDeadEarlierThan_4 : decode cX7_firstDeadEarlierThan 4 = .ok (.istore 4, 2) := by decide +kernel
theorem dX7_firstDeadEarlierThan_6 : decode cX7_firstDeadEarlierThan 6 = .ok (.iload 4, 2) := by decide +kernel
theorem dX7_firstDeadEarlierThan_8 : decode cX7_firstDeadEarlierThan 8 = .ok (.bipush 6, 2) := by decide +kernel
theorem dX7_firstDeadEarlierThan_10 : decode cX7_firstDeadEarlierThan 10 = .ok (.if_icmp .ge 69, 3) := by decide +kernel
theorem dX7_firstDeadEarlierThan_13 : decode cX7_firstDeadEarlierThan 13 = .ok (.iload 4, 2) := by decide +kernel
theorem dX7_firstDeadEarlierThan_15 : decode cX7_firstDeadEarlierThan 15 = .ok (.iload_n 2, 1) := by decide +kernel
theorem dX7_firstDeadEarlierThan_16 : decode cX7_firstDeadEarlierThan 16 = .ok (.if_icmp .eq 24, 3) := by decide +kernel
theorem dX7_firstDeadEarlierThan_19 : decode cX7_firstDeadEarlierThan 19 = .ok (.aload_n 0, 1) := by decide +kernel
theorem dX7_firstDeadEarlierThan_20 : decode cX7_firstDeadEarlierThan 20 = .ok (.getfield 9, 3) := by decide +kernel
theorem dX7_firstDeadEarlierThan_23 : decode cX7_firstDeadEarlierThan 23 = .ok (.iload 4, 2) := by decide +kernel
theorem dX7_firstDeadEarlierThan_25 : decode cX7_firstDeadEarlierThan 25 = .ok (.iaload, 1) := by decide +kernel
theorem dX7_firstDeadEarlierThan_26 : decode cX7_firstDeadEarlierThan 26 = .ok (.aload_n 1, 1) := by decide +kernel
theorem dX7_firstDeadEarlierThan_27 : decode cX7_firstDeadEarlierThan 27 = .ok (.getfield 9, 3) := by decide +kernel
theorem dX7_firstDeadEarlierThan_30 : decode cX7_firstDeadEarlierThan 30 = .ok (.iload 4, 2) := by decide +kernel
theorem dX7_firstDeadEarlierThan_32 : decode cX7_firstDeadEarlierThan 32 = .ok (.iaload, 1) := by decide +kernel
theorem dX7_firstDeadEarlierThan_33 : decode cX7_firstDeadEarlierThan 33 = .ok (.if_icmp .ge 7, 3) := by decide +kernel
theorem dX7_firstDeadEarlierThan_36 : decode cX7_firstDeadEarlierThan 36 = .ok (.iconst 1, 1) := by decide +kernel
theorem dX7_firstDeadEarlierThan_37 : decode cX7_firstDeadEarlierThan 37 = .ok (.goto 4, 3) := by decide +kernel
theorem dX7_firstDeadEarlierThan_40 : decode cX7_firstDeadEarlierThan 40 = .ok (.iconst 0, 1) := by decide +kernel
theorem dX7_firstDeadEarlierThan_41 : decode cX7_firstDeadEarlierThan 41 = .ok (.istore 5, 2) := by decide +kernel
theorem dX7_firstDeadEarlierThan_43 : decode cX7_firstDeadEarlierThan 43 = .ok (.iload 5, 2) := by decide +kernel
theorem dX7_firstDeadEarlierThan_45 : decode cX7_firstDeadEarlierThan 45 = .ok (.ifCond .eq 28, 3) := by decide +kernel
theorem dX7_firstDeadEarlierThan_48 : decode cX7_firstDeadEarlierThan 48 = .ok (.iload_n 3, 1) := by decide +kernel
theorem dX7_firstDeadEarlierThan_49 : decode cX7_firstDeadEarlierThan 49 = .ok (.bipush (-4), 2) := by decide +kernel
theorem dX7_firstDeadEarlierThan_51 : decode cX7_firstDeadEarlierThan 51 = .ok (.if_icmp .eq 19, 3) := by decide +kernel
theorem dX7_firstDeadEarlierThan_54 : decode cX7_firstDeadEarlierThan 54 = .ok (.aload_n 0, 1) := by decide +kernel
theorem dX7_firstDeadEarlierThan_55 : decode cX7_firstDeadEarlierThan 55 = .ok (.getfield 9, 3) := by decide +kernel
theorem dX7_firstDeadEarlierThan_58 : decode cX7_firstDeadEarlierThan 58 = .ok (.iload 4, 2) := by decide +kernel
theorem dX7_firstDeadEarlierThan_60 : decode cX7_firstDeadEarlierThan 60 = .ok (.iaload, 1) := by decide +kernel
theorem dX7_firstDeadEarlierThan_61 : decode cX7_firstDeadEarlierThan 61 = .ok (.aload_n 0, 1) := by decide +kernel
theorem dX7_firstDeadEarlierThan_62 : decode cX7_firstDeadEarlierThan 62 = .ok (.getfield 9, 3) := by decide +kernel
theorem dX7_firstDeadEarlierThan_65 : decode cX7_firstDeadEarlierThan 65 = .ok (.iload_n 3, 1) := by decide +kernel
theorem dX7_firstDeadEarlierThan_66 : decode cX7_firstDeadEarlierThan 66 = .ok (.iaload, 1) := by decide +kernel
theorem dX7_firstDeadEarlierThan_67 : decode cX7_firstDeadEarlierThan 67 = .ok (.if_icmp .ge 6, 3) := by decide +kernel
theorem dX7_firstDeadEarlierThan_70 : decode cX7_firstDeadEarlierThan 70 = .ok (.iload 4, 2) := by decide +kernel
theorem dX7_firstDeadEarlierThan_72 : decode cX7_firstDeadEarlierThan 72 = .ok (.istore_n 3, 1) := by decide +kernel
theorem dX7_firstDeadEarlierThan_73 : decode cX7_firstDeadEarlierThan 73 = .ok (.iinc 4 1, 3) := by decide +kernel
theorem dX7_firstDeadEarlierThan_76 : decode cX7_firstDeadEarlierThan 76 = .ok (.goto (-70), 3) := by decide +kernel
theorem dX7_firstDeadEarlierThan_79 : decode cX7_firstDeadEarlierThan 79 = .ok (.iload_n 3, 1) := by decide +kernel
theorem dX7_firstDeadEarlierThan_80 : decode cX7_firstDeadEarlierThan 80 = .ok (.ireturn, 1) := by decide +kernel
theorem dX8_init_0 : decode cX8_init 0 = .ok (.aload_n 0, 1) := by decide +kernel
theorem dX8_init_1 : decode cX8_init 1 = .ok (.invokespecial 1, 3) := by decide +kernel
theorem dX8_init_4 : decode cX8_init 4 = .ok (.aload_n 0, 1) := by decide +kernel
theorem dX8_init_5 : decode cX8_init 5 = .ok (.new 7, 3) := by decide +kernel
theorem dX8_init_8 : decode cX8_init 8 = .ok (.dup, 1) := by decide +kernel
theorem dX8_init_9 : decode cX8_init 9 = .ok (.invokespecial 9, 3) := by decide +kernel
theorem dX8_init_12 : decode cX8_init 12 = .ok (.putfield 10, 3) := by decide +kernel
theorem dX8_init_15 : decode cX8_init 15 = .ok (.aload_n 0, 1) := by decide +kernel
theorem dX8_init_16 : decode cX8_init 16 = .ok (.new 16, 3) := by decide +kernel
theorem dX8_init_19 : decode cX8_init 19 = .ok (.dup, 1) := by decide +kernel
theorem dX8_init_20 : decode cX8_init 20 = .ok (.invokespecial 18, 3) := by decide +kernel
theorem dX8_init_23 : decode cX8_init 23 = .ok (.putfield 19, 3) := by decide +kernel
theorem dX8_init_26 : decode cX8_init 26 = .ok (.aload_n 0, 1) := by decide +kernel
theorem dX8_init_27 : decode cX8_init 27 = .ok (.new 16, 3) := by decide +kernel
theorem dX8_init_30 : decode cX8_init 30 = .ok (.dup, 1) := by decide +kernel
theorem dX8_init_31 : decode cX8_init 31 = .ok (.invokespecial 18, 3) := by decide +kernel
theorem dX8_init_34 : decode cX8_init 34 = .ok (.putfield 23, 3) := by decide +kernel
theorem dX8_init_37 : decode cX8_init 37 = .ok (.aload_n 0, 1) := by decide +kernel
theorem dX8_init_38 : decode cX8_init 38 = .ok (.new 26, 3) := by decide +kernel
theorem dX8_init_41 : decode cX8_init 41 = .ok (.dup, 1) := by decide +kernel
theorem dX8_init_42 : decode cX8_init 42 = .ok (.aload_n 0, 1) := by decide +kernel
theorem dX8_init_43 : decode cX8_init 43 = .ok (.getfield 19, 3) := by decide +kernel
theorem dX8_init_46 : decode cX8_init 46 = .ok (.invokespecial 28, 3) := by decide +kernel
theorem dX8_init_49 : decode cX8_init 49 = .ok (.putfield 31, 3) := by decide +kernel
theorem dX8_init_52 : decode cX8_init 52 = .ok (.aload_n 0, 1) := by decide +kernel
theorem dX8_init_53 : decode cX8_init 53 = .ok (.new 35, 3) := by decide +kernel
theorem dX8_init_56 : decode cX8_init 56 = .ok (.dup, 1) := by decide +kernel
theorem dX8_init_57 : decode cX8_init 57 = .ok (.aload_n 0, 1) := by decide +kernel
theorem dX8_init_58 : decode cX8_init 58 = .ok (.getfield 19, 3) := by decide +kernel
theorem dX8_init_61 : decode cX8_init 61 = .ok (.invokespecial 37, 3) := by decide +kernel
theorem dX8_init_64 : decode cX8_init 64 = .ok (.putfield 38, 3) := by decide +kernel
theorem dX8_init_67 : decode cX8_init 67 = .ok (.aload_n 0, 1) := by decide +kernel
theorem dX8_init_68 : decode cX8_init 68 = .ok (.new 35, 3) := by decide +kernel
theorem dX8_init_71 : decode cX8_init 71 = .ok (.dup, 1) := by decide +kernel
theorem dX8_init_72 : decode cX8_init 72 = .ok (.aload_n 0, 1) := by decide +kernel
theorem dX8_init_73 : decode cX8_init 73 = .ok (.getfield 19, 3) := by decide +kernel
theorem dX8_init_76 : decode cX8_init 76 = .ok (.invokespecial 37, 3) := by decide +kernel
theorem dX8_init_79 : decode cX8_init 79 = .ok (.putfield 42, 3) := by decide +kernel
theorem dX8_init_82 : decode cX8_init 82 = .ok (.aload_n 0, 1) := by decide +kernel
theorem dX8_init_83 : decode cX8_init 83 = .ok (.new 45, 3) := by decide +kernel
theorem dX8_init_86 : decode cX8_init 86 = .ok (.dup, 1) := by decide +kernel
theorem dX8_init_87 : decode cX8_init 87 = .ok (.bipush 6, 2) := by decide +kernel
theorem dX8_init_89 : decode cX8_init 89 = .ok (.aload_n 0, 1) := by decide +kernel
theorem dX8_init_90 : decode cX8_init 90 = .ok (.getfield 19, 3) := by decide +kernel
theorem dX8_init_93 : decode cX8_init 93 = .ok (.invokespecial 47, 3) := by decide +kernel
theorem dX8_init_96 : decode cX8_init 96 = .ok (.putfield 50, 3) := by decide +kernel
theorem dX8_init_99 : decode cX8_init 99 = .ok (.aload_n 0, 1) := by decide +kernel
theorem dX8_init_100 : decode cX8_init 100 = .ok (.new 45, 3) := by decide +kernel
theorem dX8_init_103 : decode cX8_init 103 = .ok (.dup, 1) := by decide +kernel
theorem dX8_init_104 : decode cX8_init 104 = .ok (.iconst 2, 1) := by decide +kernel
theorem dX8_init_105 : decode cX8_init 105 = .ok (.aload_n 0, 1) := by decide +kernel
theorem dX8_init_106 : decode cX8_init 106 = .ok (.getfield 19, 3) := by decide +kernel
theorem dX8_init_109 : decode cX8_init 109 = .ok (.invokespecial 47, 3) := by decide +kernel
theorem dX8_init_112 : decode cX8_init 112 = .ok (.putfield 54, 3) := by decide +kernel
theorem dX8_init_115 : decode cX8_init 115 = .ok (.aload_n 0, 1) := by decide +kernel
theorem dX8_init_116 : decode cX8_init 116 = .ok (.new 57, 3) := by decide +kernel
theorem dX8_init_119 : decode cX8_init 119 = .ok (.dup, 1) := by decide +kernel
theorem dX8_init_120 : decode cX8_init 120 = .ok (.invokespecial 59, 3) := by decide +kernel
theorem dX8_init_123 : decode cX8_init 123 = .ok (.putfield 60, 3) := by decide +kernel
theorem dX8_init_126 : decode cX8_init 126 = .ok (.aload_n 0, 1) := by decide +kernel
theorem dX8_init_127 : decode cX8_init 127 = .ok (.new 64, 3) := by decide +kernel
theorem dX8_init_130 : decode cX8_init 130 = .ok (.dup, 1) := by decide +kernel
theorem dX8_init_131 : decode cX8_init 131 = .ok (.invokespecial 66, 3) := by decide +kernel
theorem dX8_init_134 : decode cX8_init 134 = .ok (.putfield 67, 3) := by decide +kernel
theorem dX8_init_137 : decode cX8_init 137 = .ok (.aload_n 0, 1) := by decide +kernel
theorem dX8_init_138 : decode cX8_init 138 = .ok (.new 71, 3) := by decide +kernel
theorem dX8_init_141 : decode cX8_init 141 = .ok (.dup, 1) := by decide +kernel
theorem dX8_init_142 : decode cX8_init 142 = .ok (.invokespecial 73, 3) := by decide +kernel
theorem dX8_init_145 : decode cX8_init 145 = .ok (.putfield 74, 3) := by decide +kernel
theorem dX8_init_148 : decode cX8_init 148 = .ok (.aload_n 0, 1) := by decide +kernel
theorem dX8_init_149 : decode cX8_init 149 = .ok (.getfield 19, 3) := by decide +kernel
theorem dX8_init_152 : decode cX8_init 152 = .ok (.invokevirtual 78, 3) := by decide +kernel
theorem dX8_init_155 : decode cX8_init 155 = .ok (.aload_n 0, 1) := by decide +kernel
theorem dX8_init_156 : decode cX8_init 156 = .ok (.getfield 19, 3) := by decide +kernel
theorem dX8_init_159 : decode cX8_init 159 = .ok (.bipush 50, 2) := by decide +kernel
theorem dX8_init_161 : decode cX8_init 161 = .ok (.invokevirtual 81, 3) := by decide +kernel
theorem dX8_init_164 : decode cX8_init 164 = .ok (.pop, 1) := by decide +kernel
theorem dX8_init_165 : decode cX8_init 165 = .ok (.aload_n 0, 1) := by decide +kernel
theorem dX8_init_166 : decode cX8_init 166 = .ok (.getfield 19, 3) := by decide +kernel
theorem dX8_init_169 : decode cX8_init 169 = .ok (.bipush 80, 2) := by decide +kernel
theorem dX8_init_171 : decode cX8_init 171 = .ok (.invokevirtual 81, 3) := by decide +kernel
theorem dX8_init_174 : decode cX8_init 174 = .ok (.pop, 1) := by decide +kernel
theorem dX8_init_175 : decode cX8_init 175 = .ok (.aload_n 0, 1) := by decide +kernel
theorem dX8_init_176 : decode cX8_init 176 = .ok (.getfield 31, 3) := by decide +kernel
theorem dX8_init_179 : decode cX8_init 179 = .ok (.invokevirtual 85, 3) := by decide +kernel
theorem dX8_init_182 : decode cX8_init 182 = .ok (.return_, 1) := by decide +kernel
theorem dX8_write_0 : decode cX8_write 0 = .ok (.iload_n 1, 1) := by decide +kernel
theorem dX8_write_1 : decode cX8_write 1 = .ok (.iconst 1, 1) := by decide +kernel
theorem dX8_write_2 : decode cX8_write 2 = .ok (.bipush 8, 2) := by decide +kernel
theorem dX8_write_4 : decode cX8_write 4 = .ok (.invokestatic 88, 3) := by decide +kernel
theorem dX8_write_7 : decode cX8_write 7 = .ok (.ifCond .ne 5, 3) := by decide +kernel
theorem dX8_write_10 : decode cX8_write 10 = .ok (.iconst (-1), 1) := by decide +kernel
theorem dX8_write_11 : decode cX8_write 11 = .ok (.ireturn, 1) := by decide +kernel
theorem dX8_write_12 : decode cX8_write 12 = .ok (.aload_n 0, 1) := by decide +kernel
theorem dX8_write_13 : decode cX8_write 13 = .ok (.getfield 10, 3) := by decide +kernel
theorem dX8_write_16 : decode cX8_write 16 = .ok (.getfield 92, 3) := by decide +kernel
theorem dX8_write_19 : decode cX8_write 19 = .ok (.iload_n 1, 1) := by decide +kernel
theorem dX8_write_20 : decode cX8_write 20 = .ok (.iadd, 1) := by decide +kernel
theorem dX8_write_21 : decode cX8_write 21 = .ok (.sipush 300, 3) := by decide +kernel
theorem dX8_write_24 : decode cX8_write 24 = .ok (.if_icmp .le 6, 3) := by decide +kernel
theorem dX8_write_27 : decode cX8_write 27 = .ok (.bipush (-3), 2) := by decide +kernel
theorem dX8_write_29 : decode cX8_write 29 = .ok (.ireturn, 1) := by decide +kernel
theorem dX8_write_30 : decode cX8_write 30 = .ok (.aload_n 0, 1) := by decide +kernel
theorem dX8_write_31 : decode cX8_write 31 = .ok (.getfield 10, 3) := by decide +kernel
theorem dX8_write_34 : decode cX8_write 34 = .ok (.iload_n 1, 1) := by decide +kernel
theorem dX8_write_35 : decode cX8_write 35 = .ok (.lload_n 2, 1) := by decide +kernel
theorem dX8_write_36 : decode cX8_write 36 = .ok (.invokevirtual 96, 3) := by decide +kernel
theorem dX8_write_39 : decode cX8_write 39 = .ok (.aload_n 0, 1) := by decide +kernel
theorem dX8_write_40 : decode cX8_write 40 = .ok (.getfield 10, 3) := by decide +kernel
theorem dX8_write_43 : decode cX8_write 43 = .ok (.getfield 92, 3) := by decide +kernel
theorem dX8_write_46 : decode cX8_write 46 = .ok (.ireturn, 1) := by decide +kernel
theorem dX8_wipe_0 : decode cX8_wipe 0 = .ok (.aload_n 0, 1) := by decide +kernel
theorem dX8_wipe_1 : decode cX8_wipe 1 = .ok (.getfield 10, 3) := by decide +kernel
theorem dX8_wipe_4 : decode cX8_wipe 4 = .ok (.getfield 92, 3) := by decide +kernel
theorem dX8_wipe_7 : decode cX8_wipe 7 = .ok (.istore_n 1, 1) := by decide +kernel
theorem dX8_wipe_8 : decode cX8_wipe 8 = .ok (.aload_n 0, 1) := by decide +kernel
theorem dX8_wipe_9 : decode cX8_wipe 9 = .ok (.getfield 10, 3) := by decide +kernel
theorem dX8_wipe_12 : decode cX8_wipe 12 = .ok (.iconst 0, 1) := by decide +kernel
theorem dX8_wipe_13 : decode cX8_wipe 13 = .ok (.putfield 92, 3) := by decide +kernel
theorem dX8_wipe_16 : decode cX8_wipe 16 = .ok (.iload_n 1, 1) := by decide +kernel
theorem dX8_wipe_17 : decode cX8_wipe 17 = .ok (.ireturn, 1) := by decide +kernel
theorem dX8_fault_0 : decode cX8_fault 0 = .ok (.aload_n 0, 1) := by decide +kernel
theorem dX8_fault_1 : decode cX8_fault 1 = .ok (.getfield 23, 3) := by decide +kernel
theorem dX8_fault_4 : decode cX8_fault 4 = .ok (.aload_n 0, 1) := by decide +kernel
theorem dX8_fault_5 : decode cX8_fault 5 = .ok (.getfield 10, 3) := by decide +kernel
theorem dX8_fault_8 : decode cX8_fault 8 = .ok (.invokevirtual 100, 3) := by decide +kernel
theorem dX8_fault_11 : decode cX8_fault 11 = .ok (.ireturn, 1) := by decide +kernel
theorem dX8_lay_0 : decode cX8_lay 0 = .ok (.aload_n 0, 1) := by decide +kernel
theorem dX8_lay_1 : decode cX8_lay 1 = .ok (.getfield 23, 3) := by decide +kernel
theorem dX8_lay_4 : decode cX8_lay 4 = .ok (.aload_n 0, 1) := by decide +kernel
theorem dX8_lay_5 : decode cX8_lay 5 = .ok (.getfield 10, 3) := by decide +kernel
theorem dX8_lay_8 : decode cX8_lay 8 = .ok (.invokevirtual 100, 3) := by decide +kernel
theorem dX8_lay_11 : decode cX8_lay 11 = .ok (.bipush (-4), 2) := by decide +kernel
theorem dX8_lay_13 : decode cX8_lay 13 = .ok (.if_icmp .ne 14, 3) := by decide +kernel
theorem dX8_lay_16 : decode cX8_lay 16 = .ok (.aload_n 0, 1) := by decide +kernel
theorem dX8_lay_17 : decode cX8_lay 17 = .ok (.getfield 23, 3) := by decide +kernel
theorem dX8_lay_20 : decode cX8_lay 20 = .ok (.getfield 104, 3) := by decide +kernel
theorem dX8_lay_23 : decode cX8_lay 23 = .ok (.iconst 1, 1) := by decide +kernel
theorem dX8_lay_24 : decode cX8_lay 24 = .ok (.if_icmp .ge 6, 3) := by decide +kernel
theorem dX8_lay_27 : decode cX8_lay 27 = .ok (.bipush (-2), 2) := by decide +kernel
theorem dX8_lay_29 : decode cX8_lay 29 = .ok (.ireturn, 1) := by decide +kernel
theorem dX8_lay_30 : decode cX8_lay 30 = .ok (.aload_n 0, 1) := by decide +kernel
theorem dX8_lay_31 : decode cX8_lay 31 = .ok (.getfield 19, 3) := by decide +kernel
theorem dX8_lay_34 : decode cX8_lay 34 = .ok (.aload_n 0, 1) := by decide +kernel
theorem dX8_lay_35 : decode cX8_lay 35 = .ok (.getfield 23, 3) := by decide +kernel
theorem dX8_lay_38 : decode cX8_lay 38 = .ok (.invokevirtual 107, 3) := by decide +kernel
theorem dX8_lay_41 : decode cX8_lay 41 = .ok (.aload_n 0, 1) := by decide +kernel
theorem dX8_lay_42 : decode cX8_lay 42 = .ok (.getfield 31, 3) := by decide +kernel
theorem dX8_lay_45 : decode cX8_lay 45 = .ok (.invokevirtual 85, 3) := by decide +kernel
theorem dX8_lay_48 : decode cX8_lay 48 = .ok (.aload_n 0, 1) := by decide +kernel
theorem dX8_lay_49 : decode cX8_lay 49 = .ok (.getfield 60, 3) := by decide +kernel
theorem dX8_lay_52 : decode cX8_lay 52 = .ok (.iconst 0, 1) := by decide +kernel
theorem dX8_lay_53 : decode cX8_lay 53 = .ok (.putfield 110, 3) := by decide +kernel
theorem dX8_lay_56 : decode cX8_lay 56 = .ok (.aload_n 0, 1) := by decide +kernel
theorem dX8_lay_57 : decode cX8_lay 57 = .ok (.getfield 50, 3) := by decide +kernel
theorem dX8_lay_60 : decode cX8_lay 60 = .ok (.iconst 0, 1) := by decide +kernel
theorem dX8_lay_61 : decode cX8_lay 61 = .ok (.putfield 113, 3) := by decide +kernel
theorem dX8_lay_64 : decode cX8_lay 64 = .ok (.aload_n 0, 1) := by decide +kernel
theorem dX8_lay_65 : decode cX8_lay 65 = .ok (.getfield 54, 3) := by decide +kernel
theorem dX8_lay_68 : decode cX8_lay 68 = .ok (.iconst 0, 1) := by decide +kernel
theorem dX8_lay_69 : decode cX8_lay 69 = .ok (.putfield 113, 3) := by decide +kernel
theorem dX8_lay_72 : decode cX8_lay 72 = .ok (.aload_n 0, 1) := by decide +kernel
theorem dX8_lay_73 : decode cX8_lay 73 = .ok (.getfield 19, 3) := by decide +kernel
theorem dX8_lay_76 : decode cX8_lay 76 = .ok (.getfield 104, 3) := by decide +kernel
theorem dX8_lay_79 : decode cX8_lay 79 = .ok (.ireturn, 1) := by decide +kernel
theorem dX8_person_0 : decode cX8_person 0 = .ok (.aload_n 0, 1) := by decide +kernel
theorem dX8_person_1 : decode cX8_person 1 = .ok (.iload_n 1, 1) := by decide +kernel
theorem dX8_person_2 : decode cX8_person 2 = .ok (.invokevirtual 114, 3) := by decide +kernel
theorem dX8_person_5 : decode cX8_person 5 = .ok (.ifCond .ne 5, 3) := by decide +kernel
theorem dX8_person_8 : decode cX8_person 8 = .ok (.iconst (-1), 1) := by decide +kernel
theorem dX8_person_9 : decode cX8_person 9 = .ok (.ireturn, 1) := by decide +kernel
theorem dX8_person_10 : decode cX8_person 10 = .ok (.iload_n 2, 1) := by decide +kernel
theorem dX8_person_11 : decode cX8_person 11 = .ok (.tableswitch 54 0 2 #[25, 35, 45], 25) := by decide +kernel
theorem dX8_person_36 : decode cX8_person 36 = .ok (.aload_n 0, 1) := by decide +kernel
theorem dX8_person_37 : decode cX8_person 37 = .ok (.getfield 31, 3) := by decide +kernel
theorem dX8_person_40 : decode cX8_person 40 = .ok (.getfield 117, 3) := by decide +kernel
theorem dX8_person_43 : decode cX8_person 43 = .ok (.iload_n 1, 1) := by decide +kernel
theorem dX8_person_44 : decode cX8_person 44 = .ok (.iaload, 1) := by decide +kernel
theorem dX8_person_45 : decode cX8_person 45 = .ok (.ireturn, 1) := by decide +kernel
theorem dX8_person_46 : decode cX8_person 46 = .ok (.aload_n 0, 1) := by decide +kernel
theorem dX8_person_47 : decode cX8_person 47 = .ok (.getfield 31, 3) := by decide +kernel
theorem dX8_person_50 : decode cX8_person 50 = .ok (.getfield 121, 3) := by decide +kernel
theorem dX8_person_53 : decode cX8_person 53 = .ok (.iload_n 1, 1) := by decide +kernel
theorem dX8_person_54 : decode cX8_person 54 = .ok (.iaload, 1) := by decide +kernel
theorem dX8_person_55 : decode cX8_person 55 = .ok (.ireturn, 1) := by decide +kernel
theorem dX8_person_56 : decode cX8_person 56 = .ok (.aload_n 0, 1) := by decide +kernel
theorem dX8_person_57 : decode cX8_person 57 = .ok (.getfield 31, 3) := by decide +kernel
theorem dX8_person_60 : decode cX8_person 60 = .ok (.iload_n 1, 1) := by decide +kernel
theorem dX8_person_61 : decode cX8_person 61 = .ok (.invokevirtual 124, 3) := by decide +kernel
theorem dX8_person_64 : decode cX8_person 64 = .ok (.ireturn, 1) := by decide +kernel
theorem dX8_person_65 : decode cX8_person 65 = .ok (.iconst (-1), 1) := by decide +kernel
theorem dX8_person_66 : decode cX8_person 66 = .ok (.ireturn, 1) := by decide +kernel
theorem dX8_loan_0 : decode cX8_loan 0 = .ok (.iload_n 1, 1) := by decide +kernel
theorem dX8_loan_1 : decode cX8_loan 1 = .ok (.iconst 0, 1) := by decide +kernel
theorem dX8_loan_2 : decode cX8_loan 2 = .ok (.aload_n 0, 1) := by decide +kernel
theorem dX8_loan_3 : decode cX8_loan 3 = .ok (.getfield 31, 3) := by decide +kernel
theorem dX8_loan_6 : decode cX8_loan 6 = .ok (.getfield 128, 3) := by decide +kernel
theorem dX8_loan_9 : decode cX8_loan 9 = .ok (.iconst 1, 1) := by decide +kernel
theorem dX8_loan_10 : decode cX8_loan 10 = .ok (.isub, 1) := by decide +kernel
theorem dX8_loan_11 : decode cX8_loan 11 = .ok (.invokestatic 88, 3) := by decide +kernel
theorem dX8_loan_14 : decode cX8_loan 14 = .ok (.ifCond .ne 5, 3) := by decide +kernel
theorem dX8_loan_17 : decode cX8_loan 17 = .ok (.iconst (-1), 1) := by decide +kernel
theorem dX8_loan_18 : decode cX8_loan 18 = .ok (.ireturn, 1) := by decide +kernel
theorem dX8_loan_19 : decode cX8_loan 19 = .ok (.iload_n 2, 1) := by decide +kernel
theorem dX8_loan_20 : decode cX8_loan 20 = .ok (.tableswitch 72 0 3 #[32, 42, 52, 62], 32) := by decide +kernel
theorem dX8_loan_52 : decode cX8_loan 52 = .ok (.aload_n 0, 1) := by decide +kernel
theorem dX8_loan_53 : decode cX8_loan 53 = .ok (.getfield 31, 3) := by decide +kernel
theorem dX8_loan_56 : decode cX8_loan 56 = .ok (.getfield 131, 3) := by decide +kernel
theorem dX8_loan_59 : decode cX8_loan 59 = .ok (.iload_n 1, 1) := by decide +kernel
theorem dX8_loan_60 : decode cX8_loan 60 = .ok (.iaload, 1) := by decide +kernel
theorem dX8_loan_61 : decode cX8_loan 61 = .ok (.ireturn, 1) := by decide +kernel
theorem dX8_loan_62 : decode cX8_loan 62 = .ok (.aload_n 0, 1) := by decide +kernel
theorem dX8_loan_63 : decode cX8_loan 63 = .ok (.getfield 31, 3) := by decide +kernel
theorem dX8_loan_66 : decode cX8_loan 66 = .ok (.getfield 134, 3) := by decide +kernel
theorem dX8_loan_69 : decode cX8_loan 69 = .ok (.iload_n 1, 1) := by decide +kernel
theorem dX8_loan_70 : decode cX8_loan 70 = .ok (.iaload, 1) := by decide +kernel
theorem dX8_loan_71 : decode cX8_loan 71 = .ok (.ireturn, 1) := by decide +kernel
theorem dX8_loan_72 : decode cX8_loan 72 = .ok (.aload_n 0, 1) := by decide +kernel
theorem dX8_loan_73 : decode cX8_loan 73 = .ok (.getfield 31, 3) := by decide +kernel
theorem dX8_loan_76 : decode cX8_loan 76 = .ok (.getfield 137, 3) := by decide +kernel
theorem dX8_loan_79 : decode cX8_loan 79 = .ok (.iload_n 1, 1) := by decide +kernel
theorem dX8_loan_80 : decode cX8_loan 80 = .ok (.iaload, 1) := by decide +kernel
theorem dX8_loan_81 : decode cX8_loan 81 = .ok (.ireturn, 1) := by decide +kernel
theorem dX8_loan_82 : decode cX8_loan 82 = .ok (.aload_n 0, 1) := by decide +kernel
theorem dX8_loan_83 : decode cX8_loan 83 = .ok (.getfield 31, 3) := by decide +kernel
theorem dX8_loan_86 : decode cX8_loan 86 = .ok (.getfield 140, 3) := by decide +kernel
theorem dX8_loan_89 : decode cX8_loan 89 = .ok (.iload_n 1, 1) := by decide +kernel
theorem dX8_loan_90 : decode cX8_loan 90 = .ok (.iaload, 1) := by decide +kernel
theorem dX8_loan_91 : decode cX8_loan 91 = .ok (.ireturn, 1) := by decide +kernel
theorem dX8_loan_92 : decode cX8_loan 92 = .ok (.iconst (-1), 1) := by decide +kernel
theorem dX8_loan_93 : decode cX8_loan 93 = .ok (.ireturn, 1) := by decide +kernel
theorem dX8_notary_0 : decode cX8_notary 0 = .ok (.aload_n 0, 1) := by decide +kernel
theorem dX8_notary_1 : decode cX8_notary 1 = .ok (.getfield 31, 3) := by decide +kernel
theorem dX8_notary_4 : decode cX8_notary 4 = .ok (.iload_n 1, 1) := by decide +kernel
theorem dX8_notary_5 : decode cX8_notary 5 = .ok (.iload_n 2, 1) := by decide +kernel
theorem dX8_notary_6 : decode cX8_notary 6 = .ok (.iload_n 3, 1) := by decide +kernel
theorem dX8_notary_7 : decode cX8_notary 7 = .ok (.iload 4, 2) := by decide +kernel
theorem dX8_notary_9 : decode cX8_notary 9 = .ok (.invokevirtual 143, 3) := by decide +kernel
theorem dX8_notary_12 : decode cX8_notary 12 = .ok (.ifCond .ne 5, 3) := by decide +kernel
theorem dX8_notary_15 : decode cX8_notary 15 = .ok (.iconst (-1), 1) := by decide +kernel
theorem dX8_notary_16 : decode cX8_notary 16 = .ok (.ireturn, 1) := by decide +kernel
theorem dX8_notary_17 : decode cX8_notary 17 = .ok (.aload_n 0, 1) := by decide +kernel
theorem dX8_notary_18 : decode cX8_notary 18 = .ok (.getfield 31, 3) := by decide +kernel
theorem dX8_notary_21 : decode cX8_notary 21 = .ok (.iload_n 1, 1) := by decide +kernel
theorem dX8_notary_22 : decode cX8_notary 22 = .ok (.iload_n 2, 1) := by decide +kernel
theorem dX8_notary_23 : decode cX8_notary 23 = .ok (.iload_n 3, 1) := by decide +kernel
theorem dX8_notary_24 : decode cX8_notary 24 = .ok (.iload 4, 2) := by decide +kernel
theorem dX8_notary_26 : decode cX8_notary 26 = .ok (.invokevirtual 147, 3) := by decide +kernel
theorem dX8_notary_29 : decode cX8_notary 29 = .ok (.ifCond .eq 7, 3) := by decide +kernel
theorem dX8_notary_32 : decode cX8_notary 32 = .ok (.iconst 1, 1) := by decide +kernel
theorem dX8_notary_33 : decode cX8_notary 33 = .ok (.goto 4, 3) := by decide +kernel
theorem dX8_notary_36 : decode cX8_notary 36 = .ok (.iconst 0, 1) := by decide +kernel
theorem dX8_notary_37 : decode cX8_notary 37 = .ok (.ireturn, 1) := by decide +kernel
theorem dX8_lend_0 : decode cX8_lend 0 = .ok (.aload_n 0, 1) := by decide +kernel
theorem dX8_lend_1 : decode cX8_lend 1 = .ok (.getfield 31, 3) := by decide +kernel
theorem dX8_lend_4 : decode cX8_lend 4 = .ok (.iload_n 1, 1) := by decide +kernel
theorem dX8_lend_5 : decode cX8_lend 5 = .ok (.iload_n 2, 1) := by decide +kernel
theorem dX8_lend_6 : decode cX8_lend 6 = .ok (.iload_n 3, 1) := by decide +kernel
theorem dX8_lend_7 : decode cX8_lend 7 = .ok (.iload 4, 2) := by decide +kernel
theorem dX8_lend_9 : decode cX8_lend 9 = .ok (.invokevirtual 150, 3) := by decide +kernel
theorem dX8_lend_12 : decode cX8_lend 12 = .ok (.istore 5, 2) := by decide +kernel
theorem dX8_lend_14 : decode cX8_lend 14 = .ok (.iload 5, 2) := by decide +kernel
theorem dX8_lend_16 : decode cX8_lend 16 = .ok (.ifCond .eq 6, 3) := by decide +kernel
theorem dX8_lend_19 : decode cX8_lend 19 = .ok (.iload 5, 2) := by decide +kernel
theorem dX8_lend_21 : decode cX8_lend 21 = .ok (.ireturn, 1) := by decide +kernel
theorem dX8_lend_22 : decode cX8_lend 22 = .ok (.aload_n 0, 1) := by decide +kernel
theorem dX8_lend_23 : decode cX8_lend 23 = .ok (.getfield 50, 3) := by decide +kernel
theorem dX8_lend_26 : decode cX8_lend 26 = .ok (.aload_n 0, 1) := by decide +kernel
theorem dX8_lend_27 : decode cX8_lend 27 = .ok (.getfield 31, 3) := by decide +kernel
theorem dX8_lend_30 : decode cX8_lend 30 = .ok (.invokevirtual 154, 3) := by decide +kernel
theorem dX8_lend_33 : decode cX8_lend 33 = .ok (.aload_n 0, 1) := by decide +kernel
theorem dX8_lend_34 : decode cX8_lend 34 = .ok (.getfield 31, 3) := by decide +kernel
theorem dX8_lend_37 : decode cX8_lend 37 = .ok (.iload_n 1, 1) := by decide +kernel
theorem dX8_lend_38 : decode cX8_lend 38 = .ok (.iload_n 2, 1) := by decide +kernel
theorem dX8_lend_39 : decode cX8_lend 39 = .ok (.iload_n 3, 1) := by decide +kernel
theorem dX8_lend_40 : decode cX8_lend 40 = .ok (.iload 4, 2) := by decide +kernel
theorem dX8_lend_42 : decode cX8_lend 42 = .ok (.invokevirtual 158, 3) := by decide +kernel
theorem dX8_lend_45 : decode cX8_lend 45 = .ok (.aload_n 0, 1) := by decide +kernel
theorem dX8_lend_46 : decode cX8_lend 46 = .ok (.getfield 31, 3) := by decide +kernel
theorem dX8_lend_49 : decode cX8_lend 49 = .ok (.getfield 128, 3) := by decide +kernel
theorem dX8_lend_52 : decode cX8_lend 52 = .ok (.ireturn, 1) := by decide +kernel
theorem dX8_week_0 : decode cX8_week 0 = .ok (.aload_n 0, 1) := by decide +kernel
theorem dX8_week_1 : decode cX8_week 1 = .ok (.getfield 50, 3) := by decide +kernel
theorem dX8_week_4 : decode cX8_week 4 = .ok (.aload_n 0, 1) := by decide +kernel
theorem dX8_week_5 : decode cX8_week 5 = .ok (.getfield 31, 3) := by decide +kernel
theorem dX8_week_8 : decode cX8_week 8 = .ok (.invokevirtual 154, 3) := by decide +kernel
theorem dX8_week_11 : decode cX8_week 11 = .ok (.aload_n 0, 1) := by decide +kernel
theorem dX8_week_12 : decode cX8_week 12 = .ok (.getfield 31, 3) := by decide +kernel
theorem dX8_week_15 : decode cX8_week 15 = .ok (.iconst 1, 1) := by decide +kernel
theorem dX8_week_16 : decode cX8_week 16 = .ok (.invokevirtual 162, 3) := by decide +kernel
theorem dX8_week_19 : decode cX8_week 19 = .ok (.aload_n 0, 1) := by decide +kernel
theorem dX8_week_20 : decode cX8_week 20 = .ok (.getfield 31, 3) := by decide +kernel
theorem dX8_week_23 : decode cX8_week 23 = .ok (.invokevirtual 166, 3) := by decide +kernel
theorem dX8_week_26 : decode cX8_week 26 = .ok (.ireturn, 1) := by decide +kernel
theorem dX8_undo_0 : decode cX8_undo 0 = .ok (.aload_n 0, 1) := by decide +kernel
theorem dX8_undo_1 : decode cX8_undo 1 = .ok (.getfield 50, 3) := by decide +kernel
theorem dX8_undo_4 : decode cX8_undo 4 = .ok (.aload_n 0, 1) := by decide +kernel
theorem dX8_undo_5 : decode cX8_undo 5 = .ok (.getfield 31, 3) := by decide +kernel
theorem dX8_undo_8 : decode cX8_undo 8 = .ok (.invokevirtual 170, 3) := by decide +kernel
theorem dX8_undo_11 : decode cX8_undo 11 = .ok (.ireturn, 1) := by decide +kernel
theorem dX8_dies_0 : decode cX8_dies 0 = .ok (.aload_n 0, 1) := by decide +kernel
theorem dX8_dies_1 : decode cX8_dies 1 = .ok (.iload_n 1, 1) := by decide +kernel
theorem dX8_dies_2 : decode cX8_dies 2 = .ok (.invokevirtual 114, 3) := by decide +kernel
theorem dX8_dies_5 : decode cX8_dies 5 = .ok (.ifCond .ne 5, 3) := by decide +kernel
theorem dX8_dies_8 : decode cX8_dies 8 = .ok (.iconst (-1), 1) := by decide +kernel
theorem dX8_dies_9 : decode cX8_dies 9 = .ok (.ireturn, 1) := by decide +kernel
theorem dX8_dies_10 : decode cX8_dies 10 = .ok (.aload_n 0, 1) := by decide +kernel
theorem dX8_dies_11 : decode cX8_dies 11 = .ok (.getfield 38, 3) := by decide +kernel
theorem dX8_dies_14 : decode cX8_dies 14 = .ok (.aload_n 0, 1) := by decide +kernel
theorem dX8_dies_15 : decode cX8_dies 15 = .ok (.getfield 31, 3) := by decide +kernel
theorem dX8_dies_18 : decode cX8_dies 18 = .ok (.invokevirtual 174, 3) := by decide +kernel
theorem dX8_dies_21 : decode cX8_dies 21 = .ok (.aload_n 0, 1) := by decide +kernel
theorem dX8_dies_22 : decode cX8_dies 22 = .ok (.getfield 38, 3) := by decide +kernel
theorem dX8_dies_25 : decode cX8_dies 25 = .ok (.sipush 2000, 3) := by decide +kernel
theorem dX8_dies_28 : decode cX8_dies 28 = .ok (.invokevirtual 177, 3) := by decide +kernel
theorem dX8_dies_31 : decode cX8_dies 31 = .ok (.aload_n 0, 1) := by decide +kernel
theorem dX8_dies_32 : decode cX8_dies 32 = .ok (.getfield 38, 3) := by decide +kernel
theorem dX8_dies_35 : decode cX8_dies 35 = .ok (.getfield 180, 3) := by decide +kernel
theorem dX8_dies_38 : decode cX8_dies 38 = .ok (.iload_n 1, 1) := by decide +kernel
theorem dX8_dies_39 : decode cX8_dies 39 = .ok (.iaload, 1) := by decide +kernel
theorem dX8_dies_40 : decode cX8_dies 40 = .ok (.ldc 183, 2) := by decide +kernel
theorem dX8_dies_42 : decode cX8_dies 42 = .ok (.if_icmp .ne 8, 3) := by decide +kernel
theorem dX8_dies_45 : decode cX8_dies 45 = .ok (.bipush (-4), 2) := by decide +kernel
theorem dX8_dies_47 : decode cX8_dies 47 = .ok (.goto 12, 3) := by decide +kernel
theorem dX8_dies_50 : decode cX8_dies 50 = .ok (.aload_n 0, 1) := by decide +kernel
theorem dX8_dies_51 : decode cX8_dies 51 = .ok (.getfield 38, 3) := by decide +kernel
theorem dX8_dies_54 : decode cX8_dies 54 = .ok (.getfield 180, 3) := by decide +kernel
theorem dX8_dies_57 : decode cX8_dies 57 = .ok (.iload_n 1, 1) := by decide +kernel
theorem dX8_dies_58 : decode cX8_dies 58 = .ok (.iaload, 1) := by decide +kernel
theorem dX8_dies_59 : decode cX8_dies 59 = .ok (.ireturn, 1) := by decide +kernel
theorem dX8_run_0 : decode cX8_run 0 = .ok (.iload_n 1, 1) := by decide +kernel
theorem dX8_run_1 : decode cX8_run 1 = .ok (.iconst 0, 1) := by decide +kernel
theorem dX8_run_2 : decode cX8_run 2 = .ok (.sipush 2000, 3) := by decide +kernel
theorem dX8_run_5 : decode cX8_run 5 = .ok (.invokestatic 88, 3) := by decide +kernel
theorem dX8_run_8 : decode cX8_run 8 = .ok (.ifCond .eq 20, 3) := by decide +kernel
theorem dX8_run_11 : decode cX8_run 11 = .ok (.aload_n 0, 1) := by decide +kernel
theorem dX8_run_12 : decode cX8_run 12 = .ok (.iload_n 2, 1) := by decide +kernel
theorem dX8_run_13 : decode cX8_run 13 = .ok (.invokevirtual 114, 3) := by decide +kernel
theorem dX8_run_16 : decode cX8_run 16 = .ok (.ifCond .eq 12, 3) := by decide +kernel
theorem dX8_run_19 : decode cX8_run 19 = .ok (.iload_n 3, 1) := by decide +kernel
theorem dX8_run_20 : decode cX8_run 20 = .ok (.iconst 0, 1) := by decide +kernel
theorem dX8_run_21 : decode cX8_run 21 = .ok (.iconst 2, 1) := by decide +kernel
theorem dX8_run_22 : decode cX8_run 22 = .ok (.invokestatic 88, 3) := by decide +kernel
theorem dX8_run_25 : decode cX8_run 25 = .ok (.ifCond .ne 5, 3) := by decide +kernel
theorem dX8_run_28 : decode cX8_run 28 = .ok (.iconst (-1), 1) := by decide +kernel
theorem dX8_run_29 : decode cX8_run 29 = .ok (.ireturn, 1) := by decide +kernel
theorem dX8_run_30 : decode cX8_run 30 = .ok (.aload_n 0, 1) := by decide +kernel
theorem dX8_run_31 : decode cX8_run 31 = .ok (.getfield 38, 3) := by decide +kernel
theorem dX8_run_34 : decode cX8_run 34 = .ok (.aload_n 0, 1) := by decide +kernel
theorem dX8_run_35 : decode cX8_run 35 = .ok (.getfield 31, 3) := by decide +kernel
theorem dX8_run_38 : decode cX8_run 38 = .ok (.invokevirtual 174, 3) := by decide +kernel
theorem dX8_run_41 : decode cX8_run 41 = .ok (.aload_n 0, 1) := by decide +kernel
theorem dX8_run_42 : decode cX8_run 42 = .ok (.getfield 38, 3) := by decide +kernel
theorem dX8_run_45 : decode cX8_run 45 = .ok (.iload_n 1, 1) := by decide +kernel
theorem dX8_run_46 : decode cX8_run 46 = .ok (.invokevirtual 177, 3) := by decide +kernel
theorem dX8_run_49 : decode cX8_run 49 = .ok (.iload_n 3, 1) := by decide +kernel
theorem dX8_run_50 : decode cX8_run 50 = .ok (.lookupswitch 52 #[(0, 26), (1, 39)], 26) := by decide +kernel
theorem dX8_run_76 : decode cX8_run 76 = .ok (.aload_n 0, 1) := by decide +kernel
theorem dX8_run_77 : decode cX8_run 77 = .ok (.getfield 38, 3) := by decide +kernel
theorem dX8_run_80 : decode cX8_run 80 = .ok (.getfield 184, 3) := by decide +kernel
theorem dX8_run_83 : decode cX8_run 83 = .ok (.getfield 117, 3) := by decide +kernel
theorem dX8_run_86 : decode cX8_run 86 = .ok (.iload_n 2, 1) := by decide +kernel
theorem dX8_run_87 : decode cX8_run 87 = .ok (.iaload, 1) := by decide +kernel
theorem dX8_run_88 : decode cX8_run 88 = .ok (.ireturn, 1) := by decide +kernel
theorem dX8_run_89 : decode cX8_run 89 = .ok (.aload_n 0, 1) := by decide +kernel
theorem dX8_run_90 : decode cX8_run 90 = .ok (.getfield 38, 3) := by decide +kernel
theorem dX8_run_93 : decode cX8_run 93 = .ok (.getfield 184, 3) := by decide +kernel
theorem dX8_run_96 : decode cX8_run 96 = .ok (.getfield 121, 3) := by decide +kernel
theorem dX8_run_99 : decode cX8_run 99 = .ok (.iload_n 2, 1) := by decide +kernel
theorem dX8_run_100 : decode cX8_run 100 = .ok (.iaload, 1) := by decide +kernel
theorem dX8_run_101 : decode cX8_run 101 = .ok (.ireturn, 1) := by decide +kernel
theorem dX8_run_102 : decode cX8_run 102 = .ok (.aload_n 0, 1) := by decide +kernel
theorem dX8_run_103 : decode cX8_run 103 = .ok (.getfield 38, 3) := by decide +kernel
theorem dX8_run_106 : decode cX8_run 106 = .ok (.getfield 184, 3) := by decide +kernel
theorem dX8_run_109 : decode cX8_run 109 = .ok (.invokevirtual 166, 3) := by decide +kernel
theorem dX8_run_112 : decode cX8_run 112 = .ok (.ireturn, 1) := by decide +kernel
theorem dX8_tell_0 : decode cX8_tell 0 = .ok (.aload_n 0, 1) := by decide +kernel
theorem dX8_tell_1 : decode cX8_tell 1 = .ok (.iload_n 1, 1) := by decide +kernel
theorem dX8_tell_2 : decode cX8_tell 2 = .ok (.invokevirtual 114, 3) := by decide +kernel
theorem dX8_tell_5 : decode cX8_tell 5 = .ok (.ifCond .eq 11, 3) := by decide +kernel
theorem dX8_tell_8 : decode cX8_tell 8 = .ok (.iload_n 2, 1) := by decide +kernel
theorem dX8_tell_9 : decode cX8_tell 9 = .ok (.iload_n 3, 1) := by decide +kernel
theorem dX8_tell_10 : decode cX8_tell 10 = .ok (.invokestatic 185, 3) := by decide +kernel
theorem dX8_tell_13 : decode cX8_tell 13 = .ok (.ifCond .ne 5, 3) := by decide +kernel
theorem dX8_tell_16 : decode cX8_tell 16 = .ok (.iconst (-1), 1) := by decide +kernel
theorem dX8_tell_17 : decode cX8_tell 17 = .ok (.ireturn, 1) := by decide +kernel
theorem dX8_tell_18 : decode cX8_tell 18 = .ok (.aload_n 0, 1) := by decide +kernel
theorem dX8_tell_19 : decode cX8_tell 19 = .ok (.getfield 60, 3) := by decide +kernel
theorem dX8_tell_22 : decode cX8_tell 22 = .ok (.getfield 110, 3) := by decide +kernel
theorem dX8_tell_25 : decode cX8_tell 25 = .ok (.bipush 12, 2) := by decide +kernel
theorem dX8_tell_27 : decode cX8_tell 27 = .ok (.if_icmp .lt 6, 3) := by decide +kernel
theorem dX8_tell_30 : decode cX8_tell 30 = .ok (.bipush (-3), 2) := by decide +kernel
theorem dX8_tell_32 : decode cX8_tell 32 = .ok (.ireturn, 1) := by decide +kernel
theorem dX8_tell_33 : decode cX8_tell 33 = .ok (.aload_n 0, 1) := by decide +kernel
theorem dX8_tell_34 : decode cX8_tell 34 = .ok (.getfield 60, 3) := by decide +kernel
theorem dX8_tell_37 : decode cX8_tell 37 = .ok (.iload_n 1, 1) := by decide +kernel
theorem dX8_tell_38 : decode cX8_tell 38 = .ok (.iload_n 3, 1) := by decide +kernel
theorem dX8_tell_39 : decode cX8_tell 39 = .ok (.aload_n 0, 1) := by decide +kernel
theorem dX8_tell_40 : decode cX8_tell 40 = .ok (.getfield 19, 3) := by decide +kernel
theorem dX8_tell_43 : decode cX8_tell 43 = .ok (.iload_n 2, 1) := by decide +kernel
theorem dX8_tell_44 : decode cX8_tell 44 = .ok (.invokevirtual 189, 3) := by decide +kernel
theorem dX8_tell_47 : decode cX8_tell 47 = .ok (.iadd, 1) := by decide +kernel
theorem dX8_tell_48 : decode cX8_tell 48 = .ok (.iload 4, 2) := by decide +kernel
theorem dX8_tell_50 : decode cX8_tell 50 = .ok (.invokevirtual 192, 3) := by decide +kernel
theorem dX8_tell_53 : decode cX8_tell 53 = .ok (.aload_n 0, 1) := by decide +kernel
theorem dX8_tell_54 : decode cX8_tell 54 = .ok (.getfield 60, 3) := by decide +kernel
theorem dX8_tell_57 : decode cX8_tell 57 = .ok (.getfield 110, 3) := by decide +kernel
theorem dX8_tell_60 : decode cX8_tell 60 = .ok (.ireturn, 1) := by decide +kernel
theorem dX8_forget_0 : decode cX8_forget 0 = .ok (.aload_n 0, 1) := by decide +kernel
theorem dX8_forget_1 : decode cX8_forget 1 = .ok (.getfield 60, 3) := by decide +kernel
theorem dX8_forget_4 : decode cX8_forget 4 = .ok (.getfield 110, 3) := by decide +kernel
theorem dX8_forget_7 : decode cX8_forget 7 = .ok (.istore_n 1, 1) := by decide +kernel
theorem dX8_forget_8 : decode cX8_forget 8 = .ok (.aload_n 0, 1) := by decide +kernel
theorem dX8_forget_9 : decode cX8_forget 9 = .ok (.getfield 60, 3) := by decide +kernel
theorem dX8_forget_12 : decode cX8_forget 12 = .ok (.iconst 0, 1) := by decide +kernel
theorem dX8_forget_13 : decode cX8_forget 13 = .ok (.putfield 110, 3) := by decide +kernel
theorem dX8_forget_16 : decode cX8_forget 16 = .ok (.iload_n 1, 1) := by decide +kernel
theorem dX8_forget_17 : decode cX8_forget 17 = .ok (.ireturn, 1) := by decide +kernel
theorem dX8_span_0 : decode cX8_span 0 = .ok (.aload_n 0, 1) := by decide +kernel
theorem dX8_span_1 : decode cX8_span 1 = .ok (.iload_n 1, 1) := by decide +kernel
theorem dX8_span_2 : decode cX8_span 2 = .ok (.invokevirtual 114, 3) := by decide +kernel
theorem dX8_span_5 : decode cX8_span 5 = .ok (.ifCond .eq 12, 3) := by decide +kernel
theorem dX8_span_8 : decode cX8_span 8 = .ok (.iload_n 2, 1) := by decide +kernel
theorem dX8_span_9 : decode cX8_span 9 = .ok (.iconst 0, 1) := by decide +kernel
theorem dX8_span_10 : decode cX8_span 10 = .ok (.iconst 1, 1) := by decide +kernel
theorem dX8_span_11 : decode cX8_span 11 = .ok (.invokestatic 88, 3) := by decide +kernel
theorem dX8_span_14 : decode cX8_span 14 = .ok (.ifCond .ne 5, 3) := by decide +kernel
theorem dX8_span_17 : decode cX8_span 17 = .ok (.iconst (-1), 1) := by decide +kernel
theorem dX8_span_18 : decode cX8_span 18 = .ok (.ireturn, 1) := by decide +kernel
theorem dX8_span_19 : decode cX8_span 19 = .ok (.aload_n 0, 1) := by decide +kernel
theorem dX8_span_20 : decode cX8_span 20 = .ok (.getfield 60, 3) := by decide +kernel
theorem dX8_span_23 : decode cX8_span 23 = .ok (.iload_n 1, 1) := by decide +kernel
theorem dX8_span_24 : decode cX8_span 24 = .ok (.invokevirtual 196, 3) := by decide +kernel
theorem dX8_span_27 : decode cX8_span 27 = .ok (.istore_n 3, 1) := by decide +kernel
theorem dX8_span_28 : decode cX8_span 28 = .ok (.aload_n 0, 1) := by decide +kernel
theorem dX8_span_29 : decode cX8_span 29 = .ok (.getfield 60, 3) := by decide +kernel
theorem dX8_span_32 : decode cX8_span 32 = .ok (.iload_n 1, 1) := by decide +kernel
theorem dX8_span_33 : decode cX8_span 33 = .ok (.invokevirtual 199, 3) := by decide +kernel
theorem dX8_span_36 : decode cX8_span 36 = .ok (.istore 4, 2) := by decide +kernel
theorem dX8_span_38 : decode cX8_span 38 = .ok (.iload_n 3, 1) := by decide +kernel
theorem dX8_span_39 : decode cX8_span 39 = .ok (.iload 4, 2) := by decide +kernel
theorem dX8_span_41 : decode cX8_span 41 = .ok (.if_icmp .le 6, 3) := by decide +kernel
theorem dX8_span_44 : decode cX8_span 44 = .ok (.bipush (-4), 2) := by decide +kernel
theorem dX8_span_46 : decode cX8_span 46 = .ok (.ireturn, 1) := by decide +kernel
theorem dX8_span_47 : decode cX8_span 47 = .ok (.iload_n 2, 1) := by decide +kernel
theorem dX8_span_48 : decode cX8_span 48 = .ok (.ifCond .ne 7, 3) := by decide +kernel
theorem dX8_span_51 : decode cX8_span 51 = .ok (.iload_n 3, 1) := by decide +kernel
theorem dX8_span_52 : decode cX8_span 52 = .ok (.goto 5, 3) := by decide +kernel
theorem dX8_span_55 : decode cX8_span 55 = .ok (.iload 4, 2) := by decide +kernel
theorem dX8_span_57 : decode cX8_span 57 = .ok (.ireturn, 1) := by decide +kernel
theorem dX8_ask_0 : decode cX8_ask 0 = .ok (.aload_n 0, 1) := by decide +kernel
theorem dX8_ask_1 : decode cX8_ask 1 = .ok (.iload_n 1, 1) := by decide +kernel
theorem dX8_ask_2 : decode cX8_ask 2 = .ok (.invokevirtual 114, 3) := by decide +kernel
theorem dX8_ask_5 : decode cX8_ask 5 = .ok (.ifCond .eq 14, 3) := by decide +kernel
theorem dX8_ask_8 : decode cX8_ask 8 = .ok (.iload_n 2, 1) := by decide +kernel
theorem dX8_ask_9 : decode cX8_ask 9 = .ok (.iconst 1, 1) := by decide +kernel
theorem dX8_ask_10 : decode cX8_ask 10 = .ok (.sipush 200, 3) := by decide +kernel
theorem dX8_ask_13 : decode cX8_ask 13 = .ok (.invokestatic 88, 3) := by decide +kernel
theorem dX8_ask_16 : decode cX8_ask 16 = .ok (.ifCond .ne 5, 3) := by decide +kernel
theorem dX8_ask_19 : decode cX8_ask 19 = .ok (.iconst (-1), 1) := by decide +kernel
theorem dX8_ask_20 : decode cX8_ask 20 = .ok (.ireturn, 1) := by decide +kernel
theorem dX8_ask_21 : decode cX8_ask 21 = .ok (.aload_n 0, 1) := by decide +kernel
theorem dX8_ask_22 : decode cX8_ask 22 = .ok (.getfield 60, 3) := by decide +kernel
theorem dX8_ask_25 : decode cX8_ask 25 = .ok (.iload_n 1, 1) := by decide +kernel
theorem dX8_ask_26 : decode cX8_ask 26 = .ok (.aload_n 0, 1) := by decide +kernel
theorem dX8_ask_27 : decode cX8_ask 27 = .ok (.getfield 19, 3) := by decide +kernel
theorem dX8_ask_30 : decode cX8_ask 30 = .ok (.iload_n 2, 1) := by decide +kernel
theorem dX8_ask_31 : decode cX8_ask 31 = .ok (.invokevirtual 189, 3) := by decide +kernel
theorem dX8_ask_34 : decode cX8_ask 34 = .ok (.invokevirtual 202, 3) := by decide +kernel
theorem dX8_ask_37 : decode cX8_ask 37 = .ok (.ireturn, 1) := by decide +kernel
theorem dX8_bribed_0 : decode cX8_bribed 0 = .ok (.aload_n 0, 1) := by decide +kernel
theorem dX8_bribed_1 : decode cX8_bribed 1 = .ok (.getfield 60, 3) := by decide +kernel
theorem dX8_bribed_4 : decode cX8_bribed 4 = .ok (.aload_n 0, 1) := by decide +kernel
theorem dX8_bribed_5 : decode cX8_bribed 5 = .ok (.getfield 19, 3) := by decide +kernel
theorem dX8_bribed_8 : decode cX8_bribed 8 = .ok (.invokevirtual 206, 3) := by decide +kernel
theorem dX8_bribed_11 : decode cX8_bribed 11 = .ok (.ireturn, 1) := by decide +kernel
theorem dX8_cleared_0 : decode cX8_cleared 0 = .ok (.iload_n 1, 1) := by decide +kernel
theorem dX8_cleared_1 : decode cX8_cleared 1 = .ok (.iconst (-1), 1) := by decide +kernel
theorem dX8_cleared_2 : decode cX8_cleared 2 = .ok (.if_icmp .ne 12, 3) := by decide +kernel
theorem dX8_cleared_5 : decode cX8_cleared 5 = .ok (.iload_n 2, 1) := by decide +kernel
theorem dX8_cleared_6 : decode cX8_cleared 6 = .ok (.iconst (-1), 1) := by decide +kernel
theorem dX8_cleared_7 : decode cX8_cleared 7 = .ok (.if_icmp .ne 7, 3) := by decide +kernel
theorem dX8_cleared_10 : decode cX8_cleared 10 = .ok (.iconst 1, 1) := by decide +kernel
theorem dX8_cleared_11 : decode cX8_cleared 11 = .ok (.goto 4, 3) := by decide +kernel
theorem dX8_cleared_14 : decode cX8_cleared 14 = .ok (.iconst 0, 1) := by decide +kernel
theorem dX8_cleared_15 : decode cX8_cleared 15 = .ok (.istore_n 3, 1) := by decide +kernel
theorem dX8_cleared_16 : decode cX8_cleared 16 = .ok (.iload_n 3, 1) := by decide +kernel
theorem dX8_cleared_17 : decode cX8_cleared 17 = .ok (.ifCond .ne 21, 3) := by decide +kernel
theorem dX8_cleared_20 : decode cX8_cleared 20 = .ok (.aload_n 0, 1) := by decide +kernel
theorem dX8_cleared_21 : decode cX8_cleared 21 = .ok (.iload_n 1, 1) := by decide +kernel
theorem dX8_cleared_22 : decode cX8_cleared 22 = .ok (.invokevirtual 114, 3) := by decide +kernel
theorem dX8_cleared_25 : decode cX8_cleared 25 = .ok (.ifCond .eq 11, 3) := by decide +kernel
theorem dX8_cleared_28 : decode cX8_cleared 28 = .ok (.aload_n 0, 1) := by decide +kernel
theorem dX8_cleared_29 : decode cX8_cleared 29 = .ok (.iload_n 2, 1) := by decide +kernel
theorem dX8_cleared_30 : decode cX8_cleared 30 = .ok (.invokevirtual 114, 3) := by decide +kernel
theorem dX8_cleared_33 : decode cX8_cleared 33 = .ok (.ifCond .ne 5, 3) := by decide +kernel
theorem dX8_cleared_36 : decode cX8_cleared 36 = .ok (.iconst (-1), 1) := by decide +kernel
theorem dX8_cleared_37 : decode cX8_cleared 37 = .ok (.ireturn, 1) := by decide +kernel
theorem dX8_cleared_38 : decode cX8_cleared 38 = .ok (.aload_n 0, 1) := by decide +kernel
theorem dX8_cleared_39 : decode cX8_cleared 39 = .ok (.getfield 67, 3) := by decide +kernel
theorem dX8_cleared_42 : decode cX8_cleared 42 = .ok (.aload_n 0, 1) := by decide +kernel
theorem dX8_cleared_43 : decode cX8_cleared 43 = .ok (.getfield 31, 3) := by decide +kernel
theorem dX8_cleared_46 : decode cX8_cleared 46 = .ok (.invokevirtual 210, 3) := by decide +kernel
theorem dX8_cleared_49 : decode cX8_cleared 49 = .ok (.aload_n 0, 1) := by decide +kernel
theorem dX8_cleared_50 : decode cX8_cleared 50 = .ok (.getfield 67, 3) := by decide +kernel
theorem dX8_cleared_53 : decode cX8_cleared 53 = .ok (.invokevirtual 212, 3) := by decide +kernel
theorem dX8_cleared_56 : decode cX8_cleared 56 = .ok (.istore 4, 2) := by decide +kernel
theorem dX8_cleared_58 : decode cX8_cleared 58 = .ok (.iload_n 3, 1) := by decide +kernel
theorem dX8_cleared_59 : decode cX8_cleared 59 = .ok (.ifCond .eq 8, 3) := by decide +kernel
theorem dX8_cleared_62 : decode cX8_cleared 62 = .ok (.iload 4, 2) := by decide +kernel
theorem dX8_cleared_64 : decode cX8_cleared 64 = .ok (.goto 14, 3) := by decide +kernel
theorem dX8_cleared_67 : decode cX8_cleared 67 = .ok (.aload_n 0, 1) := by decide +kernel
theorem dX8_cleared_68 : decode cX8_cleared 68 = .ok (.getfield 67, 3) := by decide +kernel
theorem dX8_cleared_71 : decode cX8_cleared 71 = .ok (.getfield 215, 3) := by decide +kernel
theorem dX8_cleared_74 : decode cX8_cleared 74 = .ok (.iload_n 1, 1) := by decide +kernel
theorem dX8_cleared_75 : decode cX8_cleared 75 = .ok (.aaload, 1) := by decide +kernel
theorem dX8_cleared_76 : decode cX8_cleared 76 = .ok (.iload_n 2, 1) := by decide +kernel
theorem dX8_cleared_77 : decode cX8_cleared 77 = .ok (.iaload, 1) := by decide +kernel
theorem dX8_cleared_78 : decode cX8_cleared 78 = .ok (.ireturn, 1) := by decide +kernel
theorem dX8_child_0 : decode cX8_child 0 = .ok (.iload_n 1, 1) := by decide +kernel
theorem dX8_child_1 : decode cX8_child 1 = .ok (.iconst 1, 1) := by decide +kernel
theorem dX8_child_2 : decode cX8_child 2 = .ok (.bipush 99, 2) := by decide +kernel
theorem dX8_child_4 : decode cX8_child 4 = .ok (.invokestatic 88, 3) := by decide +kernel
theorem dX8_child_7 : decode cX8_child 7 = .ok (.ifCond .eq 14, 3) := by decide +kernel
theorem dX8_child_10 : decode cX8_child 10 = .ok (.aload_n 0, 1) := by decide +kernel
theorem dX8_child_11 : decode cX8_child 11 = .ok (.getfield 31, 3) := by decide +kernel
theorem dX8_child_14 : decode cX8_child 14 = .ok (.iload_n 2, 1) := by decide +kernel
theorem dX8_child_15 : decode cX8_child 15 = .ok (.invokevirtual 219, 3) := by decide +kernel
theorem dX8_child_18 : decode cX8_child 18 = .ok (.ifCond .ne 5, 3) := by decide +kernel
theorem dX8_child_21 : decode cX8_child 21 = .ok (.iconst (-1), 1) := by decide +kernel
theorem dX8_child_22 : decode cX8_child 22 = .ok (.ireturn, 1) := by decide +kernel
theorem dX8_child_23 : decode cX8_child 23 = .ok (.aload_n 0, 1) := by decide +kernel
theorem dX8_child_24 : decode cX8_child 24 = .ok (.getfield 74, 3) := by decide +kernel
theorem dX8_child_27 : decode cX8_child 27 = .ok (.iload_n 1, 1) := by decide +kernel
theorem dX8_child_28 : decode cX8_child 28 = .ok (.aload_n 0, 1) := by decide +kernel
theorem dX8_child_29 : decode cX8_child 29 = .ok (.getfield 31, 3) := by decide +kernel
theorem dX8_child_32 : decode cX8_child 32 = .ok (.invokevirtual 222, 3) := by decide +kernel
theorem dX8_child_35 : decode cX8_child 35 = .ok (.aload_n 0, 1) := by decide +kernel
theorem dX8_child_36 : decode cX8_child 36 = .ok (.getfield 74, 3) := by decide +kernel
theorem dX8_child_39 : decode cX8_child 39 = .ok (.aload_n 0, 1) := by decide +kernel
theorem dX8_child_40 : decode cX8_child 40 = .ok (.getfield 31, 3) := by decide +kernel
theorem dX8_child_43 : decode cX8_child 43 = .ok (.invokevirtual 226, 3) := by decide +kernel
theorem dX8_child_46 : decode cX8_child 46 = .ok (.ifCond .eq 8, 3) := by decide +kernel
theorem dX8_child_49 : decode cX8_child 49 = .ok (.bipush (-2), 2) := by decide +kernel
theorem dX8_child_51 : decode cX8_child 51 = .ok (.goto 12, 3) := by decide +kernel
theorem dX8_child_54 : decode cX8_child 54 = .ok (.aload_n 0, 1) := by decide +kernel
theorem dX8_child_55 : decode cX8_child 55 = .ok (.getfield 74, 3) := by decide +kernel
theorem dX8_child_58 : decode cX8_child 58 = .ok (.getfield 230, 3) := by decide +kernel
theorem dX8_child_61 : decode cX8_child 61 = .ok (.iload_n 2, 1) := by decide +kernel
theorem dX8_child_62 : decode cX8_child 62 = .ok (.iaload, 1) := by decide +kernel
theorem dX8_child_63 : decode cX8_child 63 = .ok (.ireturn, 1) := by decide +kernel
theorem dX8_falls_0 : decode cX8_falls 0 = .ok (.aload_n 0, 1) := by decide +kernel
theorem dX8_falls_1 : decode cX8_falls 1 = .ok (.getfield 31, 3) := by decide +kernel
theorem dX8_falls_4 : decode cX8_falls 4 = .ok (.iload_n 1, 1) := by decide +kernel
theorem dX8_falls_5 : decode cX8_falls 5 = .ok (.invokevirtual 219, 3) := by decide +kernel
theorem dX8_falls_8 : decode cX8_falls 8 = .ok (.ifCond .eq 12, 3) := by decide +kernel
theorem dX8_falls_11 : decode cX8_falls 11 = .ok (.iload_n 2, 1) := by decide +kernel
theorem dX8_falls_12 : decode cX8_falls 12 = .ok (.iconst 0, 1) := by decide +kernel
theorem dX8_falls_13 : decode cX8_falls 13 = .ok (.iconst 1, 1) := by decide +kernel
theorem dX8_falls_14 : decode cX8_falls 14 = .ok (.invokestatic 88, 3) := by decide +kernel
theorem dX8_falls_17 : decode cX8_falls 17 = .ok (.ifCond .ne 5, 3) := by decide +kernel
theorem dX8_falls_20 : decode cX8_falls 20 = .ok (.iconst (-1), 1) := by decide +kernel
theorem dX8_falls_21 : decode cX8_falls 21 = .ok (.ireturn, 1) := by decide +kernel
theorem dX8_falls_22 : decode cX8_falls 22 = .ok (.aload_n 0, 1) := by decide +kernel
theorem dX8_falls_23 : decode cX8_falls 23 = .ok (.getfield 38, 3) := by decide +kernel
theorem dX8_falls_26 : decode cX8_falls 26 = .ok (.aload_n 0, 1) := by decide +kernel
theorem dX8_falls_27 : decode cX8_falls 27 = .ok (.getfield 31, 3) := by decide +kernel
theorem dX8_falls_30 : decode cX8_falls 30 = .ok (.invokevirtual 174, 3) := by decide +kernel
theorem dX8_falls_33 : decode cX8_falls 33 = .ok (.aload_n 0, 1) := by decide +kernel
theorem dX8_falls_34 : decode cX8_falls 34 = .ok (.getfield 38, 3) := by decide +kernel
theorem dX8_falls_37 : decode cX8_falls 37 = .ok (.sipush 300, 3) := by decide +kernel
theorem dX8_falls_40 : decode cX8_falls 40 = .ok (.invokevirtual 177, 3) := by decide +kernel
theorem dX8_falls_43 : decode cX8_falls 43 = .ok (.aload_n 0, 1) := by decide +kernel
theorem dX8_falls_44 : decode cX8_falls 44 = .ok (.getfield 42, 3) := by decide +kernel
theorem dX8_falls_47 : decode cX8_falls 47 = .ok (.iload_n 1, 1) := by decide +kernel
theorem dX8_falls_48 : decode cX8_falls 48 = .ok (.aload_n 0, 1) := by decide +kernel
theorem dX8_falls_49 : decode cX8_falls 49 = .ok (.getfield 31, 3) := by decide +kernel
theorem dX8_falls_52 : decode cX8_falls 52 = .ok (.invokevirtual 233, 3) := by decide +kernel
theorem dX8_falls_55 : decode cX8_falls 55 = .ok (.aload_n 0, 1) := by decide +kernel
theorem dX8_falls_56 : decode cX8_falls 56 = .ok (.getfield 42, 3) := by decide +kernel
theorem dX8_falls_59 : decode cX8_falls 59 = .ok (.sipush 300, 3) := by decide +kernel
theorem dX8_falls_62 : decode cX8_falls 62 = .ok (.invokevirtual 177, 3) := by decide +kernel
theorem dX8_falls_65 : decode cX8_falls 65 = .ok (.iload_n 2, 1) := by decide +kernel
theorem dX8_falls_66 : decode cX8_falls 66 = .ok (.ifCond .ne 17, 3) := by decide +kernel
theorem dX8_falls_69 : decode cX8_falls 69 = .ok (.aload_n 0, 1) := by decide +kernel
theorem dX8_falls_70 : decode cX8_falls 70 = .ok (.getfield 42, 3) := by decide +kernel
theorem dX8_falls_73 : decode cX8_falls 73 = .ok (.aload_n 0, 1) := by decide +kernel
theorem dX8_falls_74 : decode cX8_falls 74 = .ok (.getfield 38, 3) := by decide +kernel
theorem dX8_falls_77 : decode cX8_falls 77 = .ok (.invokevirtual 236, 3) := by decide +kernel
theorem dX8_falls_80 : decode cX8_falls 80 = .ok (.goto 15, 3) := by decide +kernel
theorem dX8_falls_83 : decode cX8_falls 83 = .ok (.aload_n 0, 1) := by decide +kernel
theorem dX8_falls_84 : decode cX8_falls 84 = .ok (.getfield 42, 3) := by decide +kernel
theorem dX8_falls_87 : decode cX8_falls 87 = .ok (.aload_n 0, 1) := by decide +kernel
theorem dX8_falls_88 : decode cX8_falls 88 = .ok (.getfield 38, 3) := by decide +kernel
theorem dX8_falls_91 : decode cX8_falls 91 = .ok (.iload_n 1, 1) := by decide +kernel
theorem dX8_falls_92 : decode cX8_falls 92 = .ok (.invokevirtual 240, 3) := by decide +kernel
theorem dX8_falls_95 : decode cX8_falls 95 = .ok (.ireturn, 1) := by decide +kernel
theorem dX8_burned_0 : decode cX8_burned 0 = .ok (.iload_n 1, 1) := by decide +kernel
theorem dX8_burned_1 : decode cX8_burned 1 = .ok (.iconst 2, 1) := by decide +kernel
theorem dX8_burned_2 : decode cX8_burned 2 = .ok (.iconst 4, 1) := by decide +kernel
theorem dX8_burned_3 : decode cX8_burned 3 = .ok (.invokestatic 88, 3) := by decide +kernel
theorem dX8_burned_6 : decode cX8_burned 6 = .ok (.ifCond .eq 36, 3) := by decide +kernel
theorem dX8_burned_9 : decode cX8_burned 9 = .ok (.iload_n 2, 1) := by decide +kernel
theorem dX8_burned_10 : decode cX8_burned 10 = .ok (.iconst 1, 1) := by decide +kernel
theorem dX8_burned_11 : decode cX8_burned 11 = .ok (.bipush 12, 2) := by decide +kernel
theorem dX8_burned_13 : decode cX8_burned 13 = .ok (.invokestatic 88, 3) := by decide +kernel
theorem dX8_burned_16 : decode cX8_burned 16 = .ok (.ifCond .eq 26, 3) := by decide +kernel
theorem dX8_burned_19 : decode cX8_burned 19 = .ok (.iload_n 3, 1) := by decide +kernel
theorem dX8_burned_20 : decode cX8_burned 20 = .ok (.iconst 0, 1) := by decide +kernel
theorem dX8_burned_21 : decode cX8_burned 21 = .ok (.sipush 999, 3) := by decide +kernel
theorem dX8_burned_24 : decode cX8_burned 24 = .ok (.invokestatic 88, 3) := by decide +kernel
theorem dX8_burned_27 : decode cX8_burned 27 = .ok (.ifCond .eq 15, 3) := by decide +kernel
theorem dX8_burned_30 : decode cX8_burned 30 = .ok (.iload 4, 2) := by decide +kernel
theorem dX8_burned_32 : decode cX8_burned 32 = .ok (.iconst (-1), 1) := by decide +kernel
theorem dX8_burned_33 : decode cX8_burned 33 = .ok (.iload_n 1, 1) := by decide +kernel
theorem dX8_burned_34 : decode cX8_burned 34 = .ok (.iconst 1, 1) := by decide +kernel
theorem dX8_burned_35 : decode cX8_burned 35 = .ok (.isub, 1) := by decide +kernel
theorem dX8_burned_36 : decode cX8_burned 36 = .ok (.invokestatic 88, 3) := by decide +kernel
theorem dX8_burned_39 : decode cX8_burned 39 = .ok (.ifCond .ne 5, 3) := by decide +kernel
theorem dX8_burned_42 : decode cX8_burned 42 = .ok (.iconst (-1), 1) := by decide +kernel
theorem dX8_burned_43 : decode cX8_burned 43 = .ok (.ireturn, 1) := by decide +kernel
theorem dX8_burned_44 : decode cX8_burned 44 = .ok (.iload_n 1, 1) := by decide +kernel
theorem dX8_burned_45 : decode cX8_burned 45 = .ok (.iconst 1, 1) := by decide +kernel
theorem dX8_burned_46 : decode cX8_burned 46 = .ok (.iload_n 2, 1) := by decide +kernel
theorem dX8_burned_47 : decode cX8_burned 47 = .ok (.iload_n 3, 1) := by decide +kernel
theorem dX8_burned_48 : decode cX8_burned 48 = .ok (.invokestatic 244, 3) := by decide +kernel
theorem dX8_burned_51 : decode cX8_burned 51 = .ok (.istore 5, 2) := by decide +kernel
theorem dX8_burned_53 : decode cX8_burned 53 = .ok (.iload 4, 2) := by decide +kernel
theorem dX8_burned_55 : decode cX8_burned 55 = .ok (.iconst (-1), 1) := by decide +kernel
theorem dX8_burned_56 : decode cX8_burned 56 = .ok (.if_icmp .ne 6, 3) := by decide +kernel
theorem dX8_burned_59 : decode cX8_burned 59 = .ok (.iload 5, 2) := by decide +kernel
theorem dX8_burned_61 : decode cX8_burned 61 = .ok (.ireturn, 1) := by decide +kernel
theorem dX8_burned_62 : decode cX8_burned 62 = .ok (.iload 5, 2) := by decide +kernel
theorem dX8_burned_64 : decode cX8_burned 64 = .ok (.ifCond .ne 8, 3) := by decide +kernel
theorem dX8_burned_67 : decode cX8_burned 67 = .ok (.bipush (-4), 2) := by decide +kernel
theorem dX8_burned_69 : decode cX8_burned 69 = .ok (.goto 11, 3) := by decide +kernel
theorem dX8_burned_72 : decode cX8_burned 72 = .ok (.iload_n 1, 1) := by decide +kernel
theorem dX8_burned_73 : decode cX8_burned 73 = .ok (.iload_n 2, 1) := by decide +kernel
theorem dX8_burned_74 : decode cX8_burned 74 = .ok (.iload_n 3, 1) := by decide +kernel
theorem dX8_burned_75 : decode cX8_burned 75 = .ok (.iload 4, 2) := by decide +kernel
theorem dX8_burned_77 : decode cX8_burned 77 = .ok (.invokestatic 247, 3) := by decide +kernel
theorem dX8_burned_80 : decode cX8_burned 80 = .ok (.ireturn, 1) := by decide +kernel
theorem dX8_drawn_0 : decode cX8_drawn 0 = .ok (.iload_n 1, 1) := by decide +kernel
theorem dX8_drawn_1 : decode cX8_drawn 1 = .ok (.iconst 0, 1) := by decide +kernel
theorem dX8_drawn_2 : decode cX8_drawn 2 = .ok (.sipush 9999, 3) := by decide +kernel
theorem dX8_drawn_5 : decode cX8_drawn 5 = .ok (.invokestatic 88, 3) := by decide +kernel
theorem dX8_drawn_8 : decode cX8_drawn 8 = .ok (.ifCond .eq 22, 3) := by decide +kernel
theorem dX8_drawn_11 : decode cX8_drawn 11 = .ok (.iload_n 2, 1) := by decide +kernel
theorem dX8_drawn_12 : decode cX8_drawn 12 = .ok (.iconst 1, 1) := by decide +kernel
theorem dX8_drawn_13 : decode cX8_drawn 13 = .ok (.bipush 60, 2) := by decide +kernel
theorem dX8_drawn_15 : decode cX8_drawn 15 = .ok (.invokestatic 88, 3) := by decide +kernel
theorem dX8_drawn_18 : decode cX8_drawn 18 = .ok (.ifCond .eq 12, 3) := by decide +kernel
theorem dX8_drawn_21 : decode cX8_drawn 21 = .ok (.iload_n 3, 1) := by decide +kernel
theorem dX8_drawn_22 : decode cX8_drawn 22 = .ok (.iconst 0, 1) := by decide +kernel
theorem dX8_drawn_23 : decode cX8_drawn 23 = .ok (.iconst 1, 1) := by decide +kernel
theorem dX8_drawn_24 : decode cX8_drawn 24 = .ok (.invokestatic 88, 3) := by decide +kernel
theorem dX8_drawn_27 : decode cX8_drawn 27 = .ok (.ifCond .ne 5, 3) := by decide +kernel
theorem dX8_drawn_30 : decode cX8_drawn 30 = .ok (.iconst (-1), 1) := by decide +kernel
theorem dX8_drawn_31 : decode cX8_drawn 31 = .ok (.ireturn, 1) := by decide +kernel
theorem dX8_drawn_32 : decode cX8_drawn 32 = .ok (.aload_n 0, 1) := by decide +kernel
theorem dX8_drawn_33 : decode cX8_drawn 33 = .ok (.getfield 38, 3) := by decide +kernel
theorem dX8_drawn_36 : decode cX8_drawn 36 = .ok (.aload_n 0, 1) := by decide +kernel
theorem dX8_drawn_37 : decode cX8_drawn 37 = .ok (.getfield 31, 3) := by decide +kernel
theorem dX8_drawn_40 : decode cX8_drawn 40 = .ok (.invokevirtual 174, 3) := by decide +kernel
theorem dX8_drawn_43 : decode cX8_drawn 43 = .ok (.iconst 0, 1) := by decide +kernel
theorem dX8_drawn_44 : decode cX8_drawn 44 = .ok (.istore 4, 2) := by decide +kernel
theorem dX8_drawn_46 : decode cX8_drawn 46 = .ok (.iload 4, 2) := by decide +kernel
theorem dX8_drawn_48 : decode cX8_drawn 48 = .ok (.iload_n 2, 1) := by decide +kernel
theorem dX8_drawn_49 : decode cX8_drawn 49 = .ok (.if_icmp .ge 31, 3) := by decide +kernel
theorem dX8_drawn_52 : decode cX8_drawn 52 = .ok (.aload_n 0, 1) := by decide +kernel
theorem dX8_drawn_53 : decode cX8_drawn 53 = .ok (.aload_n 0, 1) := by decide +kernel
theorem dX8_drawn_54 : decode cX8_drawn 54 = .ok (.getfield 38, 3) := by decide +kernel
theorem dX8_drawn_57 : decode cX8_drawn 57 = .ok (.getfield 184, 3) := by decide +kernel
theorem dX8_drawn_60 : decode cX8_drawn 60 = .ok (.iload_n 1, 1) := by decide +kernel
theorem dX8_drawn_61 : decode cX8_drawn 61 = .ok (.iload 4, 2) := by decide +kernel
theorem dX8_drawn_63 : decode cX8_drawn 63 = .ok (.invokevirtual 250, 3) := by decide +kernel
theorem dX8_drawn_66 : decode cX8_drawn 66 = .ok (.aload_n 0, 1) := by decide +kernel
theorem dX8_drawn_67 : decode cX8_drawn 67 = .ok (.getfield 38, 3) := by decide +kernel
theorem dX8_drawn_70 : decode cX8_drawn 70 = .ok (.iconst 1, 1) := by decide +kernel
theorem dX8_drawn_71 : decode cX8_drawn 71 = .ok (.invokevirtual 177, 3) := by decide +kernel
theorem dX8_drawn_74 : decode cX8_drawn 74 = .ok (.iinc 4 1, 3) := by decide +kernel
theorem dX8_drawn_77 : decode cX8_drawn 77 = .ok (.goto (-31), 3) := by decide +kernel
theorem dX8_drawn_80 : decode cX8_drawn 80 = .ok (.iload_n 3, 1) := by decide +kernel
theorem dX8_drawn_81 : decode cX8_drawn 81 = .ok (.ifCond .ne 16, 3) := by decide +kernel
theorem dX8_drawn_84 : decode cX8_drawn 84 = .ok (.aload_n 0, 1) := by decide +kernel
theorem dX8_drawn_85 : decode cX8_drawn 85 = .ok (.getfield 38, 3) := by decide +kernel
theorem dX8_drawn_88 : decode cX8_drawn 88 = .ok (.getfield 184, 3) := by decide +kernel
theorem dX8_drawn_91 : decode cX8_drawn 91 = .ok (.invokevirtual 166, 3) := by decide +kernel
theorem dX8_drawn_94 : decode cX8_drawn 94 = .ok (.goto 13, 3) := by decide +kernel
theorem dX8_drawn_97 : decode cX8_drawn 97 = .ok (.aload_n 0, 1) := by decide +kernel
theorem dX8_drawn_98 : decode cX8_drawn 98 = .ok (.getfield 38, 3) := by decide +kernel
theorem dX8_drawn_101 : decode cX8_drawn 101 = .ok (.getfield 184, 3) := by decide +kernel
theorem dX8_drawn_104 : decode cX8_drawn 104 = .ok (.invokevirtual 254, 3) := by decide +kernel
theorem dX8_drawn_107 : decode cX8_drawn 107 = .ok (.ireturn, 1) := by decide +kernel
theorem dX8_keep_0 : decode cX8_keep 0 = .ok (.aload_n 0, 1) := by decide +kernel
theorem dX8_keep_1 : decode cX8_keep 1 = .ok (.getfield 54, 3) := by decide +kernel
theorem dX8_keep_4 : decode cX8_keep 4 = .ok (.getfield 113, 3) := by decide +kernel
theorem dX8_keep_7 : decode cX8_keep 7 = .ok (.iconst 2, 1) := by decide +kernel
theorem dX8_keep_8 : decode cX8_keep 8 = .ok (.if_icmp .lt 6, 3) := by decide +kernel
theorem dX8_keep_11 : decode cX8_keep 11 = .ok (.bipush (-3), 2) := by decide +kernel
theorem dX8_keep_13 : decode cX8_keep 13 = .ok (.ireturn, 1) := by decide +kernel
theorem dX8_keep_14 : decode cX8_keep 14 = .ok (.aload_n 0, 1) := by decide +kernel
theorem dX8_keep_15 : decode cX8_keep 15 = .ok (.getfield 54, 3) := by decide +kernel
theorem dX8_keep_18 : decode cX8_keep 18 = .ok (.aload_n 0, 1) := by decide +kernel
theorem dX8_keep_19 : decode cX8_keep 19 = .ok (.getfield 31, 3) := by decide +kernel
theorem dX8_keep_22 : decode cX8_keep 22 = .ok (.invokevirtual 154, 3) := by decide +kernel
theorem dX8_keep_25 : decode cX8_keep 25 = .ok (.aload_n 0, 1) := by decide +kernel
theorem dX8_keep_26 : decode cX8_keep 26 = .ok (.getfield 54, 3) := by decide +kernel
theorem dX8_keep_29 : decode cX8_keep 29 = .ok (.getfield 113, 3) := by decide +kernel
theorem dX8_keep_32 : decode cX8_keep 32 = .ok (.ireturn, 1) := by decide +kernel
theorem dX8_back_0 : decode cX8_back 0 = .ok (.aload_n 0, 1) := by decide +kernel
theorem dX8_back_1 : decode cX8_back 1 = .ok (.getfield 54, 3) := by decide +kernel
theorem dX8_back_4 : decode cX8_back 4 = .ok (.aload_n 0, 1) := by decide +kernel
theorem dX8_back_5 : decode cX8_back 5 = .ok (.getfield 31, 3) := by decide +kernel
theorem dX8_back_8 : decode cX8_back 8 = .ok (.invokevirtual 170, 3) := by decide +kernel
theorem dX8_back_11 : decode cX8_back 11 = .ok (.istore_n 1, 1) := by decide +kernel
theorem dX8_back_12 : decode cX8_back 12 = .ok (.iload_n 1, 1) := by decide +kernel
theorem dX8_back_13 : decode cX8_back 13 = .ok (.bipush (-2), 2) := by decide +kernel
theorem dX8_back_15 : decode cX8_back 15 = .ok (.if_icmp .eq 11, 3) := by decide +kernel
theorem dX8_back_18 : decode cX8_back 18 = .ok (.aload_n 0, 1) := by decide +kernel
theorem dX8_back_19 : decode cX8_back 19 = .ok (.getfield 50, 3) := by decide +kernel
theorem dX8_back_22 : decode cX8_back 22 = .ok (.iconst 0, 1) := by decide +kernel
theorem dX8_back_23 : decode cX8_back 23 = .ok (.putfield 113, 3) := by decide +kernel
theorem dX8_back_26 : decode cX8_back 26 = .ok (.iload_n 1, 1) := by decide +kernel
theorem dX8_back_27 : decode cX8_back 27 = .ok (.ireturn, 1) := by decide +kernel
theorem dX8_count_0 : decode cX8_count 0 = .ok (.iload_n 1, 1) := by decide +kernel
theorem dX8_count_1 : decode cX8_count 1 = .ok (.tableswitch 99 0 6 #[43, 51, 59, 67, 75, 83, 91], 43) := by decide +kernel
theorem dX8_count_44 : decode cX8_count 44 = .ok (.aload_n 0, 1) := by decide +kernel
theorem dX8_count_45 : decode cX8_count 45 = .ok (.getfield 19, 3) := by decide +kernel
theorem dX8_count_48 : decode cX8_count 48 = .ok (.getfield 104, 3) := by decide +kernel
theorem dX8_count_51 : decode cX8_count 51 = .ok (.ireturn, 1) := by decide +kernel
theorem dX8_count_52 : decode cX8_count 52 = .ok (.aload_n 0, 1) := by decide +kernel
theorem dX8_count_53 : decode cX8_count 53 = .ok (.getfield 31, 3) := by decide +kernel
theorem dX8_count_56 : decode cX8_count 56 = .ok (.getfield 128, 3) := by decide +kernel
theorem dX8_count_59 : decode cX8_count 59 = .ok (.ireturn, 1) := by decide +kernel
theorem dX8_count_60 : decode cX8_count 60 = .ok (.aload_n 0, 1) := by decide +kernel
theorem dX8_count_61 : decode cX8_count 61 = .ok (.getfield 60, 3) := by decide +kernel
theorem dX8_count_64 : decode cX8_count 64 = .ok (.getfield 110, 3) := by decide +kernel
theorem dX8_count_67 : decode cX8_count 67 = .ok (.ireturn, 1) := by decide +kernel
theorem dX8_count_68 : decode cX8_count 68 = .ok (.aload_n 0, 1) := by decide +kernel
theorem dX8_count_69 : decode cX8_count 69 = .ok (.getfield 50, 3) := by decide +kernel
theorem dX8_count_72 : decode cX8_count 72 = .ok (.getfield 113, 3) := by decide +kernel
theorem dX8_count_75 : decode cX8_count 75 = .ok (.ireturn, 1) := by decide +kernel
theorem dX8_count_76 : decode cX8_count 76 = .ok (.aload_n 0, 1) := by decide +kernel
theorem dX8_count_77 : decode cX8_count 77 = .ok (.getfield 54, 3) := by decide +kernel
theorem dX8_count_80 : decode cX8_count 80 = .ok (.getfield 113, 3) := by decide +kernel
theorem dX8_count_83 : decode cX8_count 83 = .ok (.ireturn, 1) := by decide +kernel
theorem dX8_count_84 : decode cX8_count 84 = .ok (.aload_n 0, 1) := by decide +kernel
theorem dX8_count_85 : decode cX8_count 85 = .ok (.getfield 10, 3) := by decide +kernel
theorem dX8_count_88 : decode cX8_count 88 = .ok (.getfield 92, 3) := by decide +kernel
theorem dX8_count_91 : decode cX8_count 91 = .ok (.ireturn, 1) := by decide +kernel
theorem dX8_count_92 : decode cX8_count 92 = .ok (.aload_n 0, 1) := by decide +kernel
theorem dX8_count_93 : decode cX8_count 93 = .ok (.getfield 31, 3) := by decide +kernel
theorem dX8_count_96 : decode cX8_count 96 = .ok (.getfield 257, 3) := by decide +kernel
theorem dX8_count_99 : decode cX8_count 99 = .ok (.ireturn, 1) := by decide +kernel
theorem dX8_count_100 : decode cX8_count 100 = .ok (.iconst (-1), 1) := by decide +kernel
theorem dX8_count_101 : decode cX8_count 101 = .ok (.ireturn, 1) := by decide +kernel
theorem dX8_isPerson_0 : decode cX8_isPerson 0 = .ok (.iload_n 1, 1) := by decide +kernel
theorem dX8_isPerson_1 : decode cX8_isPerson 1 = .ok (.iconst 0, 1) := by decide +kernel
theorem dX8_isPerson_2 : decode cX8_isPerson 2 = .ok (.aload_n 0, 1) := by decide +kernel
theorem dX8_isPerson_3 : decode cX8_isPerson 3 = .ok (.getfield 19, 3) := by decide +kernel
theorem dX8_isPerson_6 : decode cX8_isPerson 6 = .ok (.getfield 104, 3) := by decide +kernel
theorem dX8_isPerson_9 : decode cX8_isPerson 9 = .ok (.iconst 1, 1) := by decide +kernel
theorem dX8_isPerson_10 : decode cX8_isPerson 10 = .ok (.isub, 1) := by decide +kernel
theorem dX8_isPerson_11 : decode cX8_isPerson 11 = .ok (.invokestatic 88, 3) := by decide +kernel
theorem dX8_isPerson_14 : decode cX8_isPerson 14 = .ok (.ireturn, 1) := by decide +kernel
theorem dX8_within_0 : decode cX8_within 0 = .ok (.iload_n 0, 1) := by decide +kernel
theorem dX8_within_1 : decode cX8_within 1 = .ok (.iload_n 1, 1) := by decide +kernel
theorem dX8_within_2 : decode cX8_within 2 = .ok (.if_icmp .lt 12, 3) := by decide +kernel
theorem dX8_within_5 : decode cX8_within 5 = .ok (.iload_n 0, 1) := by decide +kernel
theorem dX8_within_6 : decode cX8_within 6 = .ok (.iload_n 2, 1) := by decide +kernel
theorem dX8_within_7 : decode cX8_within 7 = .ok (.if_icmp .gt 7, 3) := by decide +kernel
theorem dX8_within_10 : decode cX8_within 10 = .ok (.iconst 1, 1) := by decide +kernel
theorem dX8_within_11 : decode cX8_within 11 = .ok (.goto 4, 3) := by decide +kernel
theorem dX8_within_14 : decode cX8_within 14 = .ok (.iconst 0, 1) := by decide +kernel
theorem dX8_within_15 : decode cX8_within 15 = .ok (.ireturn, 1) := by decide +kernel
theorem dX8_isLoanOf_0 : decode cX8_isLoanOf 0 = .ok (.iload_n 0, 1) := by decide +kernel
theorem dX8_isLoanOf_1 : decode cX8_isLoanOf 1 = .ok (.iconst 1, 1) := by decide +kernel
theorem dX8_isLoanOf_2 : decode cX8_isLoanOf 2 = .ok (.sipush 200, 3) := by decide +kernel
theorem dX8_isLoanOf_5 : decode cX8_isLoanOf 5 = .ok (.invokestatic 88, 3) := by decide +kernel
theorem dX8_isLoanOf_8 : decode cX8_isLoanOf 8 = .ok (.ifCond .eq 18, 3) := by decide +kernel
theorem dX8_isLoanOf_11 : decode cX8_isLoanOf 11 = .ok (.iload_n 1, 1) := by decide +kernel
theorem dX8_isLoanOf_12 : decode cX8_isLoanOf 12 = .ok (.iconst 1, 1) := by decide +kernel
theorem dX8_isLoanOf_13 : decode cX8_isLoanOf 13 = .ok (.sipush 200, 3) := by decide +kernel
theorem dX8_isLoanOf_16 : decode cX8_isLoanOf 16 = .ok (.invokestatic 88, 3) := by decide +kernel
theorem dX8_isLoanOf_19 : decode cX8_isLoanOf 19 = .ok (.ifCond .eq 7, 3) := by decide +kernel
theorem dX8_isLoanOf_22 : decode cX8_isLoanOf 22 = .ok (.iconst 1, 1) := by decide +kernel
theorem dX8_isLoanOf_23 : decode cX8_isLoanOf 23 = .ok (.goto 4, 3) := by decide +kernel
theorem dX8_isLoanOf_26 : decode cX8_isLoanOf 26 = .ok (.iconst 0, 1) := by decide +kernel
theorem dX8_isLoanOf_27 : decode cX8_isLoanOf 27 = .ok (.ireturn, 1) := by decide +kernel
theorem dX8_rowsOf_0 : decode cX8_rowsOf 0 = .ok (.iload_n 0, 1) := by decide +kernel
theorem dX8_rowsOf_1 : decode cX8_rowsOf 1 = .ok (.ifCond .le 8, 3) := by decide +kernel
theorem dX8_rowsOf_4 : decode cX8_rowsOf 4 = .ok (.iload_n 0, 1) := by decide +kernel
theorem dX8_rowsOf_5 : decode cX8_rowsOf 5 = .ok (.iconst 4, 1) := by decide +kernel
theorem dX8_rowsOf_6 : decode cX8_rowsOf 6 = .ok (.if_icmp .le 13, 3) := by decide +kernel
theorem dX8_rowsOf_9 : decode cX8_rowsOf 9 = .ok (.iload_n 3, 1) := by decide +kernel
theorem dX8_rowsOf_10 : decode cX8_rowsOf 10 = .ok (.ifCond .ne 7, 3) := by decide +kernel
theorem dX8_rowsOf_13 : decode cX8_rowsOf 13 = .ok (.iconst 1, 1) := by decide +kernel
theorem dX8_rowsOf_14 : decode cX8_rowsOf 14 = .ok (.goto 4, 3) := by decide +kernel
theorem dX8_rowsOf_17 : decode cX8_rowsOf 17 = .ok (.iconst 0, 1) := by decide +kernel
theorem dX8_rowsOf_18 : decode cX8_rowsOf 18 = .ok (.ireturn, 1) := by decide +kernel
theorem dX8_rowsOf_19 : decode cX8_rowsOf 19 = .ok (.iload_n 3, 1) := by decide +kernel
theorem dX8_rowsOf_20 : decode cX8_rowsOf 20 = .ok (.iload_n 0, 1) := by decide +kernel
theorem dX8_rowsOf_21 : decode cX8_rowsOf 21 = .ok (.iload_n 2, 1) := by decide +kernel
theorem dX8_rowsOf_22 : decode cX8_rowsOf 22 = .ok (.imul, 1) := by decide +kernel
theorem dX8_rowsOf_23 : decode cX8_rowsOf 23 = .ok (.if_icmp .le 5, 3) := by decide +kernel
theorem dX8_rowsOf_26 : decode cX8_rowsOf 26 = .ok (.iconst 0, 1) := by decide +kernel
theorem dX8_rowsOf_27 : decode cX8_rowsOf 27 = .ok (.ireturn, 1) := by decide +kernel
theorem dX8_rowsOf_28 : decode cX8_rowsOf 28 = .ok (.iconst 0, 1) := by decide +kernel
theorem dX8_rowsOf_29 : decode cX8_rowsOf 29 = .ok (.istore 4, 2) := by decide +kernel
theorem dX8_rowsOf_31 : decode cX8_rowsOf 31 = .ok (.iload_n 1, 1) := by decide +kernel
theorem dX8_rowsOf_32 : decode cX8_rowsOf 32 = .ok (.istore 5, 2) := by decide +kernel
theorem dX8_rowsOf_34 : decode cX8_rowsOf 34 = .ok (.iload 5, 2) := by decide +kernel
theorem dX8_rowsOf_36 : decode cX8_rowsOf 36 = .ok (.iload_n 2, 1) := by decide +kernel
theorem dX8_rowsOf_37 : decode cX8_rowsOf 37 = .ok (.if_icmp .gt 35, 3) := by decide +kernel
theorem dX8_rowsOf_40 : decode cX8_rowsOf 40 = .ok (.iload 5, 2) := by decide +kernel
theorem dX8_rowsOf_42 : decode cX8_rowsOf 42 = .ok (.iload_n 0, 1) := by decide +kernel
theorem dX8_rowsOf_43 : decode cX8_rowsOf 43 = .ok (.imul, 1) := by decide +kernel
theorem dX8_rowsOf_44 : decode cX8_rowsOf 44 = .ok (.iload_n 3, 1) := by decide +kernel
theorem dX8_rowsOf_45 : decode cX8_rowsOf 45 = .ok (.if_icmp .gt 27, 3) := by decide +kernel
theorem dX8_rowsOf_48 : decode cX8_rowsOf 48 = .ok (.iload 4, 2) := by decide +kernel
theorem dX8_rowsOf_50 : decode cX8_rowsOf 50 = .ok (.iload_n 0, 1) := by decide +kernel
theorem dX8_rowsOf_51 : decode cX8_rowsOf 51 = .ok (.iconst 1, 1) := by decide +kernel
theorem dX8_rowsOf_52 : decode cX8_rowsOf 52 = .ok (.isub, 1) := by decide +kernel
theorem dX8_rowsOf_53 : decode cX8_rowsOf 53 = .ok (.iload 5, 2) := by decide +kernel
theorem dX8_rowsOf_55 : decode cX8_rowsOf 55 = .ok (.iload_n 2, 1) := by decide +kernel
theorem dX8_rowsOf_56 : decode cX8_rowsOf 56 = .ok (.iload_n 3, 1) := by decide +kernel
theorem dX8_rowsOf_57 : decode cX8_rowsOf 57 = .ok (.iload 5, 2) := by decide +kernel
theorem dX8_rowsOf_59 : decode cX8_rowsOf 59 = .ok (.isub, 1) := by decide +kernel
theorem dX8_rowsOf_60 : decode cX8_rowsOf 60 = .ok (.invokestatic 244, 3) := by decide +kernel
theorem dX8_rowsOf_63 : decode cX8_rowsOf 63 = .ok (.iadd, 1) := by decide +kernel
theorem dX8_rowsOf_64 : decode cX8_rowsOf 64 = .ok (.istore 4, 2) := by decide +kernel
theorem dX8_rowsOf_66 : decode cX8_rowsOf 66 = .ok (.iinc 5 1, 3) := by decide +kernel
theorem dX8_rowsOf_69 : decode cX8_rowsOf 69 = .ok (.goto (-35), 3) := by decide +kernel
theorem dX8_rowsOf_72 : decode cX8_rowsOf 72 = .ok (.iload 4, 2) := by decide +kernel
theorem dX8_rowsOf_74 : decode cX8_rowsOf 74 = .ok (.ireturn, 1) := by decide +kernel
theorem dX8_numberOfFirstRow_0 : decode cX8_numberOfFirstRow 0 = .ok (.iconst 1, 1) := by decide +kernel
theorem dX8_numberOfFirstRow_1 : decode cX8_numberOfFirstRow 1 = .ok (.istore 4, 2) := by decide +kernel
theorem dX8_numberOfFirstRow_3 : decode cX8_numberOfFirstRow 3 = .ok (.iload_n 2, 1) := by decide +kernel
theorem dX8_numberOfFirstRow_4 : decode cX8_numberOfFirstRow 4 = .ok (.istore 5, 2) := by decide +kernel
theorem dX8_numberOfFirstRow_6 : decode cX8_numberOfFirstRow 6 = .ok (.iconst 0, 1) := by decide +kernel
theorem dX8_numberOfFirstRow_7 : decode cX8_numberOfFirstRow 7 = .ok (.istore 6, 2) := by decide +kernel
theorem dX8_numberOfFirstRow_9 : decode cX8_numberOfFirstRow 9 = .ok (.iload 6, 2) := by decide +kernel
theorem dX8_numberOfFirstRow_11 : decode cX8_numberOfFirstRow 11 = .ok (.iload_n 3, 1) := by decide +kernel
theorem dX8_numberOfFirstRow_12 : decode cX8_numberOfFirstRow 12 = .ok (.if_icmp .gt 48, 3) := by decide +kernel
theorem dX8_numberOfFirstRow_15 : decode cX8_numberOfFirstRow 15 = .ok (.iload 4, 2) := by decide +kernel
theorem dX8_numberOfFirstRow_17 : decode cX8_numberOfFirstRow 17 = .ok (.iload_n 1, 1) := by decide +kernel
theorem dX8_numberOfFirstRow_18 : decode cX8_numberOfFirstRow 18 = .ok (.if_icmp .ge 29, 3) := by decide +kernel
theorem dX8_numberOfFirstRow_21 : decode cX8_numberOfFirstRow 21 = .ok (.iload_n 0, 1) := by decide +kernel
theorem dX8_numberOfFirstRow_22 : decode cX8_numberOfFirstRow 22 = .ok (.iload 6, 2) := by decide +kernel
theorem dX8_numberOfFirstRow_24 : decode cX8_numberOfFirstRow 24 = .ok (.isub, 1) := by decide +kernel
theorem dX8_numberOfFirstRow_25 : decode cX8_numberOfFirstRow 25 = .ok (.iconst 1, 1) := by decide +kernel
theorem dX8_numberOfFirstRow_26 : decode cX8_numberOfFirstRow 26 = .ok (.isub, 1) := by decide +kernel
theorem dX8_numberOfFirstRow_27 : decode cX8_numberOfFirstRow 27 = .ok (.iload 4, 2) := by decide +kernel
theorem dX8_numberOfFirstRow_29 : decode cX8_numberOfFirstRow 29 = .ok (.iload_n 1, 1) := by decide +kernel
theorem dX8_numberOfFirstRow_30 : decode cX8_numberOfFirstRow 30 = .ok (.iload 5, 2) := by decide +kernel
theorem dX8_numberOfFirstRow_32 : decode cX8_numberOfFirstRow 32 = .ok (.iload 4, 2) := by decide +kernel
theorem dX8_numberOfFirstRow_34 : decode cX8_numberOfFirstRow 34 = .ok (.isub, 1) := by decide +kernel
theorem dX8_numberOfFirstRow_35 : decode cX8_numberOfFirstRow 35 = .ok (.invokestatic 244, 3) := by decide +kernel
theorem dX8_numberOfFirstRow_38 : decode cX8_numberOfFirstRow 38 = .ok (.ifCond .ne 9, 3) := by decide +kernel
theorem dX8_numberOfFirstRow_41 : decode cX8_numberOfFirstRow 41 = .ok (.iinc 4 1, 3) := by decide +kernel
theorem dX8_numberOfFirstRow_44 : decode cX8_numberOfFirstRow 44 = .ok (.goto (-29), 3) := by decide +kernel
theorem dX8_numberOfFirstRow_47 : decode cX8_numberOfFirstRow 47 = .ok (.iload 5, 2) := by decide +kernel
theorem dX8_numberOfFirstRow_49 : decode cX8_numberOfFirstRow 49 = .ok (.iload 4, 2) := by decide +kernel
theorem dX8_numberOfFirstRow_51 : decode cX8_numberOfFirstRow 51 = .ok (.isub, 1) := by decide +kernel
theorem dX8_numberOfFirstRow_52 : decode cX8_numberOfFirstRow 52 = .ok (.istore 5, 2) := by decide +kernel
theorem dX8_numberOfFirstRow_54 : decode cX8_numberOfFirstRow 54 = .ok (.iinc 6 1, 3) := by decide +kernel
theorem dX8_numberOfFirstRow_57 : decode cX8_numberOfFirstRow 57 = .ok (.goto (-48), 3) := by decide +kernel
theorem dX8_numberOfFirstRow_60 : decode cX8_numberOfFirstRow 60 = .ok (.iload 4, 2) := by decide +kernel
theorem dX8_numberOfFirstRow_62 : decode cX8_numberOfFirstRow 62 = .ok (.ireturn, 1) := by decide +kernel
theorem dX8_lendByDraw_0 : decode cX8_lendByDraw 0 = .ok (.aload_n 0, 1) := by decide +kernel
theorem dX8_lendByDraw_1 : decode cX8_lendByDraw 1 = .ok (.getfield 19, 3) := by decide +kernel
theorem dX8_lendByDraw_4 : decode cX8_lendByDraw 4 = .ok (.getfield 104, 3) := by decide +kernel
theorem dX8_lendByDraw_7 : decode cX8_lendByDraw 7 = .ok (.istore 4, 2) := by decide +kernel
theorem dX8_lendByDraw_9 : decode cX8_lendByDraw 9 = .ok (.iload 4, 2) := by decide +kernel
theorem dX8_lendByDraw_11 : decode cX8_lendByDraw 11 = .ok (.iconst 1, 1) := by decide +kernel
theorem dX8_lendByDraw_12 : decode cX8_lendByDraw 12 = .ok (.if_icmp .ge 4, 3) := by decide +kernel
theorem dX8_lendByDraw_15 : decode cX8_lendByDraw 15 = .ok (.return_, 1) := by decide +kernel
theorem dX8_lendByDraw_16 : decode cX8_lendByDraw 16 = .ok (.iload_n 2, 1) := by decide +kernel
theorem dX8_lendByDraw_17 : decode cX8_lendByDraw 17 = .ok (.iload_n 3, 1) := by decide +kernel
theorem dX8_lendByDraw_18 : decode cX8_lendByDraw 18 = .ok (.iconst 0, 1) := by decide +kernel
theorem dX8_lendByDraw_19 : decode cX8_lendByDraw 19 = .ok (.invokestatic 260, 3) := by decide +kernel
theorem dX8_lendByDraw_22 : decode cX8_lendByDraw 22 = .ok (.iload 4, 2) := by decide +kernel
theorem dX8_lendByDraw_24 : decode cX8_lendByDraw 24 = .ok (.irem, 1) := by decide +kernel
theorem dX8_lendByDraw_25 : decode cX8_lendByDraw 25 = .ok (.istore 5, 2) := by decide +kernel
theorem dX8_lendByDraw_27 : decode cX8_lendByDraw 27 = .ok (.iload_n 2, 1) := by decide +kernel
theorem dX8_lendByDraw_28 : decode cX8_lendByDraw 28 = .ok (.iload_n 3, 1) := by decide +kernel
theorem dX8_lendByDraw_29 : decode cX8_lendByDraw 29 = .ok (.iconst 1, 1) := by decide +kernel
theorem dX8_lendByDraw_30 : decode cX8_lendByDraw 30 = .ok (.invokestatic 260, 3) := by decide +kernel
theorem dX8_lendByDraw_33 : decode cX8_lendByDraw 33 = .ok (.iload 4, 2) := by decide +kernel
theorem dX8_lendByDraw_35 : decode cX8_lendByDraw 35 = .ok (.irem, 1) := by decide +kernel
theorem dX8_lendByDraw_36 : decode cX8_lendByDraw 36 = .ok (.istore 6, 2) := by decide +kernel
theorem dX8_lendByDraw_38 : decode cX8_lendByDraw 38 = .ok (.iconst 1, 1) := by decide +kernel
theorem dX8_lendByDraw_39 : decode cX8_lendByDraw 39 = .ok (.iload_n 2, 1) := by decide +kernel
theorem dX8_lendByDraw_40 : decode cX8_lendByDraw 40 = .ok (.iload_n 3, 1) := by decide +kernel
theorem dX8_lendByDraw_41 : decode cX8_lendByDraw 41 = .ok (.iconst 2, 1) := by decide +kernel
theorem dX8_lendByDraw_42 : decode cX8_lendByDraw 42 = .ok (.invokestatic 260, 3) := by decide +kernel
theorem dX8_lendByDraw_45 : decode cX8_lendByDraw 45 = .ok (.bipush 20, 2) := by decide +kernel
theorem dX8_lendByDraw_47 : decode cX8_lendByDraw 47 = .ok (.irem, 1) := by decide +kernel
theorem dX8_lendByDraw_48 : decode cX8_lendByDraw 48 = .ok (.iadd, 1) := by decide +kernel
theorem dX8_lendByDraw_49 : decode cX8_lendByDraw 49 = .ok (.istore 7, 2) := by decide +kernel
theorem dX8_lendByDraw_51 : decode cX8_lendByDraw 51 = .ok (.iconst 1, 1) := by decide +kernel
theorem dX8_lendByDraw_52 : decode cX8_lendByDraw 52 = .ok (.iload_n 2, 1) := by decide +kernel
theorem dX8_lendByDraw_53 : decode cX8_lendByDraw 53 = .ok (.iload_n 3, 1) := by decide +kernel
theorem dX8_lendByDraw_54 : decode cX8_lendByDraw 54 = .ok (.iconst 3, 1) := by decide +kernel
theorem dX8_lendByDraw_55 : decode cX8_lendByDraw 55 = .ok (.invokestatic 260, 3) := by decide +kernel
theorem dX8_lendByDraw_58 : decode cX8_lendByDraw 58 = .ok (.bipush 30, 2) := by decide +kernel
theorem dX8_lendByDraw_60 : decode cX8_lendByDraw 60 = .ok (.irem, 1) := by decide +kernel
theorem dX8_lendByDraw_61 : decode cX8_lendByDraw 61 = .ok (.iadd, 1) := by decide +kernel
theorem dX8_lendByDraw_62 : decode cX8_lendByDraw 62 = .ok (.istore 8, 2) := by decide +kernel
theorem dX8_lendByDraw_64 : decode cX8_lendByDraw 64 = .ok (.aload_n 1, 1) := by decide +kernel
theorem dX8_lendByDraw_65 : decode cX8_lendByDraw 65 = .ok (.iload 5, 2) := by decide +kernel
theorem dX8_lendByDraw_67 : decode cX8_lendByDraw 67 = .ok (.iload 6, 2) := by decide +kernel
theorem dX8_lendByDraw_69 : decode cX8_lendByDraw 69 = .ok (.iload 7, 2) := by decide +kernel
theorem dX8_lendByDraw_71 : decode cX8_lendByDraw 71 = .ok (.iload 8, 2) := by decide +kernel
theorem dX8_lendByDraw_73 : decode cX8_lendByDraw 73 = .ok (.invokevirtual 150, 3) := by decide +kernel
theorem dX8_lendByDraw_76 : decode cX8_lendByDraw 76 = .ok (.ifCond .ne 15, 3) := by decide +kernel
theorem dX8_lendByDraw_79 : decode cX8_lendByDraw 79 = .ok (.aload_n 1, 1) := by decide +kernel
theorem dX8_lendByDraw_80 : decode cX8_lendByDraw 80 = .ok (.iload 5, 2) := by decide +kernel
theorem dX8_lendByDraw_82 : decode cX8_lendByDraw 82 = .ok (.iload 6, 2) := by decide +kernel
theorem dX8_lendByDraw_84 : decode cX8_lendByDraw 84 = .ok (.iload 7, 2) := by decide +kernel
theorem dX8_lendByDraw_86 : decode cX8_lendByDraw 86 = .ok (.iload 8, 2) := by decide +kernel
theorem dX8_lendByDraw_88 : decode cX8_lendByDraw 88 = .ok (.invokevirtual 158, 3) := by decide +kernel
theorem dX8_lendByDraw_91 : decode cX8_lendByDraw 91 = .ok (.return_, 1) := by decide +kernel
theorem dX8_draw_0 : decode cX8_draw 0 = .ok (.ldc2_w 264, 3) := by decide +kernel
theorem dX8_draw_3 : decode cX8_draw 3 = .ok (.iload_n 0, 1) := by decide +kernel
theorem dX8_draw_4 : decode cX8_draw 4 = .ok (.i2l, 1) := by decide +kernel
theorem dX8_draw_5 : decode cX8_draw 5 = .ok (.lmul, 1) := by decide +kernel
theorem dX8_draw_6 : decode cX8_draw 6 = .ok (.ldc2_w 266, 3) := by decide +kernel
theorem dX8_draw_9 : decode cX8_draw 9 = .ok (.iload_n 1, 1) := by decide +kernel
theorem dX8_draw_10 : decode cX8_draw 10 = .ok (.i2l, 1) := by decide +kernel
theorem dX8_draw_11 : decode cX8_draw 11 = .ok (.lmul, 1) := by decide +kernel
theorem dX8_draw_12 : decode cX8_draw 12 = .ok (.ladd, 1) := by decide +kernel
theorem dX8_draw_13 : decode cX8_draw 13 = .ok (.ldc2_w 268, 3) := by decide +kernel
theorem dX8_draw_16 : decode cX8_draw 16 = .ok (.iload_n 2, 1) := by decide +kernel
theorem dX8_draw_17 : decode cX8_draw 17 = .ok (.i2l, 1) := by decide +kernel
theorem dX8_draw_18 : decode cX8_draw 18 = .ok (.lmul, 1) := by decide +kernel
theorem dX8_draw_19 : decode cX8_draw 19 = .ok (.ladd, 1) := by decide +kernel
theorem dX8_draw_20 : decode cX8_draw 20 = .ok (.lconst 1, 1) := by decide +kernel
theorem dX8_draw_21 : decode cX8_draw 21 = .ok (.ladd, 1) := by decide +kernel
theorem dX8_draw_22 : decode cX8_draw 22 = .ok (.lstore_n 3, 1) := by decide +kernel
theorem dX8_draw_23 : decode cX8_draw 23 = .ok (.lload_n 3, 1) := by decide +kernel
theorem dX8_draw_24 : decode cX8_draw 24 = .ok (.lload_n 3, 1) := by decide +kernel
theorem dX8_draw_25 : decode cX8_draw 25 = .ok (.lmul, 1) := by decide +kernel
theorem dX8_draw_26 : decode cX8_draw 26 = .ok (.ldc2_w 270, 3) := by decide +kernel
theorem dX8_draw_29 : decode cX8_draw 29 = .ok (.lrem, 1) := by decide +kernel
theorem dX8_draw_30 : decode cX8_draw 30 = .ok (.l2i, 1) := by decide +kernel
theorem dX8_draw_31 : decode cX8_draw 31 = .ok (.ireturn, 1) := by decide +kernel
theorem dX9_init_0 : decode cX9_init 0 = .ok (.aload_n 0, 1) := by decide +kernel
theorem dX9_init_1 : decode cX9_init 1 = .ok (.invokespecial 1, 3) := by decide +kernel
theorem dX9_init_4 : decode cX9_init 4 = .ok (.aload_n 0, 1) := by decide +kernel
theorem dX9_init_5 : decode cX9_init 5 = .ok (.sipush 300, 3) := by decide +kernel
theorem dX9_init_8 : decode cX9_init 8 = .ok (.newarray .int, 2) := by decide +kernel
theorem dX9_init_10 : decode cX9_init 10 = .ok (.putfield 7, 3) := by decide +kernel
theorem dX9_init_13 : decode cX9_init 13 = .ok (.aload_n 0, 1) := by decide +kernel
theorem dX9_init_14 : decode cX9_init 14 = .ok (.bipush 10, 2) := by decide +kernel
theorem dX9_init_16 : decode cX9_init 16 = .ok (.newarray .int, 2) := by decide +kernel
theorem dX9_init_18 : decode cX9_init 18 = .ok (.putfield 13, 3) := by decide +kernel
theorem dX9_init_21 : decode cX9_init 21 = .ok (.aload_n 0, 1) := by decide +kernel
theorem dX9_init_22 : decode cX9_init 22 = .ok (.bipush 6, 2) := by decide +kernel
theorem dX9_init_24 : decode cX9_init 24 = .ok (.newarray .int, 2) := by decide +kernel
theorem dX9_init_26 : decode cX9_init 26 = .ok (.putfield 16, 3) := by decide +kernel
theorem dX9_init_29 : decode cX9_init 29 = .ok (.aload_n 0, 1) := by decide +kernel
theorem dX9_init_30 : decode cX9_init 30 = .ok (.bipush 46, 2) := by decide +kernel
theorem dX9_init_32 : decode cX9_init 32 = .ok (.newarray .int, 2) := by decide +kernel
theorem dX9_init_34 : decode cX9_init 34 = .ok (.putfield 19, 3) := by decide +kernel
theorem dX9_init_37 : decode cX9_init 37 = .ok (.aload_n 0, 1) := by decide +kernel
theorem dX9_init_38 : decode cX9_init 38 = .ok (.bipush 46, 2) := by decide +kernel
theorem dX9_init_40 : decode cX9_init 40 = .ok (.newarray .int, 2) := by decide +kernel
theorem dX9_init_42 : decode cX9_init 42 = .ok (.putfield 22, 3) := by decide +kernel
theorem dX9_init_45 : decode cX9_init 45 = .ok (.aload_n 0, 1) := by decide +kernel
theorem dX9_init_46 : decode cX9_init 46 = .ok (.sipush 276, 3) := by decide +kernel
theorem dX9_init_49 : decode cX9_init 49 = .ok (.newarray .int, 2) := by decide +kernel
theorem dX9_init_51 : decode cX9_init 51 = .ok (.putfield 25, 3) := by decide +kernel
theorem dX9_init_54 : decode cX9_init 54 = .ok (.aload_n 0, 1) := by decide +kernel
theorem dX9_init_55 : decode cX9_init 55 = .ok (.bipush 92, 2) := by decide +kernel
theorem dX9_init_57 : decode cX9_init 57 = .ok (.newarray .int, 2) := by decide +kernel
theorem dX9_init_59 : decode cX9_init 59 = .ok (.putfield 28, 3) := by decide +kernel
theorem dX9_init_62 : decode cX9_init 62 = .ok (.aload_n 0, 1) := by decide +kernel
theorem dX9_init_63 : decode cX9_init 63 = .ok (.bipush 48, 2) := by decide +kernel
theorem dX9_init_65 : decode cX9_init 65 = .ok (.newarray .int, 2) := by decide +kernel
theorem dX9_init_67 : decode cX9_init 67 = .ok (.putfield 31, 3) := by decide +kernel
theorem dX9_init_70 : decode cX9_init 70 = .ok (.aload_n 0, 1) := by decide +kernel
theorem dX9_init_71 : decode cX9_init 71 = .ok (.bipush 8, 2) := by decide +kernel
theorem dX9_init_73 : decode cX9_init 73 = .ok (.newarray .int, 2) := by decide +kernel
theorem dX9_init_75 : decode cX9_init 75 = .ok (.putfield 34, 3) := by decide +kernel
theorem dX9_init_78 : decode cX9_init 78 = .ok (.aload_n 0, 1) := by decide +kernel
theorem dX9_init_79 : decode cX9_init 79 = .ok (.bipush 9, 2) := by decide +kernel
theorem dX9_init_81 : decode cX9_init 81 = .ok (.newarray .int, 2) := by decide +kernel
theorem dX9_init_83 : decode cX9_init 83 = .ok (.putfield 37, 3) := by decide +kernel
theorem dX9_init_86 : decode cX9_init 86 = .ok (.aload_n 0, 1) := by decide +kernel
theorem dX9_init_87 : decode cX9_init 87 = .ok (.bipush 8, 2) := by decide +kernel
theorem dX9_init_89 : decode cX9_init 89 = .ok (.newarray .int, 2) := by decide +kernel
theorem dX9_init_91 : decode cX9_init 91 = .ok (.putfield 40, 3) := by decide +kernel
theorem dX9_init_94 : decode cX9_init 94 = .ok (.aload_n 0, 1) := by decide +kernel
theorem dX9_init_95 : decode cX9_init 95 = .ok (.bipush 6, 2) := by decide +kernel
theorem dX9_init_97 : decode cX9_init 97 = .ok (.newarray .int, 2) := by decide +kernel
theorem dX9_init_99 : decode cX9_init 99 = .ok (.putfield 43, 3) := by decide +kernel
theorem dX9_init_102 : decode cX9_init 102 = .ok (.aload_n 0, 1) := by decide +kernel
theorem dX9_init_103 : decode cX9_init 103 = .ok (.bipush 6, 2) := by decide +kernel
theorem dX9_init_105 : decode cX9_init 105 = .ok (.newarray .int, 2) := by decide +kernel
theorem dX9_init_107 : decode cX9_init 107 = .ok (.putfield 46, 3) := by decide +kernel
theorem dX9_init_110 : decode cX9_init 110 = .ok (.aload_n 0, 1) := by decide +kernel
theorem dX9_init_111 : decode cX9_init 111 = .ok (.bipush 36, 2) := by decide +kernel
theorem dX9_init_113 : decode cX9_init 113 = .ok (.newarray .int, 2) := by decide +kernel
theorem dX9_init_115 : decode cX9_init 115 = .ok (.putfield 49, 3) := by decide +kernel
theorem dX9_init_118 : decode cX9_init 118 = .ok (.aload_n 0, 1) := by decide +kernel
theorem dX9_init_119 : decode cX9_init 119 = .ok (.bipush 6, 2) := by decide +kernel
theorem dX9_init_121 : decode cX9_init 121 = .ok (.newarray .int, 2) := by decide +kernel
theorem dX9_init_123 : decode cX9_init 123 = .ok (.putfield 52, 3) := by decide +kernel
theorem dX9_init_126 : decode cX9_init 126 = .ok (.aload_n 0, 1) := by decide +kernel
theorem dX9_init_127 : decode cX9_init 127 = .ok (.iconst 4, 1) := by decide +kernel
theorem dX9_init_128 : decode cX9_init 128 = .ok (.newarray .int, 2) := by decide +kernel
theorem dX9_init_130 : decode cX9_init 130 = .ok (.putfield 55, 3) := by decide +kernel
theorem dX9_init_133 : decode cX9_init 133 = .ok (.aload_n 0, 1) := by decide +kernel
theorem dX9_init_134 : decode cX9_init 134 = .ok (.iconst 2, 1) := by decide +kernel
theorem dX9_init_135 : decode cX9_init 135 = .ok (.putfield 58, 3) := by decide +kernel
theorem dX9_init_138 : decode cX9_init 138 = .ok (.aload_n 0, 1) := by decide +kernel
theorem dX9_init_139 : decode cX9_init 139 = .ok (.getfield 16, 3) := by decide +kernel
theorem dX9_init_142 : decode cX9_init 142 = .ok (.iconst 0, 1) := by decide +kernel
theorem dX9_init_143 : decode cX9_init 143 = .ok (.bipush 50, 2) := by decide +kernel
theorem dX9_init_145 : decode cX9_init 145 = .ok (.iastore, 1) := by decide +kernel
theorem dX9_init_146 : decode cX9_init 146 = .ok (.aload_n 0, 1) := by decide +kernel
theorem dX9_init_147 : decode cX9_init 147 = .ok (.getfield 16, 3) := by decide +kernel
theorem dX9_init_150 : decode cX9_init 150 = .ok (.iconst 1, 1) := by decide +kernel
theorem dX9_init_151 : decode cX9_init 151 = .ok (.bipush 80, 2) := by decide +kernel
theorem dX9_init_153 : decode cX9_init 153 = .ok (.iastore, 1) := by decide +kernel
theorem dX9_init_154 : decode cX9_init 154 = .ok (.aload_n 0, 1) := by decide +kernel
theorem dX9_init_155 : decode cX9_init 155 = .ok (.bipush 10, 2) := by decide +kernel
theorem dX9_init_157 : decode cX9_init 157 = .ok (.putfield 62, 3) := by decide +kernel
theorem dX9_init_160 : decode cX9_init 160 = .ok (.aload_n 0, 1) := by decide +kernel
theorem dX9_init_161 : decode cX9_init 161 = .ok (.invokevirtual 65, 3) := by decide +kernel
theorem dX9_init_164 : decode cX9_init 164 = .ok (.return_, 1) := by decide +kernel
theorem dX9_in_0 : decode cX9_in 0 = .ok (.iload_n 0, 1) := by decide +kernel
theorem dX9_in_1 : decode cX9_in 1 = .ok (.iload_n 1, 1) := by decide +kernel
theorem dX9_in_2 : decode cX9_in 2 = .ok (.if_icmp .lt 12, 3) := by decide +kernel
theorem dX9_in_5 : decode cX9_in 5 = .ok (.iload_n 0, 1) := by decide +kernel
theorem dX9_in_6 : decode cX9_in 6 = .ok (.iload_n 2, 1) := by decide +kernel
theorem dX9_in_7 : decode cX9_in 7 = .ok (.if_icmp .gt 7, 3) := by decide +kernel
theorem dX9_in_10 : decode cX9_in 10 = .ok (.iconst 1, 1) := by decide +kernel
theorem dX9_in_11 : decode cX9_in 11 = .ok (.goto 4, 3) := by decide +kernel
theorem dX9_in_14 : decode cX9_in 14 = .ok (.iconst 0, 1) := by decide +kernel
theorem dX9_in_15 : decode cX9_in 15 = .ok (.ireturn, 1) := by decide +kernel
theorem dX9_lesser_0 : decode cX9_lesser 0 = .ok (.iload_n 0, 1) := by decide +kernel
theorem dX9_lesser_1 : decode cX9_lesser 1 = .ok (.iload_n 1, 1) := by decide +kernel
theorem dX9_lesser_2 : decode cX9_lesser 2 = .ok (.if_icmp .ge 7, 3) := by decide +kernel
theorem dX9_lesser_5 : decode cX9_lesser 5 = .ok (.iload_n 0, 1) := by decide +kernel
theorem dX9_lesser_6 : decode cX9_lesser 6 = .ok (.goto 4, 3) := by decide +kernel
theorem dX9_lesser_9 : decode cX9_lesser 9 = .ok (.iload_n 1, 1) := by decide +kernel
theorem dX9_lesser_10 : decode cX9_lesser 10 = .ok (.ireturn, 1) := by decide +kernel
theorem dX9_write_0 : decode cX9_write 0 = .ok (.aload_n 0, 1) := by decide +kernel
theorem dX9_write_1 : decode cX9_write 1 = .ok (.iconst 0, 1) := by decide +kernel
theorem dX9_write_2 : decode cX9_write 2 = .ok (.putfield 68, 3) := by decide +kernel
theorem dX9_write_5 : decode cX9_write 5 = .ok (.iload_n 1, 1) := by decide +kernel
theorem dX9_write_6 : decode cX9_write 6 = .ok (.iconst 1, 1) := by decide +kernel
theorem dX9_write_7 : decode cX9_write 7 = .ok (.bipush 8, 2) := by decide +kernel
theorem dX9_write_9 : decode cX9_write 9 = .ok (.invokestatic 71, 3) := by decide +kernel
theorem dX9_write_12 : decode cX9_write 12 = .ok (.ifCond .ne 5, 3) := by decide +kernel
theorem dX9_write_15 : decode cX9_write 15 = .ok (.iconst (-1), 1) := by decide +kernel
theorem dX9_write_16 : decode cX9_write 16 = .ok (.ireturn, 1) := by decide +kernel
theorem dX9_write_17 : decode cX9_write 17 = .ok (.aload_n 0, 1) := by decide +kernel
theorem dX9_write_18 : decode cX9_write 18 = .ok (.getfield 75, 3) := by decide +kernel
theorem dX9_write_21 : decode cX9_write 21 = .ok (.iload_n 1, 1) := by decide +kernel
theorem dX9_write_22 : decode cX9_write 22 = .ok (.iadd, 1) := by decide +kernel
theorem dX9_write_23 : decode cX9_write 23 = .ok (.sipush 300, 3) := by decide +kernel
theorem dX9_write_26 : decode cX9_write 26 = .ok (.if_icmp .le 6, 3) := by decide +kernel
theorem dX9_write_29 : decode cX9_write 29 = .ok (.bipush (-3), 2) := by decide +kernel
theorem dX9_write_31 : decode cX9_write 31 = .ok (.ireturn, 1) := by decide +kernel
theorem dX9_write_32 : decode cX9_write 32 = .ok (.iload_n 1, 1) := by decide +kernel
theorem dX9_write_33 : decode cX9_write 33 = .ok (.iconst 1, 1) := by decide +kernel
theorem dX9_write_34 : decode cX9_write 34 = .ok (.isub, 1) := by decide +kernel
theorem dX9_write_35 : decode cX9_write 35 = .ok (.istore 4, 2) := by decide +kernel
theorem dX9_write_37 : decode cX9_write 37 = .ok (.iload 4, 2) := by decide +kernel
theorem dX9_write_39 : decode cX9_write 39 = .ok (.ifCond .lt 40, 3) := by decide +kernel
theorem dX9_write_42 : decode cX9_write 42 = .ok (.aload_n 0, 1) := by decide +kernel
theorem dX9_write_43 : decode cX9_write 43 = .ok (.getfield 7, 3) := by decide +kernel
theorem dX9_write_46 : decode cX9_write 46 = .ok (.aload_n 0, 1) := by decide +kernel
theorem dX9_write_47 : decode cX9_write 47 = .ok (.getfield 75, 3) := by decide +kernel
theorem dX9_write_50 : decode cX9_write 50 = .ok (.lload_n 2, 1) := by decide +kernel
theorem dX9_write_51 : decode cX9_write 51 = .ok (.bipush 8, 2) := by decide +kernel
theorem dX9_write_53 : decode cX9_write 53 = .ok (.iload 4, 2) := by decide +kernel
theorem dX9_write_55 : decode cX9_write 55 = .ok (.imul, 1) := by decide +kernel
theorem dX9_write_56 : decode cX9_write 56 = .ok (.lshr, 1) := by decide +kernel
theorem dX9_write_57 : decode cX9_write 57 = .ok (.ldc2_w 78, 3) := by decide +kernel
theorem dX9_write_60 : decode cX9_write 60 = .ok (.land, 1) := by decide +kernel
theorem dX9_write_61 : decode cX9_write 61 = .ok (.l2i, 1) := by decide +kernel
theorem dX9_write_62 : decode cX9_write 62 = .ok (.iastore, 1) := by decide +kernel
theorem dX9_write_63 : decode cX9_write 63 = .ok (.aload_n 0, 1) := by decide +kernel
theorem dX9_write_64 : decode cX9_write 64 = .ok (.dup, 1) := by decide +kernel
theorem dX9_write_65 : decode cX9_write 65 = .ok (.getfield 75, 3) := by decide +kernel
theorem dX9_write_68 : decode cX9_write 68 = .ok (.iconst 1, 1) := by decide +kernel
theorem dX9_write_69 : decode cX9_write 69 = .ok (.iadd, 1) := by decide +kernel
theorem dX9_write_70 : decode cX9_write 70 = .ok (.putfield 75, 3) := by decide +kernel
theorem dX9_write_73 : decode cX9_write 73 = .ok (.iinc 4 (-1), 3) := by decide +kernel
theorem dX9_write_76 : decode cX9_write 76 = .ok (.goto (-39), 3) := by decide +kernel
theorem dX9_write_79 : decode cX9_write 79 = .ok (.aload_n 0, 1) := by decide +kernel
theorem dX9_write_80 : decode cX9_write 80 = .ok (.getfield 75, 3) := by decide +kernel
theorem dX9_write_83 : decode cX9_write 83 = .ok (.ireturn, 1) := by decide +kernel
theorem dX9_wipe_0 : decode cX9_wipe 0 = .ok (.aload_n 0, 1) := by decide +kernel
theorem dX9_wipe_1 : decode cX9_wipe 1 = .ok (.iconst 0, 1) := by decide +kernel
theorem dX9_wipe_2 : decode cX9_wipe 2 = .ok (.putfield 68, 3) := by decide +kernel
theorem dX9_wipe_5 : decode cX9_wipe 5 = .ok (.aload_n 0, 1) := by decide +kernel
theorem dX9_wipe_6 : decode cX9_wipe 6 = .ok (.getfield 75, 3) := by decide +kernel
theorem dX9_wipe_9 : decode cX9_wipe 9 = .ok (.istore_n 1, 1) := by decide +kernel
theorem dX9_wipe_10 : decode cX9_wipe 10 = .ok (.aload_n 0, 1) := by decide +kernel
theorem dX9_wipe_11 : decode cX9_wipe 11 = .ok (.iconst 0, 1) := by decide +kernel
theorem dX9_wipe_12 : decode cX9_wipe 12 = .ok (.putfield 75, 3) := by decide +kernel
theorem dX9_wipe_15 : decode cX9_wipe 15 = .ok (.iload_n 1, 1) := by decide +kernel
theorem dX9_wipe_16 : decode cX9_wipe 16 = .ok (.ireturn, 1) := by decide +kernel
theorem dX9_byteAt_0 : decode cX9_byteAt 0 = .ok (.iload_n 1, 1) := by decide +kernel
theorem dX9_byteAt_1 : decode cX9_byteAt 1 = .ok (.aload_n 0, 1) := by decide +kernel
theorem dX9_byteAt_2 : decode cX9_byteAt 2 = .ok (.getfield 75, 3) := by decide +kernel
theorem dX9_byteAt_5 : decode cX9_byteAt 5 = .ok (.if_icmp .ge 12, 3) := by decide +kernel
theorem dX9_byteAt_8 : decode cX9_byteAt 8 = .ok (.aload_n 0, 1) := by decide +kernel
theorem dX9_byteAt_9 : decode cX9_byteAt 9 = .ok (.getfield 7, 3) := by decide +kernel
theorem dX9_byteAt_12 : decode cX9_byteAt 12 = .ok (.iload_n 1, 1) := by decide +kernel
theorem dX9_byteAt_13 : decode cX9_byteAt 13 = .ok (.iaload, 1) := by decide +kernel
theorem dX9_byteAt_14 : decode cX9_byteAt 14 = .ok (.goto 4, 3) := by decide +kernel
theorem dX9_byteAt_17 : decode cX9_byteAt 17 = .ok (.iconst (-1), 1) := by decide +kernel
theorem dX9_byteAt_18 : decode cX9_byteAt 18 = .ok (.ireturn, 1) := by decide +kernel
theorem dX9_isWell_0 : decode cX9_isWell 0 = .ok (.iload_n 1, 1) := by decide +kernel
theorem dX9_isWell_1 : decode cX9_isWell 1 = .ok (.bipush 112, 2) := by decide +kernel
theorem dX9_isWell_3 : decode cX9_isWell 3 = .ok (.if_icmp .ne 31, 3) := by decide +kernel
theorem dX9_isWell_6 : decode cX9_isWell 6 = .ok (.iload_n 2, 1) := by decide +kernel
theorem dX9_isWell_7 : decode cX9_isWell 7 = .ok (.iconst 1, 1) := by decide +kernel
theorem dX9_isWell_8 : decode cX9_isWell 8 = .ok (.sipush 999, 3) := by decide +kernel
theorem dX9_isWell_11 : decode cX9_isWell 11 = .ok (.invokestatic 71, 3) := by decide +kernel
theorem dX9_isWell_14 : decode cX9_isWell 14 = .ok (.ifCond .eq 18, 3) := by decide +kernel
theorem dX9_isWell_17 : decode cX9_isWell 17 = .ok (.aload_n 0, 1) := by decide +kernel
theorem dX9_isWell_18 : decode cX9_isWell 18 = .ok (.getfield 13, 3) := by decide +kernel
theorem dX9_isWell_21 : decode cX9_isWell 21 = .ok (.iconst 0, 1) := by decide +kernel
theorem dX9_isWell_22 : decode cX9_isWell 22 = .ok (.iaload, 1) := by decide +kernel
theorem dX9_isWell_23 : decode cX9_isWell 23 = .ok (.bipush 6, 2) := by decide +kernel
theorem dX9_isWell_25 : decode cX9_isWell 25 = .ok (.if_icmp .ge 7, 3) := by decide +kernel
theorem dX9_isWell_28 : decode cX9_isWell 28 = .ok (.iconst 1, 1) := by decide +kernel
theorem dX9_isWell_29 : decode cX9_isWell 29 = .ok (.goto 4, 3) := by decide +kernel
theorem dX9_isWell_32 : decode cX9_isWell 32 = .ok (.iconst 0, 1) := by decide +kernel
theorem dX9_isWell_33 : decode cX9_isWell 33 = .ok (.ireturn, 1) := by decide +kernel
theorem dX9_isWell_34 : decode cX9_isWell 34 = .ok (.iload_n 1, 1) := by decide +kernel
theorem dX9_isWell_35 : decode cX9_isWell 35 = .ok (.bipush 114, 2) := by decide +kernel
theorem dX9_isWell_37 : decode cX9_isWell 37 = .ok (.if_icmp .ne 17, 3) := by decide +kernel
theorem dX9_isWell_40 : decode cX9_isWell 40 = .ok (.iload_n 2, 1) := by decide +kernel
theorem dX9_isWell_41 : decode cX9_isWell 41 = .ok (.bipush 100, 2) := by decide +kernel
theorem dX9_isWell_43 : decode cX9_isWell 43 = .ok (.if_icmp .ge 7, 3) := by decide +kernel
theorem dX9_isWell_46 : decode cX9_isWell 46 = .ok (.iconst 1, 1) := by decide +kernel
theorem dX9_isWell_47 : decode cX9_isWell 47 = .ok (.goto 42, 3) := by decide +kernel
theorem dX9_isWell_50 : decode cX9_isWell 50 = .ok (.iconst 0, 1) := by decide +kernel
theorem dX9_isWell_51 : decode cX9_isWell 51 = .ok (.goto 38, 3) := by decide +kernel
theorem dX9_isWell_54 : decode cX9_isWell 54 = .ok (.iload_n 1, 1) := by decide +kernel
theorem dX9_isWell_55 : decode cX9_isWell 55 = .ok (.bipush 107, 2) := by decide +kernel
theorem dX9_isWell_57 : decode cX9_isWell 57 = .ok (.if_icmp .ne 16, 3) := by decide +kernel
theorem dX9_isWell_60 : decode cX9_isWell 60 = .ok (.iload_n 2, 1) := by decide +kernel
theorem dX9_isWell_61 : decode cX9_isWell 61 = .ok (.iconst 4, 1) := by decide +kernel
theorem dX9_isWell_62 : decode cX9_isWell 62 = .ok (.if_icmp .ge 7, 3) := by decide +kernel
theorem dX9_isWell_65 : decode cX9_isWell 65 = .ok (.iconst 1, 1) := by decide +kernel
theorem dX9_isWell_66 : decode cX9_isWell 66 = .ok (.goto 23, 3) := by decide +kernel
theorem dX9_isWell_69 : decode cX9_isWell 69 = .ok (.iconst 0, 1) := by decide +kernel
theorem dX9_isWell_70 : decode cX9_isWell 70 = .ok (.goto 19, 3) := by decide +kernel
theorem dX9_isWell_73 : decode cX9_isWell 73 = .ok (.iload_n 1, 1) := by decide +kernel
theorem dX9_isWell_74 : decode cX9_isWell 74 = .ok (.bipush 110, 2) := by decide +kernel
theorem dX9_isWell_76 : decode cX9_isWell 76 = .ok (.if_icmp .ne 12, 3) := by decide +kernel
theorem dX9_isWell_79 : decode cX9_isWell 79 = .ok (.iload_n 2, 1) := by decide +kernel
theorem dX9_isWell_80 : decode cX9_isWell 80 = .ok (.iconst 3, 1) := by decide +kernel
theorem dX9_isWell_81 : decode cX9_isWell 81 = .ok (.if_icmp .ge 7, 3) := by decide +kernel
theorem dX9_isWell_84 : decode cX9_isWell 84 = .ok (.iconst 1, 1) := by decide +kernel
theorem dX9_isWell_85 : decode cX9_isWell 85 = .ok (.goto 4, 3) := by decide +kernel
theorem dX9_isWell_88 : decode cX9_isWell 88 = .ok (.iconst 0, 1) := by decide +kernel
theorem dX9_isWell_89 : decode cX9_isWell 89 = .ok (.ireturn, 1) := by decide +kernel
theorem dX9_faultOf_0 : decode cX9_faultOf 0 = .ok (.aload_n 0, 1) := by decide +kernel
theorem dX9_faultOf_1 : decode cX9_faultOf 1 = .ok (.getfield 13, 3) := by decide +kernel
theorem dX9_faultOf_4 : decode cX9_faultOf 4 = .ok (.iconst 0, 1) := by decide +kernel
theorem dX9_faultOf_5 : decode cX9_faultOf 5 = .ok (.iconst 0, 1) := by decide +kernel
theorem dX9_faultOf_6 : decode cX9_faultOf 6 = .ok (.iastore, 1) := by decide +kernel
theorem dX9_faultOf_7 : decode cX9_faultOf 7 = .ok (.aload_n 0, 1) := by decide +kernel
theorem dX9_faultOf_8 : decode cX9_faultOf 8 = .ok (.getfield 13, 3) := by decide +kernel
theorem dX9_faultOf_11 : decode cX9_faultOf 11 = .ok (.bipush 7, 2) := by decide +kernel
theorem dX9_faultOf_13 : decode cX9_faultOf 13 = .ok (.bipush 10, 2) := by decide +kernel
theorem dX9_faultOf_15 : decode cX9_faultOf 15 = .ok (.iastore, 1) := by decide +kernel
theorem dX9_faultOf_16 : decode cX9_faultOf 16 = .ok (.aload_n 0, 1) := by decide +kernel
theorem dX9_faultOf_17 : decode cX9_faultOf 17 = .ok (.getfield 13, 3) := by decide +kernel
theorem dX9_faultOf_20 : decode cX9_faultOf 20 = .ok (.bipush 8, 2) := by decide +kernel
theorem dX9_faultOf_22 : decode cX9_faultOf 22 = .ok (.iconst 0, 1) := by decide +kernel
theorem dX9_faultOf_23 : decode cX9_faultOf 23 = .ok (.iastore, 1) := by decide +kernel
theorem dX9_faultOf_24 : decode cX9_faultOf 24 = .ok (.aload_n 0, 1) := by decide +kernel
theorem dX9_faultOf_25 : decode cX9_faultOf 25 = .ok (.getfield 13, 3) := by decide +kernel
theorem dX9_faultOf_28 : decode cX9_faultOf 28 = .ok (.bipush 9, 2) := by decide +kernel
theorem dX9_faultOf_30 : decode cX9_faultOf 30 = .ok (.iconst 0, 1) := by decide +kernel
theorem dX9_faultOf_31 : decode cX9_faultOf 31 = .ok (.iastore, 1) := by decide +kernel
theorem dX9_faultOf_32 : decode cX9_faultOf 32 = .ok (.iconst 0, 1) := by decide +kernel
theorem dX9_faultOf_33 : decode cX9_faultOf 33 = .ok (.istore_n 1, 1) := by decide +kernel
theorem dX9_faultOf_34 : decode cX9_faultOf 34 = .ok (.iload_n 1, 1) := by decide +kernel
theorem dX9_faultOf_35 : decode cX9_faultOf 35 = .ok (.aload_n 0, 1) := by decide +kernel
theorem dX9_faultOf_36 : decode cX9_faultOf 36 = .ok (.getfield 75, 3) := by decide +kernel
theorem dX9_faultOf_39 : decode cX9_faultOf 39 = .ok (.if_icmp .ge 159, 3) := by decide +kernel
theorem dX9_faultOf_42 : decode cX9_faultOf 42 = .ok (.aload_n 0, 1) := by decide +kernel
theorem dX9_faultOf_43 : decode cX9_faultOf 43 = .ok (.iload_n 1, 1) := by decide +kernel
theorem dX9_faultOf_44 : decode cX9_faultOf 44 = .ok (.invokevirtual 80, 3) := by decide +kernel
theorem dX9_faultOf_47 : decode cX9_faultOf 47 = .ok (.istore_n 2, 1) := by decide +kernel
theorem dX9_faultOf_48 : decode cX9_faultOf 48 = .ok (.iload_n 1, 1) := by decide +kernel
theorem dX9_faultOf_49 : decode cX9_faultOf 49 = .ok (.iconst 1, 1) := by decide +kernel
theorem dX9_faultOf_50 : decode cX9_faultOf 50 = .ok (.iadd, 1) := by decide +kernel
theorem dX9_faultOf_51 : decode cX9_faultOf 51 = .ok (.istore_n 3, 1) := by decide +kernel
theorem dX9_faultOf_52 : decode cX9_faultOf 52 = .ok (.iconst 0, 1) := by decide +kernel
theorem dX9_faultOf_53 : decode cX9_faultOf 53 = .ok (.istore 4, 2) := by decide +kernel
theorem dX9_faultOf_55 : decode cX9_faultOf 55 = .ok (.aload_n 0, 1) := by decide +kernel
theorem dX9_faultOf_56 : decode cX9_faultOf 56 = .ok (.iload_n 3, 1) := by decide +kernel
theorem dX9_faultOf_57 : decode cX9_faultOf 57 = .ok (.invokevirtual 80, 3) := by decide +kernel
theorem dX9_faultOf_60 : decode cX9_faultOf 60 = .ok (.bipush 48, 2) := by decide +kernel
theorem dX9_faultOf_62 : decode cX9_faultOf 62 = .ok (.bipush 57, 2) := by decide +kernel
theorem dX9_faultOf_64 : decode cX9_faultOf 64 = .ok (.invokestatic 71, 3) := by decide +kernel
theorem dX9_faultOf_67 : decode cX9_faultOf 67 = .ok (.ifCond .eq 32, 3) := by decide +kernel
theorem dX9_faultOf_70 : decode cX9_faultOf 70 = .ok (.iload_n 3, 1) := by decide +kernel
theorem dX9_faultOf_71 : decode cX9_faultOf 71 = .ok (.iload_n 1, 1) := by decide +kernel
theorem dX9_faultOf_72 : decode cX9_faultOf 72 = .ok (.iconst 4, 1) := by decide +kernel
theorem dX9_faultOf_73 : decode cX9_faultOf 73 = .ok (.iadd, 1) := by decide +kernel
theorem dX9_faultOf_74 : decode cX9_faultOf 74 = .ok (.if_icmp .ge 25, 3) := by decide +kernel
theorem dX9_faultOf_77 : decode cX9_faultOf 77 = .ok (.bipush 10, 2) := by decide +kernel
theorem dX9_faultOf_79 : decode cX9_faultOf 79 = .ok (.iload 4, 2) := by decide +kernel
theorem dX9_faultOf_81 : decode cX9_faultOf 81 = .ok (.imul, 1) := by decide +kernel
theorem dX9_faultOf_82 : decode cX9_faultOf 82 = .ok (.aload_n 0, 1) := by decide +kernel
theorem dX9_faultOf_83 : decode cX9_faultOf 83 = .ok (.iload_n 3, 1) := by decide +kernel
theorem dX9_faultOf_84 : decode cX9_faultOf 84 = .ok (.invokevirtual 80, 3) := by decide +kernel
theorem dX9_faultOf_87 : decode cX9_faultOf 87 = .ok (.iadd, 1) := by decide +kernel
theorem dX9_faultOf_88 : decode cX9_faultOf 88 = .ok (.bipush 48, 2) := by decide +kernel
theorem dX9_faultOf_90 : decode cX9_faultOf 90 = .ok (.isub, 1) := by decide +kernel
theorem dX9_faultOf_91 : decode cX9_faultOf 91 = .ok (.istore 4, 2) := by decide +kernel
theorem dX9_faultOf_93 : decode cX9_faultOf 93 = .ok (.iinc 3 1, 3) := by decide +kernel
theorem dX9_faultOf_96 : decode cX9_faultOf 96 = .ok (.goto (-41), 3) := by decide +kernel
theorem dX9_faultOf_99 : decode cX9_faultOf 99 = .ok (.iload_n 3, 1) := by decide +kernel
theorem dX9_faultOf_100 : decode cX9_faultOf 100 = .ok (.iload_n 1, 1) := by decide +kernel
theorem dX9_faultOf_101 : decode cX9_faultOf 101 = .ok (.iconst 1, 1) := by decide +kernel
theorem dX9_faultOf_102 : decode cX9_faultOf 102 = .ok (.iadd, 1) := by decide +kernel
theorem dX9_faultOf_103 : decode cX9_faultOf 103 = .ok (.if_icmp .eq 23, 3) := by decide +kernel
theorem dX9_faultOf_106 : decode cX9_faultOf 106 = .ok (.aload_n 0, 1) := by decide +kernel
theorem dX9_faultOf_107 : decode cX9_faultOf 107 = .ok (.iload_n 3, 1) := by decide +kernel
theorem dX9_faultOf_108 : decode cX9_faultOf 108 = .ok (.invokevirtual 80, 3) := by decide +kernel
theorem dX9_faultOf_111 : decode cX9_faultOf 111 = .ok (.bipush 59, 2) := by decide +kernel
theorem dX9_faultOf_113 : decode cX9_faultOf 113 = .ok (.if_icmp .ne 13, 3) := by decide +kernel
theorem dX9_faultOf_116 : decode cX9_faultOf 116 = .ok (.aload_n 0, 1) := by decide +kernel
theorem dX9_faultOf_117 : decode cX9_faultOf 117 = .ok (.iload_n 2, 1) := by decide +kernel
theorem dX9_faultOf_118 : decode cX9_faultOf 118 = .ok (.iload 4, 2) := by decide +kernel
theorem dX9_faultOf_120 : decode cX9_faultOf 120 = .ok (.invokevirtual 84, 3) := by decide +kernel
theorem dX9_faultOf_123 : decode cX9_faultOf 123 = .ok (.ifCond .ne 5, 3) := by decide +kernel
theorem dX9_faultOf_126 : decode cX9_faultOf 126 = .ok (.iload_n 1, 1) := by decide +kernel
theorem dX9_faultOf_127 : decode cX9_faultOf 127 = .ok (.ireturn, 1) := by decide +kernel
theorem dX9_faultOf_128 : decode cX9_faultOf 128 = .ok (.iload_n 2, 1) := by decide +kernel
theorem dX9_faultOf_129 : decode cX9_faultOf 129 = .ok (.bipush 112, 2) := by decide +kernel
theorem dX9_faultOf_131 : decode cX9_faultOf 131 = .ok (.if_icmp .ne 29, 3) := by decide +kernel
theorem dX9_faultOf_134 : decode cX9_faultOf 134 = .ok (.aload_n 0, 1) := by decide +kernel
theorem dX9_faultOf_135 : decode cX9_faultOf 135 = .ok (.getfield 13, 3) := by decide +kernel
theorem dX9_faultOf_138 : decode cX9_faultOf 138 = .ok (.iconst 0, 1) := by decide +kernel
theorem dX9_faultOf_139 : decode cX9_faultOf 139 = .ok (.dup2, 1) := by decide +kernel
theorem dX9_faultOf_140 : decode cX9_faultOf 140 = .ok (.iaload, 1) := by decide +kernel
theorem dX9_faultOf_141 : decode cX9_faultOf 141 = .ok (.iconst 1, 1) := by decide +kernel
theorem dX9_faultOf_142 : decode cX9_faultOf 142 = .ok (.iadd, 1) := by decide +kernel
theorem dX9_faultOf_143 : decode cX9_faultOf 143 = .ok (.iastore, 1) := by decide +kernel
theorem dX9_faultOf_144 : decode cX9_faultOf 144 = .ok (.aload_n 0, 1) := by decide +kernel
theorem dX9_faultOf_145 : decode cX9_faultOf 145 = .ok (.getfield 13, 3) := by decide +kernel
theorem dX9_faultOf_148 : decode cX9_faultOf 148 = .ok (.aload_n 0, 1) := by decide +kernel
theorem dX9_faultOf_149 : decode cX9_faultOf 149 = .ok (.getfield 13, 3) := by decide +kernel
theorem dX9_faultOf_152 : decode cX9_faultOf 152 = .ok (.iconst 0, 1) := by decide +kernel
theorem dX9_faultOf_153 : decode cX9_faultOf 153 = .ok (.iaload, 1) := by decide +kernel
theorem dX9_faultOf_154 : decode cX9_faultOf 154 = .ok (.iload 4, 2) := by decide +kernel
theorem dX9_faultOf_156 : decode cX9_faultOf 156 = .ok (.iastore, 1) := by decide +kernel
theorem dX9_faultOf_157 : decode cX9_faultOf 157 = .ok (.goto 34, 3) := by decide +kernel
theorem dX9_faultOf_160 : decode cX9_faultOf 160 = .ok (.aload_n 0, 1) := by decide +kernel
theorem dX9_faultOf_161 : decode cX9_faultOf 161 = .ok (.getfield 13, 3) := by decide +kernel
theorem dX9_faultOf_164 : decode cX9_faultOf 164 = .ok (.iload_n 2, 1) := by decide +kernel
theorem dX9_faultOf_165 : decode cX9_faultOf 165 = .ok (.bipush 114, 2) := by decide +kernel
theorem dX9_faultOf_167 : decode cX9_faultOf 167 = .ok (.if_icmp .ne 8, 3) := by decide +kernel
theorem dX9_faultOf_170 : decode cX9_faultOf 170 = .ok (.bipush 7, 2) := by decide +kernel
theorem dX9_faultOf_172 : decode cX9_faultOf 172 = .ok (.goto 16, 3) := by decide +kernel
theorem dX9_faultOf_175 : decode cX9_faultOf 175 = .ok (.iload_n 2, 1) := by decide +kernel
theorem dX9_faultOf_176 : decode cX9_faultOf 176 = .ok (.bipush 107, 2) := by decide +kernel
theorem dX9_faultOf_178 : decode cX9_faultOf 178 = .ok (.if_icmp .ne 8, 3) := by decide +kernel
theorem dX9_faultOf_181 : decode cX9_faultOf 181 = .ok (.bipush 8, 2) := by decide +kernel
theorem dX9_faultOf_183 : decode cX9_faultOf 183 = .ok (.goto 5, 3) := by decide +kernel
theorem dX9_faultOf_186 : decode cX9_faultOf 186 = .ok (.bipush 9, 2) := by decide +kernel
theorem dX9_faultOf_188 : decode cX9_faultOf 188 = .ok (.iload 4, 2) := by decide +kernel
theorem dX9_faultOf_190 : decode cX9_faultOf 190 = .ok (.iastore, 1) := by decide +kernel
theorem dX9_faultOf_191 : decode cX9_faultOf 191 = .ok (.iload_n 3, 1) := by decide +kernel
theorem dX9_faultOf_192 : decode cX9_faultOf 192 = .ok (.iconst 1, 1) := by decide +kernel
theorem dX9_faultOf_193 : decode cX9_faultOf 193 = .ok (.iadd, 1) := by decide +kernel
theorem dX9_faultOf_194 : decode cX9_faultOf 194 = .ok (.istore_n 1, 1) := by decide +kernel
theorem dX9_faultOf_195 : decode cX9_faultOf 195 = .ok (.goto (-161), 3) := by decide +kernel
theorem dX9_faultOf_198 : decode cX9_faultOf 198 = .ok (.bipush (-4), 2) := by decide +kernel
theorem dX9_faultOf_200 : decode cX9_faultOf 200 = .ok (.ireturn, 1) := by decide +kernel
theorem dX9_fault_0 : decode cX9_fault 0 = .ok (.aload_n 0, 1) := by decide +kernel
theorem dX9_fault_1 : decode cX9_fault 1 = .ok (.iconst 0, 1) := by decide +kernel
theorem dX9_fault_2 : decode cX9_fault 2 = .ok (.putfield 68, 3) := by decide +kernel
theorem dX9_fault_5 : decode cX9_fault 5 = .ok (.aload_n 0, 1) := by decide +kernel
theorem dX9_fault_6 : decode cX9_fault 6 = .ok (.invokevirtual 88, 3) := by decide +kernel
theorem dX9_fault_9 : decode cX9_fault 9 = .ok (.ireturn, 1) := by decide +kernel
theorem dX9_begins_0 : decode cX9_begins 0 = .ok (.iconst 0, 1) := by decide +kernel
theorem dX9_begins_1 : decode cX9_begins 1 = .ok (.istore_n 1, 1) := by decide +kernel
theorem dX9_begins_2 : decode cX9_begins 2 = .ok (.iload_n 1, 1) := by decide +kernel
theorem dX9_begins_3 : decode cX9_begins 3 = .ok (.bipush 46, 2) := by decide +kernel
theorem dX9_begins_5 : decode cX9_begins 5 = .ok (.if_icmp .ge 33, 3) := by decide +kernel
theorem dX9_begins_8 : decode cX9_begins 8 = .ok (.aload_n 0, 1) := by decide +kernel
theorem dX9_begins_9 : decode cX9_begins 9 = .ok (.getfield 19, 3) := by decide +kernel
theorem dX9_begins_12 : decode cX9_begins 12 = .ok (.iload_n 1, 1) := by decide +kernel
theorem dX9_begins_13 : decode cX9_begins 13 = .ok (.iload_n 1, 1) := by decide +kernel
theorem dX9_begins_14 : decode cX9_begins 14 = .ok (.aload_n 0, 1) := by decide +kernel
theorem dX9_begins_15 : decode cX9_begins 15 = .ok (.getfield 58, 3) := by decide +kernel
theorem dX9_begins_18 : decode cX9_begins 18 = .ok (.if_icmp .ge 12, 3) := by decide +kernel
theorem dX9_begins_21 : decode cX9_begins 21 = .ok (.aload_n 0, 1) := by decide +kernel
theorem dX9_begins_22 : decode cX9_begins 22 = .ok (.getfield 16, 3) := by decide +kernel
theorem dX9_begins_25 : decode cX9_begins 25 = .ok (.iload_n 1, 1) := by decide +kernel
theorem dX9_begins_26 : decode cX9_begins 26 = .ok (.iaload, 1) := by decide +kernel
theorem dX9_begins_27 : decode cX9_begins 27 = .ok (.goto 4, 3) := by decide +kernel
theorem dX9_begins_30 : decode cX9_begins 30 = .ok (.iconst 0, 1) := by decide +kernel
theorem dX9_begins_31 : decode cX9_begins 31 = .ok (.iastore, 1) := by decide +kernel
theorem dX9_begins_32 : decode cX9_begins 32 = .ok (.iinc 1 1, 3) := by decide +kernel
theorem dX9_begins_35 : decode cX9_begins 35 = .ok (.goto (-33), 3) := by decide +kernel
theorem dX9_begins_38 : decode cX9_begins 38 = .ok (.aload_n 0, 1) := by decide +kernel
theorem dX9_begins_39 : decode cX9_begins 39 = .ok (.iconst 0, 1) := by decide +kernel
theorem dX9_begins_40 : decode cX9_begins 40 = .ok (.putfield 92, 3) := by decide +kernel
theorem dX9_begins_43 : decode cX9_begins 43 = .ok (.aload_n 0, 1) := by decide +kernel
theorem dX9_begins_44 : decode cX9_begins 44 = .ok (.iconst 0, 1) := by decide +kernel
theorem dX9_begins_45 : decode cX9_begins 45 = .ok (.putfield 95, 3) := by decide +kernel
theorem dX9_begins_48 : decode cX9_begins 48 = .ok (.aload_n 0, 1) := by decide +kernel
theorem dX9_begins_49 : decode cX9_begins 49 = .ok (.iconst 0, 1) := by decide +kernel
theorem dX9_begins_50 : decode cX9_begins 50 = .ok (.putfield 98, 3) := by decide +kernel
theorem dX9_begins_53 : decode cX9_begins 53 = .ok (.return_, 1) := by decide +kernel
theorem dX9_lay_0 : decode cX9_lay 0 = .ok (.aload_n 0, 1) := by decide +kernel
theorem dX9_lay_1 : decode cX9_lay 1 = .ok (.iconst 0, 1) := by decide +kernel
theorem dX9_lay_2 : decode cX9_lay 2 = .ok (.putfield 68, 3) := by decide +kernel
theorem dX9_lay_5 : decode cX9_lay 5 = .ok (.aload_n 0, 1) := by decide +kernel
theorem dX9_lay_6 : decode cX9_lay 6 = .ok (.invokevirtual 88, 3) := by decide +kernel
theorem dX9_lay_9 : decode cX9_lay 9 = .ok (.bipush (-4), 2) := by decide +kernel
theorem dX9_lay_11 : decode cX9_lay 11 = .ok (.if_icmp .ne 12, 3) := by decide +kernel
theorem dX9_lay_14 : decode cX9_lay 14 = .ok (.aload_n 0, 1) := by decide +kernel
theorem dX9_lay_15 : decode cX9_lay 15 = .ok (.getfield 13, 3) := by decide +kernel
theorem dX9_lay_18 : decode cX9_lay 18 = .ok (.iconst 0, 1) := by decide +kernel
theorem dX9_lay_19 : decode cX9_lay 19 = .ok (.iaload, 1) := by decide +kernel
theorem dX9_lay_20 : decode cX9_lay 20 = .ok (.ifCond .ne 6, 3) := by decide +kernel
theorem dX9_lay_23 : decode cX9_lay 23 = .ok (.bipush (-2), 2) := by decide +kernel
theorem dX9_lay_25 : decode cX9_lay 25 = .ok (.ireturn, 1) := by decide +kernel
theorem dX9_lay_26 : decode cX9_lay 26 = .ok (.aload_n 0, 1) := by decide +kernel
theorem dX9_lay_27 : decode cX9_lay 27 = .ok (.aload_n 0, 1) := by decide +kernel
theorem dX9_lay_28 : decode cX9_lay 28 = .ok (.getfield 13, 3) := by decide +kernel
theorem dX9_lay_31 : decode cX9_lay 31 = .ok (.iconst 0, 1) := by decide +kernel
theorem dX9_lay_32 : decode cX9_lay 32 = .ok (.iaload, 1) := by decide +kernel
theorem dX9_lay_33 : decode cX9_lay 33 = .ok (.putfield 58, 3) := by decide +kernel
theorem dX9_lay_36 : decode cX9_lay 36 = .ok (.iconst 0, 1) := by decide +kernel
theorem dX9_lay_37 : decode cX9_lay 37 = .ok (.istore_n 1, 1) := by decide +kernel
theorem dX9_lay_38 : decode cX9_lay 38 = .ok (.iload_n 1, 1) := by decide +kernel
theorem dX9_lay_39 : decode cX9_lay 39 = .ok (.bipush 6, 2) := by decide +kernel
theorem dX9_lay_41 : decode cX9_lay 41 = .ok (.if_icmp .ge 35, 3) := by decide +kernel
theorem dX9_lay_44 : decode cX9_lay 44 = .ok (.aload_n 0, 1) := by decide +kernel
theorem dX9_lay_45 : decode cX9_lay 45 = .ok (.getfield 16, 3) := by decide +kernel
theorem dX9_lay_48 : decode cX9_lay 48 = .ok (.iload_n 1, 1) := by decide +kernel
theorem dX9_lay_49 : decode cX9_lay 49 = .ok (.iload_n 1, 1) := by decide +kernel
theorem dX9_lay_50 : decode cX9_lay 50 = .ok (.aload_n 0, 1) := by decide +kernel
theorem dX9_lay_51 : decode cX9_lay 51 = .ok (.getfield 58, 3) := by decide +kernel
theorem dX9_lay_54 : decode cX9_lay 54 = .ok (.if_icmp .ge 14, 3) := by decide +kernel
theorem dX9_lay_57 : decode cX9_lay 57 = .ok (.aload_n 0, 1) := by decide +kernel
theorem dX9_lay_58 : decode cX9_lay 58 = .ok (.getfield 13, 3) := by decide +kernel
theorem dX9_lay_61 : decode cX9_lay 61 = .ok (.iconst 1, 1) := by decide +kernel
theorem dX9_lay_62 : decode cX9_lay 62 = .ok (.iload_n 1, 1) := by decide +kernel
theorem dX9_lay_63 : decode cX9_lay 63 = .ok (.iadd, 1) := by decide +kernel
theorem dX9_lay_64 : decode cX9_lay 64 = .ok (.iaload, 1) := by decide +kernel
theorem dX9_lay_65 : decode cX9_lay 65 = .ok (.goto 4, 3) := by decide +kernel
theorem dX9_lay_68 : decode cX9_lay 68 = .ok (.iconst 0, 1) := by decide +kernel
theorem dX9_lay_69 : decode cX9_lay 69 = .ok (.iastore, 1) := by decide +kernel
theorem dX9_lay_70 : decode cX9_lay 70 = .ok (.iinc 1 1, 3) := by decide +kernel
theorem dX9_lay_73 : decode cX9_lay 73 = .ok (.goto (-35), 3) := by decide +kernel
theorem dX9_lay_76 : decode cX9_lay 76 = .ok (.aload_n 0, 1) := by decide +kernel
theorem dX9_lay_77 : decode cX9_lay 77 = .ok (.aload_n 0, 1) := by decide +kernel
theorem dX9_lay_78 : decode cX9_lay 78 = .ok (.getfield 13, 3) := by decide +kernel
theorem dX9_lay_81 : decode cX9_lay 81 = .ok (.bipush 7, 2) := by decide +kernel
theorem dX9_lay_83 : decode cX9_lay 83 = .ok (.iaload, 1) := by decide +kernel
theorem dX9_lay_84 : decode cX9_lay 84 = .ok (.putfield 62, 3) := by decide +kernel
theorem dX9_lay_87 : decode cX9_lay 87 = .ok (.aload_n 0, 1) := by decide +kernel
theorem dX9_lay_88 : decode cX9_lay 88 = .ok (.aload_n 0, 1) := by decide +kernel
theorem dX9_lay_89 : decode cX9_lay 89 = .ok (.getfield 13, 3) := by decide +kernel
theorem dX9_lay_92 : decode cX9_lay 92 = .ok (.bipush 8, 2) := by decide +kernel
theorem dX9_lay_94 : decode cX9_lay 94 = .ok (.iaload, 1) := by decide +kernel
theorem dX9_lay_95 : decode cX9_lay 95 = .ok (.putfield 101, 3) := by decide +kernel
theorem dX9_lay_98 : decode cX9_lay 98 = .ok (.aload_n 0, 1) := by decide +kernel
theorem dX9_lay_99 : decode cX9_lay 99 = .ok (.aload_n 0, 1) := by decide +kernel
theorem dX9_lay_100 : decode cX9_lay 100 = .ok (.getfield 13, 3) := by decide +kernel
theorem dX9_lay_103 : decode cX9_lay 103 = .ok (.bipush 9, 2) := by decide +kernel
theorem dX9_lay_105 : decode cX9_lay 105 = .ok (.iaload, 1) := by decide +kernel
theorem dX9_lay_106 : decode cX9_lay 106 = .ok (.putfield 104, 3) := by decide +kernel
theorem dX9_lay_109 : decode cX9_lay 109 = .ok (.aload_n 0, 1) := by decide +kernel
theorem dX9_lay_110 : decode cX9_lay 110 = .ok (.invokevirtual 65, 3) := by decide +kernel
theorem dX9_lay_113 : decode cX9_lay 113 = .ok (.aload_n 0, 1) := by decide +kernel
theorem dX9_lay_114 : decode cX9_lay 114 = .ok (.getfield 58, 3) := by decide +kernel
theorem dX9_lay_117 : decode cX9_lay 117 = .ok (.ireturn, 1) := by decide +kernel
theorem dX9_isPerson_0 : decode cX9_isPerson 0 = .ok (.iload_n 1, 1) := by decide +kernel
theorem dX9_isPerson_1 : decode cX9_isPerson 1 = .ok (.iconst 0, 1) := by decide +kernel
theorem dX9_isPerson_2 : decode cX9_isPerson 2 = .ok (.aload_n 0, 1) := by decide +kernel
theorem dX9_isPerson_3 : decode cX9_isPerson 3 = .ok (.getfield 58, 3) := by decide +kernel
theorem dX9_isPerson_6 : decode cX9_isPerson 6 = .ok (.iconst 1, 1) := by decide +kernel
theorem dX9_isPerson_7 : decode cX9_isPerson 7 = .ok (.isub, 1) := by decide +kernel
theorem dX9_isPerson_8 : decode cX9_isPerson 8 = .ok (.invokestatic 71, 3) := by decide +kernel
theorem dX9_isPerson_11 : decode cX9_isPerson 11 = .ok (.ireturn, 1) := by decide +kernel
theorem dX9_owesAll_0 : decode cX9_owesAll 0 = .ok (.iconst 0, 1) := by decide +kernel
theorem dX9_owesAll_1 : decode cX9_owesAll 1 = .ok (.istore_n 2, 1) := by decide +kernel
theorem dX9_owesAll_2 : decode cX9_owesAll 2 = .ok (.iconst 0, 1) := by decide +kernel
theorem dX9_owesAll_3 : decode cX9_owesAll 3 = .ok (.istore_n 3, 1) := by decide +kernel
theorem dX9_owesAll_4 : decode cX9_owesAll 4 = .ok (.iload_n 3, 1) := by decide +kernel
theorem dX9_owesAll_5 : decode cX9_owesAll 5 = .ok (.aload_n 0, 1) := by decide +kernel
theorem dX9_owesAll_6 : decode cX9_owesAll 6 = .ok (.getfield 19, 3) := by decide +kernel
theorem dX9_owesAll_9 : decode cX9_owesAll 9 = .ok (.bipush 12, 2) := by decide +kernel
theorem dX9_owesAll_11 : decode cX9_owesAll 11 = .ok (.iaload, 1) := by decide +kernel
theorem dX9_owesAll_12 : decode cX9_owesAll 12 = .ok (.if_icmp .ge 46, 3) := by decide +kernel
theorem dX9_owesAll_15 : decode cX9_owesAll 15 = .ok (.iload_n 2, 1) := by decide +kernel
theorem dX9_owesAll_16 : decode cX9_owesAll 16 = .ok (.aload_n 0, 1) := by decide +kernel
theorem dX9_owesAll_17 : decode cX9_owesAll 17 = .ok (.getfield 19, 3) := by decide +kernel
theorem dX9_owesAll_20 : decode cX9_owesAll 20 = .ok (.bipush 13, 2) := by decide +kernel
theorem dX9_owesAll_22 : decode cX9_owesAll 22 = .ok (.iconst 4, 1) := by decide +kernel
theorem dX9_owesAll_23 : decode cX9_owesAll 23 = .ok (.iload_n 3, 1) := by decide +kernel
theorem dX9_owesAll_24 : decode cX9_owesAll 24 = .ok (.imul, 1) := by decide +kernel
theorem dX9_owesAll_25 : decode cX9_owesAll 25 = .ok (.iadd, 1) := by decide +kernel
theorem dX9_owesAll_26 : decode cX9_owesAll 26 = .ok (.iconst 1, 1) := by decide +kernel
theorem dX9_owesAll_27 : decode cX9_owesAll 27 = .ok (.iadd, 1) := by decide +kernel
theorem dX9_owesAll_28 : decode cX9_owesAll 28 = .ok (.iaload, 1) := by decide +kernel
theorem dX9_owesAll_29 : decode cX9_owesAll 29 = .ok (.iload_n 1, 1) := by decide +kernel
theorem dX9_owesAll_30 : decode cX9_owesAll 30 = .ok (.if_icmp .ne 19, 3) := by decide +kernel
theorem dX9_owesAll_33 : decode cX9_owesAll 33 = .ok (.aload_n 0, 1) := by decide +kernel
theorem dX9_owesAll_34 : decode cX9_owesAll 34 = .ok (.getfield 19, 3) := by decide +kernel
theorem dX9_owesAll_37 : decode cX9_owesAll 37 = .ok (.bipush 13, 2) := by decide +kernel
theorem dX9_owesAll_39 : decode cX9_owesAll 39 = .ok (.iconst 4, 1) := by decide +kernel
theorem dX9_owesAll_40 : decode cX9_owesAll 40 = .ok (.iload_n 3, 1) := by decide +kernel
theorem dX9_owesAll_41 : decode cX9_owesAll 41 = .ok (.imul, 1) := by decide +kernel
theorem dX9_owesAll_42 : decode cX9_owesAll 42 = .ok (.iadd, 1) := by decide +kernel
theorem dX9_owesAll_43 : decode cX9_owesAll 43 = .ok (.iconst 2, 1) := by decide +kernel
theorem dX9_owesAll_44 : decode cX9_owesAll 44 = .ok (.iadd, 1) := by decide +kernel
theorem dX9_owesAll_45 : decode cX9_owesAll 45 = .ok (.iaload, 1) := by decide +kernel
theorem dX9_owesAll_46 : decode cX9_owesAll 46 = .ok (.goto 4, 3) := by decide +kernel
theorem dX9_owesAll_49 : decode cX9_owesAll 49 = .ok (.iconst 0, 1) := by decide +kernel
theorem dX9_owesAll_50 : decode cX9_owesAll 50 = .ok (.iadd, 1) := by decide +kernel
theorem dX9_owesAll_51 : decode cX9_owesAll 51 = .ok (.istore_n 2, 1) := by decide +kernel
theorem dX9_owesAll_52 : decode cX9_owesAll 52 = .ok (.iinc 3 1, 3) := by decide +kernel
theorem dX9_owesAll_55 : decode cX9_owesAll 55 = .ok (.goto (-51), 3) := by decide +kernel
theorem dX9_owesAll_58 : decode cX9_owesAll 58 = .ok (.iload_n 2, 1) := by decide +kernel
theorem dX9_owesAll_59 : decode cX9_owesAll 59 = .ok (.ireturn, 1) := by decide +kernel
theorem dX9_person_0 : decode cX9_person 0 = .ok (.aload_n 0, 1) := by decide +kernel
theorem dX9_person_1 : decode cX9_person 1 = .ok (.iconst 0, 1) := by decide +kernel
theorem dX9_person_2 : decode cX9_person 2 = .ok (.putfield 68, 3) := by decide +kernel
theorem dX9_person_5 : decode cX9_person 5 = .ok (.aload_n 0, 1) := by decide +kernel
end
section
theorem dX9_person_6 : decode cX9_person 6 = .ok (.iload_n 1, 1) := by decide +kernel
theorem dX9_person_7 : decode cX9_person 7 = .ok (.invokevirtual 107, 3) := by decide +kernel
theorem dX9_person_10 : decode cX9_person 10 = .ok (.ifCond .eq 12, 3) := by decide +kernel
theorem dX9_person_13 : decode cX9_person 13 = .ok (.iload_n 2, 1) := by decide +kernel
theorem dX9_person_14 : decode cX9_person 14 = .ok (.iconst 0, 1) := by decide +kernel
theorem dX9_person_15 : decode cX9_person 15 = .ok (.iconst 2, 1) := by decide +kernel
theorem dX9_person_16 : decode cX9_person 16 = .ok (.invokestatic 71, 3) := by decide +kernel
theorem dX9_person_19 : decode cX9_person 19 = .ok (.ifCond .ne 5, 3) := by decide +kernel
theorem dX9_person_22 : decode cX9_person 22 = .ok (.iconst (-1), 1) := by decide +kernel
theorem dX9_person_23 : decode cX9_person 23 = .ok (.ireturn, 1) := by decide +kernel
theorem dX9_person_24 : decode cX9_person 24 = .ok (.iload_n 2, 1) := by decide +kernel
theorem dX9_person_25 : decode cX9_person 25 = .ok (.ifCond .ne 12, 3) := by decide +kernel
theorem dX9_person_28 : decode cX9_person 28 = .ok (.aload_n 0, 1) := by decide +kernel
theorem dX9_person_29 : decode cX9_person 29 = .ok (.getfield 19, 3) := by decide +kernel
theorem dX9_person_32 : decode cX9_person 32 = .ok (.iload_n 1, 1) := by decide +kernel
theorem dX9_person_33 : decode cX9_person 33 = .ok (.iaload, 1) := by decide +kernel
theorem dX9_person_34 : decode cX9_person 34 = .ok (.goto 25, 3) := by decide +kernel
theorem dX9_person_37 : decode cX9_person 37 = .ok (.iload_n 2, 1) := by decide +kernel
theorem dX9_person_38 : decode cX9_person 38 = .ok (.iconst 1, 1) := by decide +kernel
theorem dX9_person_39 : decode cX9_person 39 = .ok (.if_icmp .ne 15, 3) := by decide +kernel
theorem dX9_person_42 : decode cX9_person 42 = .ok (.aload_n 0, 1) := by decide +kernel
theorem dX9_person_43 : decode cX9_person 43 = .ok (.getfield 19, 3) := by decide +kernel
theorem dX9_person_46 : decode cX9_person 46 = .ok (.bipush 6, 2) := by decide +kernel
theorem dX9_person_48 : decode cX9_person 48 = .ok (.iload_n 1, 1) := by decide +kernel
theorem dX9_person_49 : decode cX9_person 49 = .ok (.iadd, 1) := by decide +kernel
theorem dX9_person_50 : decode cX9_person 50 = .ok (.iaload, 1) := by decide +kernel
theorem dX9_person_51 : decode cX9_person 51 = .ok (.goto 8, 3) := by decide +kernel
theorem dX9_person_54 : decode cX9_person 54 = .ok (.aload_n 0, 1) := by decide +kernel
theorem dX9_person_55 : decode cX9_person 55 = .ok (.iload_n 1, 1) := by decide +kernel
theorem dX9_person_56 : decode cX9_person 56 = .ok (.invokevirtual 111, 3) := by decide +kernel
theorem dX9_person_59 : decode cX9_person 59 = .ok (.ireturn, 1) := by decide +kernel
theorem dX9_loan_0 : decode cX9_loan 0 = .ok (.aload_n 0, 1) := by decide +kernel
theorem dX9_loan_1 : decode cX9_loan 1 = .ok (.iconst 0, 1) := by decide +kernel
theorem dX9_loan_2 : decode cX9_loan 2 = .ok (.putfield 68, 3) := by decide +kernel
theorem dX9_loan_5 : decode cX9_loan 5 = .ok (.iload_n 1, 1) := by decide +kernel
theorem dX9_loan_6 : decode cX9_loan 6 = .ok (.iconst 0, 1) := by decide +kernel
theorem dX9_loan_7 : decode cX9_loan 7 = .ok (.aload_n 0, 1) := by decide +kernel
theorem dX9_loan_8 : decode cX9_loan 8 = .ok (.getfield 19, 3) := by decide +kernel
theorem dX9_loan_11 : decode cX9_loan 11 = .ok (.bipush 12, 2) := by decide +kernel
theorem dX9_loan_13 : decode cX9_loan 13 = .ok (.iaload, 1) := by decide +kernel
theorem dX9_loan_14 : decode cX9_loan 14 = .ok (.iconst 1, 1) := by decide +kernel
theorem dX9_loan_15 : decode cX9_loan 15 = .ok (.isub, 1) := by decide +kernel
theorem dX9_loan_16 : decode cX9_loan 16 = .ok (.invokestatic 71, 3) := by decide +kernel
theorem dX9_loan_19 : decode cX9_loan 19 = .ok (.ifCond .eq 28, 3) := by decide +kernel
theorem dX9_loan_22 : decode cX9_loan 22 = .ok (.iload_n 2, 1) := by decide +kernel
theorem dX9_loan_23 : decode cX9_loan 23 = .ok (.iconst 0, 1) := by decide +kernel
theorem dX9_loan_24 : decode cX9_loan 24 = .ok (.iconst 3, 1) := by decide +kernel
theorem dX9_loan_25 : decode cX9_loan 25 = .ok (.invokestatic 71, 3) := by decide +kernel
theorem dX9_loan_28 : decode cX9_loan 28 = .ok (.ifCond .eq 19, 3) := by decide +kernel
theorem dX9_loan_31 : decode cX9_loan 31 = .ok (.aload_n 0, 1) := by decide +kernel
theorem dX9_loan_32 : decode cX9_loan 32 = .ok (.getfield 19, 3) := by decide +kernel
theorem dX9_loan_35 : decode cX9_loan 35 = .ok (.bipush 13, 2) := by decide +kernel
theorem dX9_loan_37 : decode cX9_loan 37 = .ok (.iconst 4, 1) := by decide +kernel
theorem dX9_loan_38 : decode cX9_loan 38 = .ok (.iload_n 1, 1) := by decide +kernel
theorem dX9_loan_39 : decode cX9_loan 39 = .ok (.imul, 1) := by decide +kernel
theorem dX9_loan_40 : decode cX9_loan 40 = .ok (.iadd, 1) := by decide +kernel
theorem dX9_loan_41 : decode cX9_loan 41 = .ok (.iload_n 2, 1) := by decide +kernel
theorem dX9_loan_42 : decode cX9_loan 42 = .ok (.iadd, 1) := by decide +kernel
theorem dX9_loan_43 : decode cX9_loan 43 = .ok (.iaload, 1) := by decide +kernel
theorem dX9_loan_44 : decode cX9_loan 44 = .ok (.goto 4, 3) := by decide +kernel
theorem dX9_loan_47 : decode cX9_loan 47 = .ok (.iconst (-1), 1) := by decide +kernel
theorem dX9_loan_48 : decode cX9_loan 48 = .ok (.ireturn, 1) := by decide +kernel
theorem dX9_dueOf_0 : decode cX9_dueOf 0 = .ok (.iload_n 1, 1) := by decide +kernel
theorem dX9_dueOf_1 : decode cX9_dueOf 1 = .ok (.iload_n 1, 1) := by decide +kernel
theorem dX9_dueOf_2 : decode cX9_dueOf 2 = .ok (.aload_n 0, 1) := by decide +kernel
theorem dX9_dueOf_3 : decode cX9_dueOf 3 = .ok (.getfield 62, 3) := by decide +kernel
theorem dX9_dueOf_6 : decode cX9_dueOf 6 = .ok (.imul, 1) := by decide +kernel
theorem dX9_dueOf_7 : decode cX9_dueOf 7 = .ok (.bipush 100, 2) := by decide +kernel
theorem dX9_dueOf_9 : decode cX9_dueOf 9 = .ok (.idiv, 1) := by decide +kernel
theorem dX9_dueOf_10 : decode cX9_dueOf 10 = .ok (.iadd, 1) := by decide +kernel
theorem dX9_dueOf_11 : decode cX9_dueOf 11 = .ok (.ireturn, 1) := by decide +kernel
theorem dX9_isSpan_0 : decode cX9_isSpan 0 = .ok (.iload_n 0, 1) := by decide +kernel
theorem dX9_isSpan_1 : decode cX9_isSpan 1 = .ok (.iconst 1, 1) := by decide +kernel
theorem dX9_isSpan_2 : decode cX9_isSpan 2 = .ok (.sipush 200, 3) := by decide +kernel
theorem dX9_isSpan_5 : decode cX9_isSpan 5 = .ok (.invokestatic 71, 3) := by decide +kernel
theorem dX9_isSpan_8 : decode cX9_isSpan 8 = .ok (.ireturn, 1) := by decide +kernel
theorem dX9_mayAsk_0 : decode cX9_mayAsk 0 = .ok (.aload_n 0, 1) := by decide +kernel
theorem dX9_mayAsk_1 : decode cX9_mayAsk 1 = .ok (.iload_n 1, 1) := by decide +kernel
theorem dX9_mayAsk_2 : decode cX9_mayAsk 2 = .ok (.invokevirtual 107, 3) := by decide +kernel
theorem dX9_mayAsk_5 : decode cX9_mayAsk 5 = .ok (.ifCond .eq 53, 3) := by decide +kernel
theorem dX9_mayAsk_8 : decode cX9_mayAsk 8 = .ok (.aload_n 0, 1) := by decide +kernel
theorem dX9_mayAsk_9 : decode cX9_mayAsk 9 = .ok (.iload_n 2, 1) := by decide +kernel
theorem dX9_mayAsk_10 : decode cX9_mayAsk 10 = .ok (.invokevirtual 107, 3) := by decide +kernel
theorem dX9_mayAsk_13 : decode cX9_mayAsk 13 = .ok (.ifCond .eq 45, 3) := by decide +kernel
theorem dX9_mayAsk_16 : decode cX9_mayAsk 16 = .ok (.iload_n 1, 1) := by decide +kernel
theorem dX9_mayAsk_17 : decode cX9_mayAsk 17 = .ok (.iload_n 2, 1) := by decide +kernel
theorem dX9_mayAsk_18 : decode cX9_mayAsk 18 = .ok (.if_icmp .eq 40, 3) := by decide +kernel
theorem dX9_mayAsk_21 : decode cX9_mayAsk 21 = .ok (.iload_n 3, 1) := by decide +kernel
theorem dX9_mayAsk_22 : decode cX9_mayAsk 22 = .ok (.invokestatic 114, 3) := by decide +kernel
theorem dX9_mayAsk_25 : decode cX9_mayAsk 25 = .ok (.ifCond .eq 33, 3) := by decide +kernel
theorem dX9_mayAsk_28 : decode cX9_mayAsk 28 = .ok (.iload 4, 2) := by decide +kernel
theorem dX9_mayAsk_30 : decode cX9_mayAsk 30 = .ok (.invokestatic 114, 3) := by decide +kernel
theorem dX9_mayAsk_33 : decode cX9_mayAsk 33 = .ok (.ifCond .eq 25, 3) := by decide +kernel
theorem dX9_mayAsk_36 : decode cX9_mayAsk 36 = .ok (.aload_n 0, 1) := by decide +kernel
theorem dX9_mayAsk_37 : decode cX9_mayAsk 37 = .ok (.getfield 19, 3) := by decide +kernel
theorem dX9_mayAsk_40 : decode cX9_mayAsk 40 = .ok (.iload_n 1, 1) := by decide +kernel
theorem dX9_mayAsk_41 : decode cX9_mayAsk 41 = .ok (.iaload, 1) := by decide +kernel
theorem dX9_mayAsk_42 : decode cX9_mayAsk 42 = .ok (.ifCond .le 16, 3) := by decide +kernel
theorem dX9_mayAsk_45 : decode cX9_mayAsk 45 = .ok (.aload_n 0, 1) := by decide +kernel
theorem dX9_mayAsk_46 : decode cX9_mayAsk 46 = .ok (.getfield 19, 3) := by decide +kernel
theorem dX9_mayAsk_49 : decode cX9_mayAsk 49 = .ok (.iload_n 2, 1) := by decide +kernel
theorem dX9_mayAsk_50 : decode cX9_mayAsk 50 = .ok (.iaload, 1) := by decide +kernel
theorem dX9_mayAsk_51 : decode cX9_mayAsk 51 = .ok (.ifCond .le 7, 3) := by decide +kernel
theorem dX9_mayAsk_54 : decode cX9_mayAsk 54 = .ok (.iconst 1, 1) := by decide +kernel
theorem dX9_mayAsk_55 : decode cX9_mayAsk 55 = .ok (.goto 4, 3) := by decide +kernel
theorem dX9_mayAsk_58 : decode cX9_mayAsk 58 = .ok (.iconst 0, 1) := by decide +kernel
theorem dX9_mayAsk_59 : decode cX9_mayAsk 59 = .ok (.ireturn, 1) := by decide +kernel
theorem dX9_says_0 : decode cX9_says 0 = .ok (.aload_n 0, 1) := by decide +kernel
theorem dX9_says_1 : decode cX9_says 1 = .ok (.getfield 104, 3) := by decide +kernel
theorem dX9_says_4 : decode cX9_says 4 = .ok (.iconst 2, 1) := by decide +kernel
theorem dX9_says_5 : decode cX9_says 5 = .ok (.if_icmp .eq 13, 3) := by decide +kernel
theorem dX9_says_8 : decode cX9_says 8 = .ok (.aload_n 0, 1) := by decide +kernel
theorem dX9_says_9 : decode cX9_says 9 = .ok (.getfield 19, 3) := by decide +kernel
theorem dX9_says_12 : decode cX9_says 12 = .ok (.iload_n 1, 1) := by decide +kernel
theorem dX9_says_13 : decode cX9_says 13 = .ok (.iaload, 1) := by decide +kernel
theorem dX9_says_14 : decode cX9_says 14 = .ok (.iload_n 3, 1) := by decide +kernel
theorem dX9_says_15 : decode cX9_says 15 = .ok (.if_icmp .gt 5, 3) := by decide +kernel
theorem dX9_says_18 : decode cX9_says 18 = .ok (.iconst 0, 1) := by decide +kernel
theorem dX9_says_19 : decode cX9_says 19 = .ok (.ireturn, 1) := by decide +kernel
theorem dX9_says_20 : decode cX9_says 20 = .ok (.aload_n 0, 1) := by decide +kernel
theorem dX9_says_21 : decode cX9_says 21 = .ok (.getfield 104, 3) := by decide +kernel
theorem dX9_says_24 : decode cX9_says 24 = .ok (.iconst 1, 1) := by decide +kernel
theorem dX9_says_25 : decode cX9_says 25 = .ok (.if_icmp .ne 5, 3) := by decide +kernel
theorem dX9_says_28 : decode cX9_says 28 = .ok (.iconst 1, 1) := by decide +kernel
theorem dX9_says_29 : decode cX9_says 29 = .ok (.ireturn, 1) := by decide +kernel
theorem dX9_says_30 : decode cX9_says 30 = .ok (.aload_n 0, 1) := by decide +kernel
theorem dX9_says_31 : decode cX9_says 31 = .ok (.getfield 19, 3) := by decide +kernel
theorem dX9_says_34 : decode cX9_says 34 = .ok (.iload_n 2, 1) := by decide +kernel
theorem dX9_says_35 : decode cX9_says 35 = .ok (.iaload, 1) := by decide +kernel
theorem dX9_says_36 : decode cX9_says 36 = .ok (.iload_n 3, 1) := by decide +kernel
theorem dX9_says_37 : decode cX9_says 37 = .ok (.iadd, 1) := by decide +kernel
theorem dX9_says_38 : decode cX9_says 38 = .ok (.iload 4, 2) := by decide +kernel
theorem dX9_says_40 : decode cX9_says 40 = .ok (.isub, 1) := by decide +kernel
theorem dX9_says_41 : decode cX9_says 41 = .ok (.istore 5, 2) := by decide +kernel
theorem dX9_says_43 : decode cX9_says 43 = .ok (.iconst 0, 1) := by decide +kernel
theorem dX9_says_44 : decode cX9_says 44 = .ok (.istore 6, 2) := by decide +kernel
theorem dX9_says_46 : decode cX9_says 46 = .ok (.iload 6, 2) := by decide +kernel
theorem dX9_says_48 : decode cX9_says 48 = .ok (.aload_n 0, 1) := by decide +kernel
theorem dX9_says_49 : decode cX9_says 49 = .ok (.getfield 19, 3) := by decide +kernel
theorem dX9_says_52 : decode cX9_says 52 = .ok (.bipush 12, 2) := by decide +kernel
theorem dX9_says_54 : decode cX9_says 54 = .ok (.iaload, 1) := by decide +kernel
theorem dX9_says_55 : decode cX9_says 55 = .ok (.if_icmp .ge 73, 3) := by decide +kernel
theorem dX9_says_58 : decode cX9_says 58 = .ok (.iload 5, 2) := by decide +kernel
theorem dX9_says_60 : decode cX9_says 60 = .ok (.aload_n 0, 1) := by decide +kernel
theorem dX9_says_61 : decode cX9_says 61 = .ok (.getfield 19, 3) := by decide +kernel
theorem dX9_says_64 : decode cX9_says 64 = .ok (.bipush 13, 2) := by decide +kernel
theorem dX9_says_66 : decode cX9_says 66 = .ok (.iconst 4, 1) := by decide +kernel
theorem dX9_says_67 : decode cX9_says 67 = .ok (.iload 6, 2) := by decide +kernel
theorem dX9_says_69 : decode cX9_says 69 = .ok (.imul, 1) := by decide +kernel
theorem dX9_says_70 : decode cX9_says 70 = .ok (.iadd, 1) := by decide +kernel
theorem dX9_says_71 : decode cX9_says 71 = .ok (.iconst 1, 1) := by decide +kernel
theorem dX9_says_72 : decode cX9_says 72 = .ok (.iadd, 1) := by decide +kernel
theorem dX9_says_73 : decode cX9_says 73 = .ok (.iaload, 1) := by decide +kernel
theorem dX9_says_74 : decode cX9_says 74 = .ok (.iload_n 2, 1) := by decide +kernel
theorem dX9_says_75 : decode cX9_says 75 = .ok (.if_icmp .ne 43, 3) := by decide +kernel
theorem dX9_says_78 : decode cX9_says 78 = .ok (.aload_n 0, 1) := by decide +kernel
theorem dX9_says_79 : decode cX9_says 79 = .ok (.getfield 19, 3) := by decide +kernel
theorem dX9_says_82 : decode cX9_says 82 = .ok (.bipush 13, 2) := by decide +kernel
theorem dX9_says_84 : decode cX9_says 84 = .ok (.iconst 4, 1) := by decide +kernel
theorem dX9_says_85 : decode cX9_says 85 = .ok (.iload 6, 2) := by decide +kernel
theorem dX9_says_87 : decode cX9_says 87 = .ok (.imul, 1) := by decide +kernel
theorem dX9_says_88 : decode cX9_says 88 = .ok (.iadd, 1) := by decide +kernel
theorem dX9_says_89 : decode cX9_says 89 = .ok (.iconst 3, 1) := by decide +kernel
theorem dX9_says_90 : decode cX9_says 90 = .ok (.iadd, 1) := by decide +kernel
theorem dX9_says_91 : decode cX9_says 91 = .ok (.iaload, 1) := by decide +kernel
theorem dX9_says_92 : decode cX9_says 92 = .ok (.iload 4, 2) := by decide +kernel
theorem dX9_says_94 : decode cX9_says 94 = .ok (.if_icmp .gt 24, 3) := by decide +kernel
theorem dX9_says_97 : decode cX9_says 97 = .ok (.aload_n 0, 1) := by decide +kernel
theorem dX9_says_98 : decode cX9_says 98 = .ok (.aload_n 0, 1) := by decide +kernel
theorem dX9_says_99 : decode cX9_says 99 = .ok (.getfield 19, 3) := by decide +kernel
theorem dX9_says_102 : decode cX9_says 102 = .ok (.bipush 13, 2) := by decide +kernel
theorem dX9_says_104 : decode cX9_says 104 = .ok (.iconst 4, 1) := by decide +kernel
theorem dX9_says_105 : decode cX9_says 105 = .ok (.iload 6, 2) := by decide +kernel
theorem dX9_says_107 : decode cX9_says 107 = .ok (.imul, 1) := by decide +kernel
theorem dX9_says_108 : decode cX9_says 108 = .ok (.iadd, 1) := by decide +kernel
theorem dX9_says_109 : decode cX9_says 109 = .ok (.iconst 2, 1) := by decide +kernel
theorem dX9_says_110 : decode cX9_says 110 = .ok (.iadd, 1) := by decide +kernel
theorem dX9_says_111 : decode cX9_says 111 = .ok (.iaload, 1) := by decide +kernel
theorem dX9_says_112 : decode cX9_says 112 = .ok (.invokevirtual 117, 3) := by decide +kernel
theorem dX9_says_115 : decode cX9_says 115 = .ok (.goto 4, 3) := by decide +kernel
theorem dX9_says_118 : decode cX9_says 118 = .ok (.iconst 0, 1) := by decide +kernel
theorem dX9_says_119 : decode cX9_says 119 = .ok (.isub, 1) := by decide +kernel
theorem dX9_says_120 : decode cX9_says 120 = .ok (.istore 5, 2) := by decide +kernel
theorem dX9_says_122 : decode cX9_says 122 = .ok (.iinc 6 1, 3) := by decide +kernel
theorem dX9_says_125 : decode cX9_says 125 = .ok (.goto (-79), 3) := by decide +kernel
theorem dX9_says_128 : decode cX9_says 128 = .ok (.iload 5, 2) := by decide +kernel
theorem dX9_says_130 : decode cX9_says 130 = .ok (.aload_n 0, 1) := by decide +kernel
theorem dX9_says_131 : decode cX9_says 131 = .ok (.iload_n 3, 1) := by decide +kernel
theorem dX9_says_132 : decode cX9_says 132 = .ok (.invokevirtual 117, 3) := by decide +kernel
theorem dX9_says_135 : decode cX9_says 135 = .ok (.if_icmp .le 7, 3) := by decide +kernel
theorem dX9_says_138 : decode cX9_says 138 = .ok (.iconst 1, 1) := by decide +kernel
theorem dX9_says_139 : decode cX9_says 139 = .ok (.goto 4, 3) := by decide +kernel
theorem dX9_says_142 : decode cX9_says 142 = .ok (.iconst 0, 1) := by decide +kernel
theorem dX9_says_143 : decode cX9_says 143 = .ok (.ireturn, 1) := by decide +kernel
theorem dX9_notary_0 : decode cX9_notary 0 = .ok (.aload_n 0, 1) := by decide +kernel
theorem dX9_notary_1 : decode cX9_notary 1 = .ok (.iconst 0, 1) := by decide +kernel
theorem dX9_notary_2 : decode cX9_notary 2 = .ok (.putfield 68, 3) := by decide +kernel
theorem dX9_notary_5 : decode cX9_notary 5 = .ok (.aload_n 0, 1) := by decide +kernel
theorem dX9_notary_6 : decode cX9_notary 6 = .ok (.iload_n 1, 1) := by decide +kernel
theorem dX9_notary_7 : decode cX9_notary 7 = .ok (.iload_n 2, 1) := by decide +kernel
theorem dX9_notary_8 : decode cX9_notary 8 = .ok (.iload_n 3, 1) := by decide +kernel
theorem dX9_notary_9 : decode cX9_notary 9 = .ok (.iload 4, 2) := by decide +kernel
theorem dX9_notary_11 : decode cX9_notary 11 = .ok (.invokevirtual 120, 3) := by decide +kernel
theorem dX9_notary_14 : decode cX9_notary 14 = .ok (.ifCond .ne 7, 3) := by decide +kernel
theorem dX9_notary_17 : decode cX9_notary 17 = .ok (.iconst (-1), 1) := by decide +kernel
theorem dX9_notary_18 : decode cX9_notary 18 = .ok (.goto 20, 3) := by decide +kernel
theorem dX9_notary_21 : decode cX9_notary 21 = .ok (.aload_n 0, 1) := by decide +kernel
theorem dX9_notary_22 : decode cX9_notary 22 = .ok (.iload_n 1, 1) := by decide +kernel
theorem dX9_notary_23 : decode cX9_notary 23 = .ok (.iload_n 2, 1) := by decide +kernel
theorem dX9_notary_24 : decode cX9_notary 24 = .ok (.iload_n 3, 1) := by decide +kernel
theorem dX9_notary_25 : decode cX9_notary 25 = .ok (.iload 4, 2) := by decide +kernel
theorem dX9_notary_27 : decode cX9_notary 27 = .ok (.invokevirtual 124, 3) := by decide +kernel
theorem dX9_notary_30 : decode cX9_notary 30 = .ok (.ifCond .eq 7, 3) := by decide +kernel
theorem dX9_notary_33 : decode cX9_notary 33 = .ok (.iconst 1, 1) := by decide +kernel
theorem dX9_notary_34 : decode cX9_notary 34 = .ok (.goto 4, 3) := by decide +kernel
theorem dX9_notary_37 : decode cX9_notary 37 = .ok (.iconst 0, 1) := by decide +kernel
theorem dX9_notary_38 : decode cX9_notary 38 = .ok (.ireturn, 1) := by decide +kernel
theorem dX9_notes_0 : decode cX9_notes 0 = .ok (.aload_n 0, 1) := by decide +kernel
theorem dX9_notes_1 : decode cX9_notes 1 = .ok (.getfield 92, 3) := by decide +kernel
theorem dX9_notes_4 : decode cX9_notes 4 = .ok (.bipush 6, 2) := by decide +kernel
theorem dX9_notes_6 : decode cX9_notes 6 = .ok (.if_icmp .ne 38, 3) := by decide +kernel
theorem dX9_notes_9 : decode cX9_notes 9 = .ok (.iconst 0, 1) := by decide +kernel
theorem dX9_notes_10 : decode cX9_notes 10 = .ok (.istore_n 1, 1) := by decide +kernel
theorem dX9_notes_11 : decode cX9_notes 11 = .ok (.iload_n 1, 1) := by decide +kernel
theorem dX9_notes_12 : decode cX9_notes 12 = .ok (.sipush 230, 3) := by decide +kernel
theorem dX9_notes_15 : decode cX9_notes 15 = .ok (.if_icmp .ge 24, 3) := by decide +kernel
theorem dX9_notes_18 : decode cX9_notes 18 = .ok (.aload_n 0, 1) := by decide +kernel
theorem dX9_notes_19 : decode cX9_notes 19 = .ok (.getfield 25, 3) := by decide +kernel
theorem dX9_notes_22 : decode cX9_notes 22 = .ok (.iload_n 1, 1) := by decide +kernel
theorem dX9_notes_23 : decode cX9_notes 23 = .ok (.aload_n 0, 1) := by decide +kernel
theorem dX9_notes_24 : decode cX9_notes 24 = .ok (.getfield 25, 3) := by decide +kernel
theorem dX9_notes_27 : decode cX9_notes 27 = .ok (.iload_n 1, 1) := by decide +kernel
theorem dX9_notes_28 : decode cX9_notes 28 = .ok (.bipush 46, 2) := by decide +kernel
theorem dX9_notes_30 : decode cX9_notes 30 = .ok (.iadd, 1) := by decide +kernel
theorem dX9_notes_31 : decode cX9_notes 31 = .ok (.iaload, 1) := by decide +kernel
theorem dX9_notes_32 : decode cX9_notes 32 = .ok (.iastore, 1) := by decide +kernel
theorem dX9_notes_33 : decode cX9_notes 33 = .ok (.iinc 1 1, 3) := by decide +kernel
theorem dX9_notes_36 : decode cX9_notes 36 = .ok (.goto (-25), 3) := by decide +kernel
theorem dX9_notes_39 : decode cX9_notes 39 = .ok (.aload_n 0, 1) := by decide +kernel
theorem dX9_notes_40 : decode cX9_notes 40 = .ok (.iconst 5, 1) := by decide +kernel
theorem dX9_notes_41 : decode cX9_notes 41 = .ok (.putfield 92, 3) := by decide +kernel
theorem dX9_notes_44 : decode cX9_notes 44 = .ok (.iconst 0, 1) := by decide +kernel
theorem dX9_notes_45 : decode cX9_notes 45 = .ok (.istore_n 1, 1) := by decide +kernel
theorem dX9_notes_46 : decode cX9_notes 46 = .ok (.iload_n 1, 1) := by decide +kernel
theorem dX9_notes_47 : decode cX9_notes 47 = .ok (.bipush 46, 2) := by decide +kernel
theorem dX9_notes_49 : decode cX9_notes 49 = .ok (.if_icmp .ge 29, 3) := by decide +kernel
theorem dX9_notes_52 : decode cX9_notes 52 = .ok (.aload_n 0, 1) := by decide +kernel
theorem dX9_notes_53 : decode cX9_notes 53 = .ok (.getfield 25, 3) := by decide +kernel
theorem dX9_notes_56 : decode cX9_notes 56 = .ok (.bipush 46, 2) := by decide +kernel
theorem dX9_notes_58 : decode cX9_notes 58 = .ok (.aload_n 0, 1) := by decide +kernel
theorem dX9_notes_59 : decode cX9_notes 59 = .ok (.getfield 92, 3) := by decide +kernel
theorem dX9_notes_62 : decode cX9_notes 62 = .ok (.imul, 1) := by decide +kernel
theorem dX9_notes_63 : decode cX9_notes 63 = .ok (.iload_n 1, 1) := by decide +kernel
theorem dX9_notes_64 : decode cX9_notes 64 = .ok (.iadd, 1) := by decide +kernel
theorem dX9_notes_65 : decode cX9_notes 65 = .ok (.aload_n 0, 1) := by decide +kernel
theorem dX9_notes_66 : decode cX9_notes 66 = .ok (.getfield 19, 3) := by decide +kernel
theorem dX9_notes_69 : decode cX9_notes 69 = .ok (.iload_n 1, 1) := by decide +kernel
theorem dX9_notes_70 : decode cX9_notes 70 = .ok (.iaload, 1) := by decide +kernel
theorem dX9_notes_71 : decode cX9_notes 71 = .ok (.iastore, 1) := by decide +kernel
theorem dX9_notes_72 : decode cX9_notes 72 = .ok (.iinc 1 1, 3) := by decide +kernel
theorem dX9_notes_75 : decode cX9_notes 75 = .ok (.goto (-29), 3) := by decide +kernel
theorem dX9_notes_78 : decode cX9_notes 78 = .ok (.aload_n 0, 1) := by decide +kernel
theorem dX9_notes_79 : decode cX9_notes 79 = .ok (.dup, 1) := by decide +kernel
theorem dX9_notes_80 : decode cX9_notes 80 = .ok (.getfield 92, 3) := by decide +kernel
theorem dX9_notes_83 : decode cX9_notes 83 = .ok (.iconst 1, 1) := by decide +kernel
theorem dX9_notes_84 : decode cX9_notes 84 = .ok (.iadd, 1) := by decide +kernel
theorem dX9_notes_85 : decode cX9_notes 85 = .ok (.putfield 92, 3) := by decide +kernel
theorem dX9_notes_88 : decode cX9_notes 88 = .ok (.return_, 1) := by decide +kernel
theorem dX9_lends_0 : decode cX9_lends 0 = .ok (.bipush 13, 2) := by decide +kernel
theorem dX9_lends_2 : decode cX9_lends 2 = .ok (.iconst 4, 1) := by decide +kernel
theorem dX9_lends_3 : decode cX9_lends 3 = .ok (.aload_n 0, 1) := by decide +kernel
theorem dX9_lends_4 : decode cX9_lends 4 = .ok (.getfield 19, 3) := by decide +kernel
theorem dX9_lends_7 : decode cX9_lends 7 = .ok (.bipush 12, 2) := by decide +kernel
theorem dX9_lends_9 : decode cX9_lends 9 = .ok (.iaload, 1) := by decide +kernel
theorem dX9_lends_10 : decode cX9_lends 10 = .ok (.imul, 1) := by decide +kernel
theorem dX9_lends_11 : decode cX9_lends 11 = .ok (.iadd, 1) := by decide +kernel
theorem dX9_lends_12 : decode cX9_lends 12 = .ok (.istore 5, 2) := by decide +kernel
theorem dX9_lends_14 : decode cX9_lends 14 = .ok (.aload_n 0, 1) := by decide +kernel
theorem dX9_lends_15 : decode cX9_lends 15 = .ok (.getfield 19, 3) := by decide +kernel
theorem dX9_lends_18 : decode cX9_lends 18 = .ok (.iload 5, 2) := by decide +kernel
theorem dX9_lends_20 : decode cX9_lends 20 = .ok (.iload_n 1, 1) := by decide +kernel
theorem dX9_lends_21 : decode cX9_lends 21 = .ok (.iastore, 1) := by decide +kernel
theorem dX9_lends_22 : decode cX9_lends 22 = .ok (.aload_n 0, 1) := by decide +kernel
theorem dX9_lends_23 : decode cX9_lends 23 = .ok (.getfield 19, 3) := by decide +kernel
theorem dX9_lends_26 : decode cX9_lends 26 = .ok (.iload 5, 2) := by decide +kernel
theorem dX9_lends_28 : decode cX9_lends 28 = .ok (.iconst 1, 1) := by decide +kernel
theorem dX9_lends_29 : decode cX9_lends 29 = .ok (.iadd, 1) := by decide +kernel
theorem dX9_lends_30 : decode cX9_lends 30 = .ok (.iload_n 2, 1) := by decide +kernel
theorem dX9_lends_31 : decode cX9_lends 31 = .ok (.iastore, 1) := by decide +kernel
theorem dX9_lends_32 : decode cX9_lends 32 = .ok (.aload_n 0, 1) := by decide +kernel
theorem dX9_lends_33 : decode cX9_lends 33 = .ok (.getfield 19, 3) := by decide +kernel
theorem dX9_lends_36 : decode cX9_lends 36 = .ok (.iload 5, 2) := by decide +kernel
theorem dX9_lends_38 : decode cX9_lends 38 = .ok (.iconst 2, 1) := by decide +kernel
theorem dX9_lends_39 : decode cX9_lends 39 = .ok (.iadd, 1) := by decide +kernel
theorem dX9_lends_40 : decode cX9_lends 40 = .ok (.iload_n 3, 1) := by decide +kernel
theorem dX9_lends_41 : decode cX9_lends 41 = .ok (.iastore, 1) := by decide +kernel
theorem dX9_lends_42 : decode cX9_lends 42 = .ok (.aload_n 0, 1) := by decide +kernel
theorem dX9_lends_43 : decode cX9_lends 43 = .ok (.getfield 19, 3) := by decide +kernel
theorem dX9_lends_46 : decode cX9_lends 46 = .ok (.iload 5, 2) := by decide +kernel
theorem dX9_lends_48 : decode cX9_lends 48 = .ok (.iconst 3, 1) := by decide +kernel
theorem dX9_lends_49 : decode cX9_lends 49 = .ok (.iadd, 1) := by decide +kernel
theorem dX9_lends_50 : decode cX9_lends 50 = .ok (.iload 4, 2) := by decide +kernel
theorem dX9_lends_52 : decode cX9_lends 52 = .ok (.iastore, 1) := by decide +kernel
theorem dX9_lends_53 : decode cX9_lends 53 = .ok (.aload_n 0, 1) := by decide +kernel
theorem dX9_lends_54 : decode cX9_lends 54 = .ok (.getfield 34, 3) := by decide +kernel
theorem dX9_lends_57 : decode cX9_lends 57 = .ok (.aload_n 0, 1) := by decide +kernel
theorem dX9_lends_58 : decode cX9_lends 58 = .ok (.getfield 19, 3) := by decide +kernel
theorem dX9_lends_61 : decode cX9_lends 61 = .ok (.bipush 12, 2) := by decide +kernel
theorem dX9_lends_63 : decode cX9_lends 63 = .ok (.iaload, 1) := by decide +kernel
theorem dX9_lends_64 : decode cX9_lends 64 = .ok (.bipush 8, 2) := by decide +kernel
theorem dX9_lends_66 : decode cX9_lends 66 = .ok (.iastore, 1) := by decide +kernel
theorem dX9_lends_67 : decode cX9_lends 67 = .ok (.aload_n 0, 1) := by decide +kernel
theorem dX9_lends_68 : decode cX9_lends 68 = .ok (.getfield 19, 3) := by decide +kernel
theorem dX9_lends_71 : decode cX9_lends 71 = .ok (.bipush 12, 2) := by decide +kernel
theorem dX9_lends_73 : decode cX9_lends 73 = .ok (.dup2, 1) := by decide +kernel
theorem dX9_lends_74 : decode cX9_lends 74 = .ok (.iaload, 1) := by decide +kernel
theorem dX9_lends_75 : decode cX9_lends 75 = .ok (.iconst 1, 1) := by decide +kernel
theorem dX9_lends_76 : decode cX9_lends 76 = .ok (.iadd, 1) := by decide +kernel
theorem dX9_lends_77 : decode cX9_lends 77 = .ok (.iastore, 1) := by decide +kernel
theorem dX9_lends_78 : decode cX9_lends 78 = .ok (.aload_n 0, 1) := by decide +kernel
theorem dX9_lends_79 : decode cX9_lends 79 = .ok (.getfield 19, 3) := by decide +kernel
theorem dX9_lends_82 : decode cX9_lends 82 = .ok (.iload_n 1, 1) := by decide +kernel
theorem dX9_lends_83 : decode cX9_lends 83 = .ok (.dup2, 1) := by decide +kernel
theorem dX9_lends_84 : decode cX9_lends 84 = .ok (.iaload, 1) := by decide +kernel
theorem dX9_lends_85 : decode cX9_lends 85 = .ok (.iload_n 3, 1) := by decide +kernel
theorem dX9_lends_86 : decode cX9_lends 86 = .ok (.isub, 1) := by decide +kernel
theorem dX9_lends_87 : decode cX9_lends 87 = .ok (.iastore, 1) := by decide +kernel
theorem dX9_lends_88 : decode cX9_lends 88 = .ok (.aload_n 0, 1) := by decide +kernel
theorem dX9_lends_89 : decode cX9_lends 89 = .ok (.getfield 19, 3) := by decide +kernel
theorem dX9_lends_92 : decode cX9_lends 92 = .ok (.iload_n 2, 1) := by decide +kernel
theorem dX9_lends_93 : decode cX9_lends 93 = .ok (.dup2, 1) := by decide +kernel
theorem dX9_lends_94 : decode cX9_lends 94 = .ok (.iaload, 1) := by decide +kernel
theorem dX9_lends_95 : decode cX9_lends 95 = .ok (.iload_n 3, 1) := by decide +kernel
theorem dX9_lends_96 : decode cX9_lends 96 = .ok (.iadd, 1) := by decide +kernel
theorem dX9_lends_97 : decode cX9_lends 97 = .ok (.iastore, 1) := by decide +kernel
theorem dX9_lends_98 : decode cX9_lends 98 = .ok (.return_, 1) := by decide +kernel
theorem dX9_lend_0 : decode cX9_lend 0 = .ok (.aload_n 0, 1) := by decide +kernel
theorem dX9_lend_1 : decode cX9_lend 1 = .ok (.iconst 0, 1) := by decide +kernel
theorem dX9_lend_2 : decode cX9_lend 2 = .ok (.putfield 68, 3) := by decide +kernel
theorem dX9_lend_5 : decode cX9_lend 5 = .ok (.aload_n 0, 1) := by decide +kernel
theorem dX9_lend_6 : decode cX9_lend 6 = .ok (.iload_n 1, 1) := by decide +kernel
theorem dX9_lend_7 : decode cX9_lend 7 = .ok (.iload_n 2, 1) := by decide +kernel
theorem dX9_lend_8 : decode cX9_lend 8 = .ok (.iload_n 3, 1) := by decide +kernel
theorem dX9_lend_9 : decode cX9_lend 9 = .ok (.iload 4, 2) := by decide +kernel
theorem dX9_lend_11 : decode cX9_lend 11 = .ok (.invokevirtual 120, 3) := by decide +kernel
theorem dX9_lend_14 : decode cX9_lend 14 = .ok (.ifCond .ne 5, 3) := by decide +kernel
theorem dX9_lend_17 : decode cX9_lend 17 = .ok (.iconst (-1), 1) := by decide +kernel
theorem dX9_lend_18 : decode cX9_lend 18 = .ok (.ireturn, 1) := by decide +kernel
theorem dX9_lend_19 : decode cX9_lend 19 = .ok (.aload_n 0, 1) := by decide +kernel
theorem dX9_lend_20 : decode cX9_lend 20 = .ok (.iload_n 1, 1) := by decide +kernel
theorem dX9_lend_21 : decode cX9_lend 21 = .ok (.iload_n 2, 1) := by decide +kernel
theorem dX9_lend_22 : decode cX9_lend 22 = .ok (.iload_n 3, 1) := by decide +kernel
theorem dX9_lend_23 : decode cX9_lend 23 = .ok (.iload 4, 2) := by decide +kernel
theorem dX9_lend_25 : decode cX9_lend 25 = .ok (.invokevirtual 124, 3) := by decide +kernel
theorem dX9_lend_28 : decode cX9_lend 28 = .ok (.ifCond .ne 6, 3) := by decide +kernel
theorem dX9_lend_31 : decode cX9_lend 31 = .ok (.bipush (-2), 2) := by decide +kernel
theorem dX9_lend_33 : decode cX9_lend 33 = .ok (.ireturn, 1) := by decide +kernel
theorem dX9_lend_34 : decode cX9_lend 34 = .ok (.aload_n 0, 1) := by decide +kernel
theorem dX9_lend_35 : decode cX9_lend 35 = .ok (.getfield 19, 3) := by decide +kernel
theorem dX9_lend_38 : decode cX9_lend 38 = .ok (.bipush 12, 2) := by decide +kernel
theorem dX9_lend_40 : decode cX9_lend 40 = .ok (.iaload, 1) := by decide +kernel
theorem dX9_lend_41 : decode cX9_lend 41 = .ok (.bipush 8, 2) := by decide +kernel
theorem dX9_lend_43 : decode cX9_lend 43 = .ok (.if_icmp .ne 6, 3) := by decide +kernel
theorem dX9_lend_46 : decode cX9_lend 46 = .ok (.bipush (-3), 2) := by decide +kernel
theorem dX9_lend_48 : decode cX9_lend 48 = .ok (.ireturn, 1) := by decide +kernel
theorem dX9_lend_49 : decode cX9_lend 49 = .ok (.aload_n 0, 1) := by decide +kernel
theorem dX9_lend_50 : decode cX9_lend 50 = .ok (.invokevirtual 127, 3) := by decide +kernel
theorem dX9_lend_53 : decode cX9_lend 53 = .ok (.aload_n 0, 1) := by decide +kernel
theorem dX9_lend_54 : decode cX9_lend 54 = .ok (.iload_n 1, 1) := by decide +kernel
theorem dX9_lend_55 : decode cX9_lend 55 = .ok (.iload_n 2, 1) := by decide +kernel
theorem dX9_lend_56 : decode cX9_lend 56 = .ok (.iload_n 3, 1) := by decide +kernel
theorem dX9_lend_57 : decode cX9_lend 57 = .ok (.iload 4, 2) := by decide +kernel
theorem dX9_lend_59 : decode cX9_lend 59 = .ok (.invokevirtual 130, 3) := by decide +kernel
theorem dX9_lend_62 : decode cX9_lend 62 = .ok (.aload_n 0, 1) := by decide +kernel
theorem dX9_lend_63 : decode cX9_lend 63 = .ok (.getfield 19, 3) := by decide +kernel
theorem dX9_lend_66 : decode cX9_lend 66 = .ok (.bipush 12, 2) := by decide +kernel
theorem dX9_lend_68 : decode cX9_lend 68 = .ok (.iaload, 1) := by decide +kernel
theorem dX9_lend_69 : decode cX9_lend 69 = .ok (.ireturn, 1) := by decide +kernel
theorem dX9_gives_0 : decode cX9_gives 0 = .ok (.iload_n 3, 1) := by decide +kernel
theorem dX9_gives_1 : decode cX9_gives 1 = .ok (.aload_n 0, 1) := by decide +kernel
theorem dX9_gives_2 : decode cX9_gives 2 = .ok (.getfield 19, 3) := by decide +kernel
theorem dX9_gives_5 : decode cX9_gives 5 = .ok (.iload_n 1, 1) := by decide +kernel
theorem dX9_gives_6 : decode cX9_gives 6 = .ok (.iaload, 1) := by decide +kernel
theorem dX9_gives_7 : decode cX9_gives 7 = .ok (.iconst 1, 1) := by decide +kernel
theorem dX9_gives_8 : decode cX9_gives 8 = .ok (.isub, 1) := by decide +kernel
theorem dX9_gives_9 : decode cX9_gives 9 = .ok (.invokestatic 134, 3) := by decide +kernel
theorem dX9_gives_12 : decode cX9_gives 12 = .ok (.istore 4, 2) := by decide +kernel
theorem dX9_gives_14 : decode cX9_gives 14 = .ok (.iload 4, 2) := by decide +kernel
theorem dX9_gives_16 : decode cX9_gives 16 = .ok (.ifCond .ge 7, 3) := by decide +kernel
theorem dX9_gives_19 : decode cX9_gives 19 = .ok (.iconst 0, 1) := by decide +kernel
theorem dX9_gives_20 : decode cX9_gives 20 = .ok (.goto 5, 3) := by decide +kernel
theorem dX9_gives_23 : decode cX9_gives 23 = .ok (.iload 4, 2) := by decide +kernel
theorem dX9_gives_25 : decode cX9_gives 25 = .ok (.istore 4, 2) := by decide +kernel
theorem dX9_gives_27 : decode cX9_gives 27 = .ok (.aload_n 0, 1) := by decide +kernel
theorem dX9_gives_28 : decode cX9_gives 28 = .ok (.getfield 19, 3) := by decide +kernel
theorem dX9_gives_31 : decode cX9_gives 31 = .ok (.iload_n 1, 1) := by decide +kernel
theorem dX9_gives_32 : decode cX9_gives 32 = .ok (.dup2, 1) := by decide +kernel
theorem dX9_gives_33 : decode cX9_gives 33 = .ok (.iaload, 1) := by decide +kernel
theorem dX9_gives_34 : decode cX9_gives 34 = .ok (.iload 4, 2) := by decide +kernel
theorem dX9_gives_36 : decode cX9_gives 36 = .ok (.isub, 1) := by decide +kernel
theorem dX9_gives_37 : decode cX9_gives 37 = .ok (.iastore, 1) := by decide +kernel
theorem dX9_gives_38 : decode cX9_gives 38 = .ok (.aload_n 0, 1) := by decide +kernel
theorem dX9_gives_39 : decode cX9_gives 39 = .ok (.getfield 19, 3) := by decide +kernel
theorem dX9_gives_42 : decode cX9_gives 42 = .ok (.iload_n 2, 1) := by decide +kernel
theorem dX9_gives_43 : decode cX9_gives 43 = .ok (.dup2, 1) := by decide +kernel
theorem dX9_gives_44 : decode cX9_gives 44 = .ok (.iaload, 1) := by decide +kernel
theorem dX9_gives_45 : decode cX9_gives 45 = .ok (.iload 4, 2) := by decide +kernel
theorem dX9_gives_47 : decode cX9_gives 47 = .ok (.iadd, 1) := by decide +kernel
theorem dX9_gives_48 : decode cX9_gives 48 = .ok (.iastore, 1) := by decide +kernel
theorem dX9_gives_49 : decode cX9_gives 49 = .ok (.iload 4, 2) := by decide +kernel
theorem dX9_gives_51 : decode cX9_gives 51 = .ok (.ireturn, 1) := by decide +kernel
theorem dX9_pays_0 : decode cX9_pays 0 = .ok (.aload_n 0, 1) := by decide +kernel
theorem dX9_pays_1 : decode cX9_pays 1 = .ok (.getfield 19, 3) := by decide +kernel
theorem dX9_pays_4 : decode cX9_pays 4 = .ok (.bipush 13, 2) := by decide +kernel
theorem dX9_pays_6 : decode cX9_pays 6 = .ok (.iconst 4, 1) := by decide +kernel
theorem dX9_pays_7 : decode cX9_pays 7 = .ok (.iload_n 1, 1) := by decide +kernel
theorem dX9_pays_8 : decode cX9_pays 8 = .ok (.imul, 1) := by decide +kernel
theorem dX9_pays_9 : decode cX9_pays 9 = .ok (.iadd, 1) := by decide +kernel
theorem dX9_pays_10 : decode cX9_pays 10 = .ok (.iaload, 1) := by decide +kernel
theorem dX9_pays_11 : decode cX9_pays 11 = .ok (.istore_n 2, 1) := by decide +kernel
theorem dX9_pays_12 : decode cX9_pays 12 = .ok (.aload_n 0, 1) := by decide +kernel
theorem dX9_pays_13 : decode cX9_pays 13 = .ok (.getfield 19, 3) := by decide +kernel
theorem dX9_pays_16 : decode cX9_pays 16 = .ok (.bipush 13, 2) := by decide +kernel
theorem dX9_pays_18 : decode cX9_pays 18 = .ok (.iconst 4, 1) := by decide +kernel
theorem dX9_pays_19 : decode cX9_pays 19 = .ok (.iload_n 1, 1) := by decide +kernel
theorem dX9_pays_20 : decode cX9_pays 20 = .ok (.imul, 1) := by decide +kernel
theorem dX9_pays_21 : decode cX9_pays 21 = .ok (.iadd, 1) := by decide +kernel
theorem dX9_pays_22 : decode cX9_pays 22 = .ok (.iconst 1, 1) := by decide +kernel
theorem dX9_pays_23 : decode cX9_pays 23 = .ok (.iadd, 1) := by decide +kernel
theorem dX9_pays_24 : decode cX9_pays 24 = .ok (.iaload, 1) := by decide +kernel
theorem dX9_pays_25 : decode cX9_pays 25 = .ok (.istore_n 3, 1) := by decide +kernel
theorem dX9_pays_26 : decode cX9_pays 26 = .ok (.aload_n 0, 1) := by decide +kernel
theorem dX9_pays_27 : decode cX9_pays 27 = .ok (.aload_n 0, 1) := by decide +kernel
theorem dX9_pays_28 : decode cX9_pays 28 = .ok (.getfield 19, 3) := by decide +kernel
theorem dX9_pays_31 : decode cX9_pays 31 = .ok (.bipush 13, 2) := by decide +kernel
theorem dX9_pays_33 : decode cX9_pays 33 = .ok (.iconst 4, 1) := by decide +kernel
theorem dX9_pays_34 : decode cX9_pays 34 = .ok (.iload_n 1, 1) := by decide +kernel
theorem dX9_pays_35 : decode cX9_pays 35 = .ok (.imul, 1) := by decide +kernel
theorem dX9_pays_36 : decode cX9_pays 36 = .ok (.iadd, 1) := by decide +kernel
theorem dX9_pays_37 : decode cX9_pays 37 = .ok (.iconst 2, 1) := by decide +kernel
theorem dX9_pays_38 : decode cX9_pays 38 = .ok (.iadd, 1) := by decide +kernel
theorem dX9_pays_39 : decode cX9_pays 39 = .ok (.iaload, 1) := by decide +kernel
theorem dX9_pays_40 : decode cX9_pays 40 = .ok (.invokevirtual 117, 3) := by decide +kernel
theorem dX9_pays_43 : decode cX9_pays 43 = .ok (.istore 4, 2) := by decide +kernel
theorem dX9_pays_45 : decode cX9_pays 45 = .ok (.aload_n 0, 1) := by decide +kernel
theorem dX9_pays_46 : decode cX9_pays 46 = .ok (.getfield 19, 3) := by decide +kernel
theorem dX9_pays_49 : decode cX9_pays 49 = .ok (.iload_n 2, 1) := by decide +kernel
theorem dX9_pays_50 : decode cX9_pays 50 = .ok (.iaload, 1) := by decide +kernel
theorem dX9_pays_51 : decode cX9_pays 51 = .ok (.ifCond .ne 4, 3) := by decide +kernel
theorem dX9_pays_54 : decode cX9_pays 54 = .ok (.return_, 1) := by decide +kernel
theorem dX9_pays_55 : decode cX9_pays 55 = .ok (.aload_n 0, 1) := by decide +kernel
theorem dX9_pays_56 : decode cX9_pays 56 = .ok (.getfield 101, 3) := by decide +kernel
theorem dX9_pays_59 : decode cX9_pays 59 = .ok (.iconst 1, 1) := by decide +kernel
theorem dX9_pays_60 : decode cX9_pays 60 = .ok (.if_icmp .ne 14, 3) := by decide +kernel
theorem dX9_pays_63 : decode cX9_pays 63 = .ok (.aload_n 0, 1) := by decide +kernel
theorem dX9_pays_64 : decode cX9_pays 64 = .ok (.getfield 19, 3) := by decide +kernel
theorem dX9_pays_67 : decode cX9_pays 67 = .ok (.iload_n 3, 1) := by decide +kernel
theorem dX9_pays_68 : decode cX9_pays 68 = .ok (.iaload, 1) := by decide +kernel
theorem dX9_pays_69 : decode cX9_pays 69 = .ok (.iload 4, 2) := by decide +kernel
theorem dX9_pays_71 : decode cX9_pays 71 = .ok (.if_icmp .le 14, 3) := by decide +kernel
theorem dX9_pays_74 : decode cX9_pays 74 = .ok (.aload_n 0, 1) := by decide +kernel
theorem dX9_pays_75 : decode cX9_pays 75 = .ok (.iload_n 3, 1) := by decide +kernel
theorem dX9_pays_76 : decode cX9_pays 76 = .ok (.iload_n 2, 1) := by decide +kernel
theorem dX9_pays_77 : decode cX9_pays 77 = .ok (.iload 4, 2) := by decide +kernel
theorem dX9_pays_79 : decode cX9_pays 79 = .ok (.invokevirtual 138, 3) := by decide +kernel
theorem dX9_pays_82 : decode cX9_pays 82 = .ok (.goto 4, 3) := by decide +kernel
theorem dX9_pays_85 : decode cX9_pays 85 = .ok (.iconst 0, 1) := by decide +kernel
theorem dX9_pays_86 : decode cX9_pays 86 = .ok (.istore 5, 2) := by decide +kernel
theorem dX9_pays_88 : decode cX9_pays 88 = .ok (.aload_n 0, 1) := by decide +kernel
theorem dX9_pays_89 : decode cX9_pays 89 = .ok (.getfield 101, 3) := by decide +kernel
theorem dX9_pays_92 : decode cX9_pays 92 = .ok (.iconst 3, 1) := by decide +kernel
theorem dX9_pays_93 : decode cX9_pays 93 = .ok (.if_icmp .ne 92, 3) := by decide +kernel
theorem dX9_pays_96 : decode cX9_pays 96 = .ok (.iload 5, 2) := by decide +kernel
theorem dX9_pays_98 : decode cX9_pays 98 = .ok (.iload 4, 2) := by decide +kernel
theorem dX9_pays_100 : decode cX9_pays 100 = .ok (.if_icmp .ge 85, 3) := by decide +kernel
theorem dX9_pays_103 : decode cX9_pays 103 = .ok (.bipush (-4), 2) := by decide +kernel
theorem dX9_pays_105 : decode cX9_pays 105 = .ok (.istore 6, 2) := by decide +kernel
theorem dX9_pays_107 : decode cX9_pays 107 = .ok (.aload_n 0, 1) := by decide +kernel
theorem dX9_pays_108 : decode cX9_pays 108 = .ok (.getfield 58, 3) := by decide +kernel
theorem dX9_pays_111 : decode cX9_pays 111 = .ok (.iconst 1, 1) := by decide +kernel
theorem dX9_pays_112 : decode cX9_pays 112 = .ok (.isub, 1) := by decide +kernel
theorem dX9_pays_113 : decode cX9_pays 113 = .ok (.istore 7, 2) := by decide +kernel
theorem dX9_pays_115 : decode cX9_pays 115 = .ok (.iload 7, 2) := by decide +kernel
theorem dX9_pays_117 : decode cX9_pays 117 = .ok (.ifCond .lt 40, 3) := by decide +kernel
theorem dX9_pays_120 : decode cX9_pays 120 = .ok (.iload 7, 2) := by decide +kernel
theorem dX9_pays_122 : decode cX9_pays 122 = .ok (.iload_n 2, 1) := by decide +kernel
theorem dX9_pays_123 : decode cX9_pays 123 = .ok (.if_icmp .eq 24, 3) := by decide +kernel
theorem dX9_pays_126 : decode cX9_pays 126 = .ok (.iload 7, 2) := by decide +kernel
theorem dX9_pays_128 : decode cX9_pays 128 = .ok (.iload_n 3, 1) := by decide +kernel
theorem dX9_pays_129 : decode cX9_pays 129 = .ok (.if_icmp .eq 18, 3) := by decide +kernel
theorem dX9_pays_132 : decode cX9_pays 132 = .ok (.aload_n 0, 1) := by decide +kernel
theorem dX9_pays_133 : decode cX9_pays 133 = .ok (.getfield 19, 3) := by decide +kernel
theorem dX9_pays_136 : decode cX9_pays 136 = .ok (.iload 7, 2) := by decide +kernel
theorem dX9_pays_138 : decode cX9_pays 138 = .ok (.iaload, 1) := by decide +kernel
theorem dX9_pays_139 : decode cX9_pays 139 = .ok (.ifCond .le 8, 3) := by decide +kernel
theorem dX9_pays_142 : decode cX9_pays 142 = .ok (.iload 7, 2) := by decide +kernel
theorem dX9_pays_144 : decode cX9_pays 144 = .ok (.goto 5, 3) := by decide +kernel
theorem dX9_pays_147 : decode cX9_pays 147 = .ok (.iload 6, 2) := by decide +kernel
theorem dX9_pays_149 : decode cX9_pays 149 = .ok (.istore 6, 2) := by decide +kernel
theorem dX9_pays_151 : decode cX9_pays 151 = .ok (.iinc 7 (-1), 3) := by decide +kernel
theorem dX9_pays_154 : decode cX9_pays 154 = .ok (.goto (-39), 3) := by decide +kernel
theorem dX9_pays_157 : decode cX9_pays 157 = .ok (.iload 5, 2) := by decide +kernel
theorem dX9_pays_159 : decode cX9_pays 159 = .ok (.iload 6, 2) := by decide +kernel
theorem dX9_pays_161 : decode cX9_pays 161 = .ok (.bipush (-4), 2) := by decide +kernel
theorem dX9_pays_163 : decode cX9_pays 163 = .ok (.if_icmp .ne 7, 3) := by decide +kernel
theorem dX9_pays_166 : decode cX9_pays 166 = .ok (.iconst 0, 1) := by decide +kernel
theorem dX9_pays_167 : decode cX9_pays 167 = .ok (.goto 15, 3) := by decide +kernel
theorem dX9_pays_170 : decode cX9_pays 170 = .ok (.aload_n 0, 1) := by decide +kernel
theorem dX9_pays_171 : decode cX9_pays 171 = .ok (.iload 6, 2) := by decide +kernel
theorem dX9_pays_173 : decode cX9_pays 173 = .ok (.iload_n 2, 1) := by decide +kernel
theorem dX9_pays_174 : decode cX9_pays 174 = .ok (.iload 4, 2) := by decide +kernel
theorem dX9_pays_176 : decode cX9_pays 176 = .ok (.iload 5, 2) := by decide +kernel
theorem dX9_pays_178 : decode cX9_pays 178 = .ok (.isub, 1) := by decide +kernel
theorem dX9_pays_179 : decode cX9_pays 179 = .ok (.invokevirtual 138, 3) := by decide +kernel
theorem dX9_pays_182 : decode cX9_pays 182 = .ok (.iadd, 1) := by decide +kernel
theorem dX9_pays_183 : decode cX9_pays 183 = .ok (.istore 5, 2) := by decide +kernel
theorem dX9_pays_185 : decode cX9_pays 185 = .ok (.aload_n 0, 1) := by decide +kernel
theorem dX9_pays_186 : decode cX9_pays 186 = .ok (.getfield 37, 3) := by decide +kernel
theorem dX9_pays_189 : decode cX9_pays 189 = .ok (.aload_n 0, 1) := by decide +kernel
theorem dX9_pays_190 : decode cX9_pays 190 = .ok (.getfield 34, 3) := by decide +kernel
theorem dX9_pays_193 : decode cX9_pays 193 = .ok (.iload_n 1, 1) := by decide +kernel
theorem dX9_pays_194 : decode cX9_pays 194 = .ok (.iaload, 1) := by decide +kernel
theorem dX9_pays_195 : decode cX9_pays 195 = .ok (.dup2, 1) := by decide +kernel
theorem dX9_pays_196 : decode cX9_pays 196 = .ok (.iaload, 1) := by decide +kernel
theorem dX9_pays_197 : decode cX9_pays 197 = .ok (.iload 5, 2) := by decide +kernel
theorem dX9_pays_199 : decode cX9_pays 199 = .ok (.iadd, 1) := by decide +kernel
theorem dX9_pays_200 : decode cX9_pays 200 = .ok (.iastore, 1) := by decide +kernel
theorem dX9_pays_201 : decode cX9_pays 201 = .ok (.aload_n 0, 1) := by decide +kernel
theorem dX9_pays_202 : decode cX9_pays 202 = .ok (.getfield 19, 3) := by decide +kernel
theorem dX9_pays_205 : decode cX9_pays 205 = .ok (.bipush 6, 2) := by decide +kernel
theorem dX9_pays_207 : decode cX9_pays 207 = .ok (.iload_n 2, 1) := by decide +kernel
theorem dX9_pays_208 : decode cX9_pays 208 = .ok (.iadd, 1) := by decide +kernel
theorem dX9_pays_209 : decode cX9_pays 209 = .ok (.dup2, 1) := by decide +kernel
theorem dX9_pays_210 : decode cX9_pays 210 = .ok (.iaload, 1) := by decide +kernel
theorem dX9_pays_211 : decode cX9_pays 211 = .ok (.iload 4, 2) := by decide +kernel
theorem dX9_pays_213 : decode cX9_pays 213 = .ok (.iload 5, 2) := by decide +kernel
theorem dX9_pays_215 : decode cX9_pays 215 = .ok (.isub, 1) := by decide +kernel
theorem dX9_pays_216 : decode cX9_pays 216 = .ok (.iadd, 1) := by decide +kernel
theorem dX9_pays_217 : decode cX9_pays 217 = .ok (.iastore, 1) := by decide +kernel
theorem dX9_pays_218 : decode cX9_pays 218 = .ok (.return_, 1) := by decide +kernel
theorem dX9_drops_0 : decode cX9_drops 0 = .ok (.aload_n 0, 1) := by decide +kernel
theorem dX9_drops_1 : decode cX9_drops 1 = .ok (.getfield 19, 3) := by decide +kernel
theorem dX9_drops_4 : decode cX9_drops 4 = .ok (.bipush 12, 2) := by decide +kernel
theorem dX9_drops_6 : decode cX9_drops 6 = .ok (.dup2, 1) := by decide +kernel
theorem dX9_drops_7 : decode cX9_drops 7 = .ok (.iaload, 1) := by decide +kernel
theorem dX9_drops_8 : decode cX9_drops 8 = .ok (.iconst 1, 1) := by decide +kernel
theorem dX9_drops_9 : decode cX9_drops 9 = .ok (.isub, 1) := by decide +kernel
theorem dX9_drops_10 : decode cX9_drops 10 = .ok (.iastore, 1) := by decide +kernel
theorem dX9_drops_11 : decode cX9_drops 11 = .ok (.iload_n 1, 1) := by decide +kernel
theorem dX9_drops_12 : decode cX9_drops 12 = .ok (.istore_n 2, 1) := by decide +kernel
theorem dX9_drops_13 : decode cX9_drops 13 = .ok (.iload_n 2, 1) := by decide +kernel
theorem dX9_drops_14 : decode cX9_drops 14 = .ok (.aload_n 0, 1) := by decide +kernel
theorem dX9_drops_15 : decode cX9_drops 15 = .ok (.getfield 19, 3) := by decide +kernel
theorem dX9_drops_18 : decode cX9_drops 18 = .ok (.bipush 12, 2) := by decide +kernel
theorem dX9_drops_20 : decode cX9_drops 20 = .ok (.iaload, 1) := by decide +kernel
theorem dX9_drops_21 : decode cX9_drops 21 = .ok (.if_icmp .ge 64, 3) := by decide +kernel
theorem dX9_drops_24 : decode cX9_drops 24 = .ok (.aload_n 0, 1) := by decide +kernel
theorem dX9_drops_25 : decode cX9_drops 25 = .ok (.getfield 34, 3) := by decide +kernel
theorem dX9_drops_28 : decode cX9_drops 28 = .ok (.iload_n 2, 1) := by decide +kernel
theorem dX9_drops_29 : decode cX9_drops 29 = .ok (.aload_n 0, 1) := by decide +kernel
theorem dX9_drops_30 : decode cX9_drops 30 = .ok (.getfield 34, 3) := by decide +kernel
theorem dX9_drops_33 : decode cX9_drops 33 = .ok (.iload_n 2, 1) := by decide +kernel
theorem dX9_drops_34 : decode cX9_drops 34 = .ok (.iconst 1, 1) := by decide +kernel
theorem dX9_drops_35 : decode cX9_drops 35 = .ok (.iadd, 1) := by decide +kernel
theorem dX9_drops_36 : decode cX9_drops 36 = .ok (.iaload, 1) := by decide +kernel
theorem dX9_drops_37 : decode cX9_drops 37 = .ok (.iastore, 1) := by decide +kernel
theorem dX9_drops_38 : decode cX9_drops 38 = .ok (.iconst 0, 1) := by decide +kernel
theorem dX9_drops_39 : decode cX9_drops 39 = .ok (.istore_n 3, 1) := by decide +kernel
theorem dX9_drops_40 : decode cX9_drops 40 = .ok (.iload_n 3, 1) := by decide +kernel
theorem dX9_drops_41 : decode cX9_drops 41 = .ok (.iconst 4, 1) := by decide +kernel
theorem dX9_drops_42 : decode cX9_drops 42 = .ok (.if_icmp .ge 37, 3) := by decide +kernel
theorem dX9_drops_45 : decode cX9_drops 45 = .ok (.aload_n 0, 1) := by decide +kernel
theorem dX9_drops_46 : decode cX9_drops 46 = .ok (.getfield 19, 3) := by decide +kernel
theorem dX9_drops_49 : decode cX9_drops 49 = .ok (.bipush 13, 2) := by decide +kernel
theorem dX9_drops_51 : decode cX9_drops 51 = .ok (.iconst 4, 1) := by decide +kernel
theorem dX9_drops_52 : decode cX9_drops 52 = .ok (.iload_n 2, 1) := by decide +kernel
theorem dX9_drops_53 : decode cX9_drops 53 = .ok (.imul, 1) := by decide +kernel
theorem dX9_drops_54 : decode cX9_drops 54 = .ok (.iadd, 1) := by decide +kernel
theorem dX9_drops_55 : decode cX9_drops 55 = .ok (.iload_n 3, 1) := by decide +kernel
theorem dX9_drops_56 : decode cX9_drops 56 = .ok (.iadd, 1) := by decide +kernel
theorem dX9_drops_57 : decode cX9_drops 57 = .ok (.aload_n 0, 1) := by decide +kernel
theorem dX9_drops_58 : decode cX9_drops 58 = .ok (.getfield 19, 3) := by decide +kernel
theorem dX9_drops_61 : decode cX9_drops 61 = .ok (.bipush 13, 2) := by decide +kernel
theorem dX9_drops_63 : decode cX9_drops 63 = .ok (.iconst 4, 1) := by decide +kernel
theorem dX9_drops_64 : decode cX9_drops 64 = .ok (.iload_n 2, 1) := by decide +kernel
theorem dX9_drops_65 : decode cX9_drops 65 = .ok (.imul, 1) := by decide +kernel
theorem dX9_drops_66 : decode cX9_drops 66 = .ok (.iadd, 1) := by decide +kernel
theorem dX9_drops_67 : decode cX9_drops 67 = .ok (.iconst 4, 1) := by decide +kernel
theorem dX9_drops_68 : decode cX9_drops 68 = .ok (.iadd, 1) := by decide +kernel
theorem dX9_drops_69 : decode cX9_drops 69 = .ok (.iload_n 3, 1) := by decide +kernel
theorem dX9_drops_70 : decode cX9_drops 70 = .ok (.iadd, 1) := by decide +kernel
theorem dX9_drops_71 : decode cX9_drops 71 = .ok (.iaload, 1) := by decide +kernel
theorem dX9_drops_72 : decode cX9_drops 72 = .ok (.iastore, 1) := by decide +kernel
theorem dX9_drops_73 : decode cX9_drops 73 = .ok (.iinc 3 1, 3) := by decide +kernel
theorem dX9_drops_76 : decode cX9_drops 76 = .ok (.goto (-36), 3) := by decide +kernel
theorem dX9_drops_79 : decode cX9_drops 79 = .ok (.iinc 2 1, 3) := by decide +kernel
theorem dX9_drops_82 : decode cX9_drops 82 = .ok (.goto (-69), 3) := by decide +kernel
theorem dX9_drops_85 : decode cX9_drops 85 = .ok (.iconst 0, 1) := by decide +kernel
theorem dX9_drops_86 : decode cX9_drops 86 = .ok (.istore_n 2, 1) := by decide +kernel
theorem dX9_drops_87 : decode cX9_drops 87 = .ok (.iload_n 2, 1) := by decide +kernel
theorem dX9_drops_88 : decode cX9_drops 88 = .ok (.iconst 4, 1) := by decide +kernel
theorem dX9_drops_89 : decode cX9_drops 89 = .ok (.if_icmp .ge 29, 3) := by decide +kernel
theorem dX9_drops_92 : decode cX9_drops 92 = .ok (.aload_n 0, 1) := by decide +kernel
theorem dX9_drops_93 : decode cX9_drops 93 = .ok (.getfield 19, 3) := by decide +kernel
theorem dX9_drops_96 : decode cX9_drops 96 = .ok (.bipush 13, 2) := by decide +kernel
theorem dX9_drops_98 : decode cX9_drops 98 = .ok (.iconst 4, 1) := by decide +kernel
theorem dX9_drops_99 : decode cX9_drops 99 = .ok (.aload_n 0, 1) := by decide +kernel
theorem dX9_drops_100 : decode cX9_drops 100 = .ok (.getfield 19, 3) := by decide +kernel
theorem dX9_drops_103 : decode cX9_drops 103 = .ok (.bipush 12, 2) := by decide +kernel
theorem dX9_drops_105 : decode cX9_drops 105 = .ok (.iaload, 1) := by decide +kernel
theorem dX9_drops_106 : decode cX9_drops 106 = .ok (.imul, 1) := by decide +kernel
theorem dX9_drops_107 : decode cX9_drops 107 = .ok (.iadd, 1) := by decide +kernel
theorem dX9_drops_108 : decode cX9_drops 108 = .ok (.iload_n 2, 1) := by decide +kernel
theorem dX9_drops_109 : decode cX9_drops 109 = .ok (.iadd, 1) := by decide +kernel
theorem dX9_drops_110 : decode cX9_drops 110 = .ok (.iconst 0, 1) := by decide +kernel
theorem dX9_drops_111 : decode cX9_drops 111 = .ok (.iastore, 1) := by decide +kernel
theorem dX9_drops_112 : decode cX9_drops 112 = .ok (.iinc 2 1, 3) := by decide +kernel
theorem dX9_drops_115 : decode cX9_drops 115 = .ok (.goto (-28), 3) := by decide +kernel
theorem dX9_drops_118 : decode cX9_drops 118 = .ok (.return_, 1) := by decide +kernel
theorem dX9_dueNow_0 : decode cX9_dueNow 0 = .ok (.bipush (-4), 2) := by decide +kernel
theorem dX9_dueNow_2 : decode cX9_dueNow 2 = .ok (.istore_n 2, 1) := by decide +kernel
theorem dX9_dueNow_3 : decode cX9_dueNow 3 = .ok (.aload_n 0, 1) := by decide +kernel
theorem dX9_dueNow_4 : decode cX9_dueNow 4 = .ok (.getfield 19, 3) := by decide +kernel
theorem dX9_dueNow_7 : decode cX9_dueNow 7 = .ok (.bipush 12, 2) := by decide +kernel
theorem dX9_dueNow_9 : decode cX9_dueNow 9 = .ok (.iaload, 1) := by decide +kernel
theorem dX9_dueNow_10 : decode cX9_dueNow 10 = .ok (.iconst 1, 1) := by decide +kernel
theorem dX9_dueNow_11 : decode cX9_dueNow 11 = .ok (.isub, 1) := by decide +kernel
theorem dX9_dueNow_12 : decode cX9_dueNow 12 = .ok (.istore_n 3, 1) := by decide +kernel
theorem dX9_dueNow_13 : decode cX9_dueNow 13 = .ok (.iload_n 3, 1) := by decide +kernel
theorem dX9_dueNow_14 : decode cX9_dueNow 14 = .ok (.ifCond .lt 94, 3) := by decide +kernel
theorem dX9_dueNow_17 : decode cX9_dueNow 17 = .ok (.aload_n 0, 1) := by decide +kernel
theorem dX9_dueNow_18 : decode cX9_dueNow 18 = .ok (.getfield 19, 3) := by decide +kernel
theorem dX9_dueNow_21 : decode cX9_dueNow 21 = .ok (.bipush 13, 2) := by decide +kernel
theorem dX9_dueNow_23 : decode cX9_dueNow 23 = .ok (.iconst 4, 1) := by decide +kernel
theorem dX9_dueNow_24 : decode cX9_dueNow 24 = .ok (.iload_n 3, 1) := by decide +kernel
theorem dX9_dueNow_25 : decode cX9_dueNow 25 = .ok (.imul, 1) := by decide +kernel
theorem dX9_dueNow_26 : decode cX9_dueNow 26 = .ok (.iadd, 1) := by decide +kernel
theorem dX9_dueNow_27 : decode cX9_dueNow 27 = .ok (.iconst 3, 1) := by decide +kernel
theorem dX9_dueNow_28 : decode cX9_dueNow 28 = .ok (.iadd, 1) := by decide +kernel
theorem dX9_dueNow_29 : decode cX9_dueNow 29 = .ok (.iaload, 1) := by decide +kernel
theorem dX9_dueNow_30 : decode cX9_dueNow 30 = .ok (.ifCond .ne 7, 3) := by decide +kernel
theorem dX9_dueNow_33 : decode cX9_dueNow 33 = .ok (.iconst 1, 1) := by decide +kernel
theorem dX9_dueNow_34 : decode cX9_dueNow 34 = .ok (.goto 4, 3) := by decide +kernel
theorem dX9_dueNow_37 : decode cX9_dueNow 37 = .ok (.iconst 0, 1) := by decide +kernel
theorem dX9_dueNow_38 : decode cX9_dueNow 38 = .ok (.istore 4, 2) := by decide +kernel
theorem dX9_dueNow_40 : decode cX9_dueNow 40 = .ok (.iload_n 2, 1) := by decide +kernel
theorem dX9_dueNow_41 : decode cX9_dueNow 41 = .ok (.bipush (-4), 2) := by decide +kernel
theorem dX9_dueNow_43 : decode cX9_dueNow 43 = .ok (.if_icmp .eq 36, 3) := by decide +kernel
theorem dX9_dueNow_46 : decode cX9_dueNow 46 = .ok (.iload_n 1, 1) := by decide +kernel
theorem dX9_dueNow_47 : decode cX9_dueNow 47 = .ok (.ifCond .eq 32, 3) := by decide +kernel
theorem dX9_dueNow_50 : decode cX9_dueNow 50 = .ok (.aload_n 0, 1) := by decide +kernel
theorem dX9_dueNow_51 : decode cX9_dueNow 51 = .ok (.getfield 19, 3) := by decide +kernel
theorem dX9_dueNow_54 : decode cX9_dueNow 54 = .ok (.bipush 13, 2) := by decide +kernel
theorem dX9_dueNow_56 : decode cX9_dueNow 56 = .ok (.iconst 4, 1) := by decide +kernel
theorem dX9_dueNow_57 : decode cX9_dueNow 57 = .ok (.iload_n 3, 1) := by decide +kernel
theorem dX9_dueNow_58 : decode cX9_dueNow 58 = .ok (.imul, 1) := by decide +kernel
theorem dX9_dueNow_59 : decode cX9_dueNow 59 = .ok (.iadd, 1) := by decide +kernel
theorem dX9_dueNow_60 : decode cX9_dueNow 60 = .ok (.iconst 2, 1) := by decide +kernel
theorem dX9_dueNow_61 : decode cX9_dueNow 61 = .ok (.iadd, 1) := by decide +kernel
theorem dX9_dueNow_62 : decode cX9_dueNow 62 = .ok (.iaload, 1) := by decide +kernel
theorem dX9_dueNow_63 : decode cX9_dueNow 63 = .ok (.aload_n 0, 1) := by decide +kernel
theorem dX9_dueNow_64 : decode cX9_dueNow 64 = .ok (.getfield 19, 3) := by decide +kernel
theorem dX9_dueNow_67 : decode cX9_dueNow 67 = .ok (.bipush 13, 2) := by decide +kernel
theorem dX9_dueNow_69 : decode cX9_dueNow 69 = .ok (.iconst 4, 1) := by decide +kernel
theorem dX9_dueNow_70 : decode cX9_dueNow 70 = .ok (.iload_n 2, 1) := by decide +kernel
theorem dX9_dueNow_71 : decode cX9_dueNow 71 = .ok (.imul, 1) := by decide +kernel
theorem dX9_dueNow_72 : decode cX9_dueNow 72 = .ok (.iadd, 1) := by decide +kernel
theorem dX9_dueNow_73 : decode cX9_dueNow 73 = .ok (.iconst 2, 1) := by decide +kernel
theorem dX9_dueNow_74 : decode cX9_dueNow 74 = .ok (.iadd, 1) := by decide +kernel
theorem dX9_dueNow_75 : decode cX9_dueNow 75 = .ok (.iaload, 1) := by decide +kernel
theorem dX9_dueNow_76 : decode cX9_dueNow 76 = .ok (.if_icmp .lt 7, 3) := by decide +kernel
theorem dX9_dueNow_79 : decode cX9_dueNow 79 = .ok (.iconst 1, 1) := by decide +kernel
theorem dX9_dueNow_80 : decode cX9_dueNow 80 = .ok (.goto 4, 3) := by decide +kernel
theorem dX9_dueNow_83 : decode cX9_dueNow 83 = .ok (.iconst 0, 1) := by decide +kernel
theorem dX9_dueNow_84 : decode cX9_dueNow 84 = .ok (.istore 5, 2) := by decide +kernel
theorem dX9_dueNow_86 : decode cX9_dueNow 86 = .ok (.iload 4, 2) := by decide +kernel
theorem dX9_dueNow_88 : decode cX9_dueNow 88 = .ok (.ifCond .eq 12, 3) := by decide +kernel
theorem dX9_dueNow_91 : decode cX9_dueNow 91 = .ok (.iload 5, 2) := by decide +kernel
theorem dX9_dueNow_93 : decode cX9_dueNow 93 = .ok (.ifCond .eq 7, 3) := by decide +kernel
theorem dX9_dueNow_96 : decode cX9_dueNow 96 = .ok (.iload_n 3, 1) := by decide +kernel
theorem dX9_dueNow_97 : decode cX9_dueNow 97 = .ok (.goto 4, 3) := by decide +kernel
theorem dX9_dueNow_100 : decode cX9_dueNow 100 = .ok (.iload_n 2, 1) := by decide +kernel
theorem dX9_dueNow_101 : decode cX9_dueNow 101 = .ok (.istore_n 2, 1) := by decide +kernel
theorem dX9_dueNow_102 : decode cX9_dueNow 102 = .ok (.iinc 3 (-1), 3) := by decide +kernel
theorem dX9_dueNow_105 : decode cX9_dueNow 105 = .ok (.goto (-92), 3) := by decide +kernel
theorem dX9_dueNow_108 : decode cX9_dueNow 108 = .ok (.iload_n 2, 1) := by decide +kernel
theorem dX9_dueNow_109 : decode cX9_dueNow 109 = .ok (.ireturn, 1) := by decide +kernel
theorem dX9_goes_0 : decode cX9_goes 0 = .ok (.iconst 0, 1) := by decide +kernel
theorem dX9_goes_1 : decode cX9_goes 1 = .ok (.istore_n 1, 1) := by decide +kernel
theorem dX9_goes_2 : decode cX9_goes 2 = .ok (.iload_n 1, 1) := by decide +kernel
theorem dX9_goes_3 : decode cX9_goes 3 = .ok (.aload_n 0, 1) := by decide +kernel
theorem dX9_goes_4 : decode cX9_goes 4 = .ok (.getfield 58, 3) := by decide +kernel
theorem dX9_goes_7 : decode cX9_goes 7 = .ok (.if_icmp .ge 32, 3) := by decide +kernel
theorem dX9_goes_10 : decode cX9_goes 10 = .ok (.aload_n 0, 1) := by decide +kernel
theorem dX9_goes_11 : decode cX9_goes 11 = .ok (.getfield 19, 3) := by decide +kernel
theorem dX9_goes_14 : decode cX9_goes 14 = .ok (.iload_n 1, 1) := by decide +kernel
theorem dX9_goes_15 : decode cX9_goes 15 = .ok (.dup2, 1) := by decide +kernel
theorem dX9_goes_16 : decode cX9_goes 16 = .ok (.iaload, 1) := by decide +kernel
theorem dX9_goes_17 : decode cX9_goes 17 = .ok (.aload_n 0, 1) := by decide +kernel
theorem dX9_goes_18 : decode cX9_goes 18 = .ok (.getfield 19, 3) := by decide +kernel
theorem dX9_goes_21 : decode cX9_goes 21 = .ok (.iload_n 1, 1) := by decide +kernel
theorem dX9_goes_22 : decode cX9_goes 22 = .ok (.iaload, 1) := by decide +kernel
theorem dX9_goes_23 : decode cX9_goes 23 = .ok (.ifCond .le 7, 3) := by decide +kernel
theorem dX9_goes_26 : decode cX9_goes 26 = .ok (.iconst 1, 1) := by decide +kernel
theorem dX9_goes_27 : decode cX9_goes 27 = .ok (.goto 4, 3) := by decide +kernel
theorem dX9_goes_30 : decode cX9_goes 30 = .ok (.iconst 0, 1) := by decide +kernel
theorem dX9_goes_31 : decode cX9_goes 31 = .ok (.isub, 1) := by decide +kernel
theorem dX9_goes_32 : decode cX9_goes 32 = .ok (.iastore, 1) := by decide +kernel
theorem dX9_goes_33 : decode cX9_goes 33 = .ok (.iinc 1 1, 3) := by decide +kernel
theorem dX9_goes_36 : decode cX9_goes 36 = .ok (.goto (-34), 3) := by decide +kernel
theorem dX9_goes_39 : decode cX9_goes 39 = .ok (.iconst 0, 1) := by decide +kernel
theorem dX9_goes_40 : decode cX9_goes 40 = .ok (.istore_n 1, 1) := by decide +kernel
theorem dX9_goes_41 : decode cX9_goes 41 = .ok (.iload_n 1, 1) := by decide +kernel
theorem dX9_goes_42 : decode cX9_goes 42 = .ok (.aload_n 0, 1) := by decide +kernel
theorem dX9_goes_43 : decode cX9_goes 43 = .ok (.getfield 19, 3) := by decide +kernel
theorem dX9_goes_46 : decode cX9_goes 46 = .ok (.bipush 12, 2) := by decide +kernel
theorem dX9_goes_48 : decode cX9_goes 48 = .ok (.iaload, 1) := by decide +kernel
theorem dX9_goes_49 : decode cX9_goes 49 = .ok (.if_icmp .ge 26, 3) := by decide +kernel
theorem dX9_goes_52 : decode cX9_goes 52 = .ok (.aload_n 0, 1) := by decide +kernel
theorem dX9_goes_53 : decode cX9_goes 53 = .ok (.getfield 19, 3) := by decide +kernel
theorem dX9_goes_56 : decode cX9_goes 56 = .ok (.bipush 13, 2) := by decide +kernel
theorem dX9_goes_58 : decode cX9_goes 58 = .ok (.iconst 4, 1) := by decide +kernel
theorem dX9_goes_59 : decode cX9_goes 59 = .ok (.iload_n 1, 1) := by decide +kernel
theorem dX9_goes_60 : decode cX9_goes 60 = .ok (.imul, 1) := by decide +kernel
theorem dX9_goes_61 : decode cX9_goes 61 = .ok (.iadd, 1) := by decide +kernel
theorem dX9_goes_62 : decode cX9_goes 62 = .ok (.iconst 3, 1) := by decide +kernel
theorem dX9_goes_63 : decode cX9_goes 63 = .ok (.iadd, 1) := by decide +kernel
theorem dX9_goes_64 : decode cX9_goes 64 = .ok (.dup2, 1) := by decide +kernel
theorem dX9_goes_65 : decode cX9_goes 65 = .ok (.iaload, 1) := by decide +kernel
theorem dX9_goes_66 : decode cX9_goes 66 = .ok (.iconst 1, 1) := by decide +kernel
theorem dX9_goes_67 : decode cX9_goes 67 = .ok (.isub, 1) := by decide +kernel
theorem dX9_goes_68 : decode cX9_goes 68 = .ok (.iastore, 1) := by decide +kernel
theorem dX9_goes_69 : decode cX9_goes 69 = .ok (.iinc 1 1, 3) := by decide +kernel
theorem dX9_goes_72 : decode cX9_goes 72 = .ok (.goto (-31), 3) := by decide +kernel
theorem dX9_goes_75 : decode cX9_goes 75 = .ok (.aload_n 0, 1) := by decide +kernel
theorem dX9_goes_76 : decode cX9_goes 76 = .ok (.aload_n 0, 1) := by decide +kernel
theorem dX9_goes_77 : decode cX9_goes 77 = .ok (.getfield 101, 3) := by decide +kernel
theorem dX9_goes_80 : decode cX9_goes 80 = .ok (.iconst 2, 1) := by decide +kernel
theorem dX9_goes_81 : decode cX9_goes 81 = .ok (.if_icmp .ne 7, 3) := by decide +kernel
theorem dX9_goes_84 : decode cX9_goes 84 = .ok (.iconst 1, 1) := by decide +kernel
theorem dX9_goes_85 : decode cX9_goes 85 = .ok (.goto 4, 3) := by decide +kernel
theorem dX9_goes_88 : decode cX9_goes 88 = .ok (.iconst 0, 1) := by decide +kernel
theorem dX9_goes_89 : decode cX9_goes 89 = .ok (.invokevirtual 142, 3) := by decide +kernel
theorem dX9_goes_92 : decode cX9_goes 92 = .ok (.istore_n 1, 1) := by decide +kernel
theorem dX9_goes_93 : decode cX9_goes 93 = .ok (.iload_n 1, 1) := by decide +kernel
theorem dX9_goes_94 : decode cX9_goes 94 = .ok (.bipush (-4), 2) := by decide +kernel
theorem dX9_goes_96 : decode cX9_goes 96 = .ok (.if_icmp .eq 22, 3) := by decide +kernel
theorem dX9_goes_99 : decode cX9_goes 99 = .ok (.aload_n 0, 1) := by decide +kernel
theorem dX9_goes_100 : decode cX9_goes 100 = .ok (.iload_n 1, 1) := by decide +kernel
theorem dX9_goes_101 : decode cX9_goes 101 = .ok (.invokevirtual 146, 3) := by decide +kernel
theorem dX9_goes_104 : decode cX9_goes 104 = .ok (.aload_n 0, 1) := by decide +kernel
theorem dX9_goes_105 : decode cX9_goes 105 = .ok (.iload_n 1, 1) := by decide +kernel
theorem dX9_goes_106 : decode cX9_goes 106 = .ok (.invokevirtual 150, 3) := by decide +kernel
theorem dX9_goes_109 : decode cX9_goes 109 = .ok (.aload_n 0, 1) := by decide +kernel
theorem dX9_goes_110 : decode cX9_goes 110 = .ok (.iconst 0, 1) := by decide +kernel
theorem dX9_goes_111 : decode cX9_goes 111 = .ok (.invokevirtual 142, 3) := by decide +kernel
theorem dX9_goes_114 : decode cX9_goes 114 = .ok (.istore_n 1, 1) := by decide +kernel
theorem dX9_goes_115 : decode cX9_goes 115 = .ok (.goto (-22), 3) := by decide +kernel
theorem dX9_goes_118 : decode cX9_goes 118 = .ok (.aload_n 0, 1) := by decide +kernel
theorem dX9_goes_119 : decode cX9_goes 119 = .ok (.getfield 19, 3) := by decide +kernel
theorem dX9_goes_122 : decode cX9_goes 122 = .ok (.bipush 45, 2) := by decide +kernel
theorem dX9_goes_124 : decode cX9_goes 124 = .ok (.dup2, 1) := by decide +kernel
theorem dX9_goes_125 : decode cX9_goes 125 = .ok (.iaload, 1) := by decide +kernel
theorem dX9_goes_126 : decode cX9_goes 126 = .ok (.iconst 1, 1) := by decide +kernel
theorem dX9_goes_127 : decode cX9_goes 127 = .ok (.iadd, 1) := by decide +kernel
theorem dX9_goes_128 : decode cX9_goes 128 = .ok (.iastore, 1) := by decide +kernel
theorem dX9_goes_129 : decode cX9_goes 129 = .ok (.return_, 1) := by decide +kernel
theorem dX9_living_0 : decode cX9_living 0 = .ok (.iconst 0, 1) := by decide +kernel
theorem dX9_living_1 : decode cX9_living 1 = .ok (.istore_n 1, 1) := by decide +kernel
theorem dX9_living_2 : decode cX9_living 2 = .ok (.iconst 0, 1) := by decide +kernel
theorem dX9_living_3 : decode cX9_living 3 = .ok (.istore_n 2, 1) := by decide +kernel
theorem dX9_living_4 : decode cX9_living 4 = .ok (.iload_n 2, 1) := by decide +kernel
theorem dX9_living_5 : decode cX9_living 5 = .ok (.aload_n 0, 1) := by decide +kernel
theorem dX9_living_6 : decode cX9_living 6 = .ok (.getfield 58, 3) := by decide +kernel
theorem dX9_living_9 : decode cX9_living 9 = .ok (.if_icmp .ge 26, 3) := by decide +kernel
theorem dX9_living_12 : decode cX9_living 12 = .ok (.iload_n 1, 1) := by decide +kernel
theorem dX9_living_13 : decode cX9_living 13 = .ok (.aload_n 0, 1) := by decide +kernel
theorem dX9_living_14 : decode cX9_living 14 = .ok (.getfield 19, 3) := by decide +kernel
theorem dX9_living_17 : decode cX9_living 17 = .ok (.iload_n 2, 1) := by decide +kernel
theorem dX9_living_18 : decode cX9_living 18 = .ok (.iaload, 1) := by decide +kernel
theorem dX9_living_19 : decode cX9_living 19 = .ok (.ifCond .le 7, 3) := by decide +kernel
theorem dX9_living_22 : decode cX9_living 22 = .ok (.iconst 1, 1) := by decide +kernel
theorem dX9_living_23 : decode cX9_living 23 = .ok (.goto 4, 3) := by decide +kernel
theorem dX9_living_26 : decode cX9_living 26 = .ok (.iconst 0, 1) := by decide +kernel
theorem dX9_living_27 : decode cX9_living 27 = .ok (.iadd, 1) := by decide +kernel
theorem dX9_living_28 : decode cX9_living 28 = .ok (.istore_n 1, 1) := by decide +kernel
theorem dX9_living_29 : decode cX9_living 29 = .ok (.iinc 2 1, 3) := by decide +kernel
theorem dX9_living_32 : decode cX9_living 32 = .ok (.goto (-28), 3) := by decide +kernel
theorem dX9_living_35 : decode cX9_living 35 = .ok (.iload_n 1, 1) := by decide +kernel
theorem dX9_living_36 : decode cX9_living 36 = .ok (.ireturn, 1) := by decide +kernel
theorem dX9_week_0 : decode cX9_week 0 = .ok (.aload_n 0, 1) := by decide +kernel
theorem dX9_week_1 : decode cX9_week 1 = .ok (.iconst 0, 1) := by decide +kernel
theorem dX9_week_2 : decode cX9_week 2 = .ok (.putfield 68, 3) := by decide +kernel
theorem dX9_week_5 : decode cX9_week 5 = .ok (.aload_n 0, 1) := by decide +kernel
theorem dX9_week_6 : decode cX9_week 6 = .ok (.invokevirtual 127, 3) := by decide +kernel
theorem dX9_week_9 : decode cX9_week 9 = .ok (.aload_n 0, 1) := by decide +kernel
theorem dX9_week_10 : decode cX9_week 10 = .ok (.invokevirtual 153, 3) := by decide +kernel
theorem dX9_week_13 : decode cX9_week 13 = .ok (.aload_n 0, 1) := by decide +kernel
theorem dX9_week_14 : decode cX9_week 14 = .ok (.invokevirtual 156, 3) := by decide +kernel
theorem dX9_week_17 : decode cX9_week 17 = .ok (.ireturn, 1) := by decide +kernel
theorem dX9_undo_0 : decode cX9_undo 0 = .ok (.aload_n 0, 1) := by decide +kernel
theorem dX9_undo_1 : decode cX9_undo 1 = .ok (.iconst 0, 1) := by decide +kernel
theorem dX9_undo_2 : decode cX9_undo 2 = .ok (.putfield 68, 3) := by decide +kernel
theorem dX9_undo_5 : decode cX9_undo 5 = .ok (.aload_n 0, 1) := by decide +kernel
theorem dX9_undo_6 : decode cX9_undo 6 = .ok (.getfield 92, 3) := by decide +kernel
theorem dX9_undo_9 : decode cX9_undo 9 = .ok (.ifCond .ne 6, 3) := by decide +kernel
theorem dX9_undo_12 : decode cX9_undo 12 = .ok (.bipush (-2), 2) := by decide +kernel
theorem dX9_undo_14 : decode cX9_undo 14 = .ok (.ireturn, 1) := by decide +kernel
theorem dX9_undo_15 : decode cX9_undo 15 = .ok (.aload_n 0, 1) := by decide +kernel
theorem dX9_undo_16 : decode cX9_undo 16 = .ok (.dup, 1) := by decide +kernel
theorem dX9_undo_17 : decode cX9_undo 17 = .ok (.getfield 92, 3) := by decide +kernel
theorem dX9_undo_20 : decode cX9_undo 20 = .ok (.iconst 1, 1) := by decide +kernel
theorem dX9_undo_21 : decode cX9_undo 21 = .ok (.isub, 1) := by decide +kernel
theorem dX9_undo_22 : decode cX9_undo 22 = .ok (.putfield 92, 3) := by decide +kernel
theorem dX9_undo_25 : decode cX9_undo 25 = .ok (.iconst 0, 1) := by decide +kernel
theorem dX9_undo_26 : decode cX9_undo 26 = .ok (.istore_n 1, 1) := by decide +kernel
theorem dX9_undo_27 : decode cX9_undo 27 = .ok (.iload_n 1, 1) := by decide +kernel
theorem dX9_undo_28 : decode cX9_undo 28 = .ok (.bipush 46, 2) := by decide +kernel
theorem dX9_undo_30 : decode cX9_undo 30 = .ok (.if_icmp .ge 29, 3) := by decide +kernel
theorem dX9_undo_33 : decode cX9_undo 33 = .ok (.aload_n 0, 1) := by decide +kernel
theorem dX9_undo_34 : decode cX9_undo 34 = .ok (.getfield 19, 3) := by decide +kernel
theorem dX9_undo_37 : decode cX9_undo 37 = .ok (.iload_n 1, 1) := by decide +kernel
theorem dX9_undo_38 : decode cX9_undo 38 = .ok (.aload_n 0, 1) := by decide +kernel
theorem dX9_undo_39 : decode cX9_undo 39 = .ok (.getfield 25, 3) := by decide +kernel
theorem dX9_undo_42 : decode cX9_undo 42 = .ok (.bipush 46, 2) := by decide +kernel
theorem dX9_undo_44 : decode cX9_undo 44 = .ok (.aload_n 0, 1) := by decide +kernel
theorem dX9_undo_45 : decode cX9_undo 45 = .ok (.getfield 92, 3) := by decide +kernel
theorem dX9_undo_48 : decode cX9_undo 48 = .ok (.imul, 1) := by decide +kernel
theorem dX9_undo_49 : decode cX9_undo 49 = .ok (.iload_n 1, 1) := by decide +kernel
theorem dX9_undo_50 : decode cX9_undo 50 = .ok (.iadd, 1) := by decide +kernel
theorem dX9_undo_51 : decode cX9_undo 51 = .ok (.iaload, 1) := by decide +kernel
theorem dX9_undo_52 : decode cX9_undo 52 = .ok (.iastore, 1) := by decide +kernel
theorem dX9_undo_53 : decode cX9_undo 53 = .ok (.iinc 1 1, 3) := by decide +kernel
theorem dX9_undo_56 : decode cX9_undo 56 = .ok (.goto (-29), 3) := by decide +kernel
theorem dX9_undo_59 : decode cX9_undo 59 = .ok (.aload_n 0, 1) := by decide +kernel
theorem dX9_undo_60 : decode cX9_undo 60 = .ok (.getfield 92, 3) := by decide +kernel
theorem dX9_undo_63 : decode cX9_undo 63 = .ok (.ireturn, 1) := by decide +kernel
theorem dX9_aside_0 : decode cX9_aside 0 = .ok (.iconst 0, 1) := by decide +kernel
theorem dX9_aside_1 : decode cX9_aside 1 = .ok (.istore_n 2, 1) := by decide +kernel
theorem dX9_aside_2 : decode cX9_aside 2 = .ok (.iload_n 2, 1) := by decide +kernel
theorem dX9_aside_3 : decode cX9_aside 3 = .ok (.bipush 46, 2) := by decide +kernel
theorem dX9_aside_5 : decode cX9_aside 5 = .ok (.if_icmp .ge 40, 3) := by decide +kernel
theorem dX9_aside_8 : decode cX9_aside 8 = .ok (.iload_n 1, 1) := by decide +kernel
theorem dX9_aside_9 : decode cX9_aside 9 = .ok (.ifCond .eq 18, 3) := by decide +kernel
theorem dX9_aside_12 : decode cX9_aside 12 = .ok (.aload_n 0, 1) := by decide +kernel
theorem dX9_aside_13 : decode cX9_aside 13 = .ok (.getfield 22, 3) := by decide +kernel
theorem dX9_aside_16 : decode cX9_aside 16 = .ok (.iload_n 2, 1) := by decide +kernel
theorem dX9_aside_17 : decode cX9_aside 17 = .ok (.aload_n 0, 1) := by decide +kernel
theorem dX9_aside_18 : decode cX9_aside 18 = .ok (.getfield 19, 3) := by decide +kernel
theorem dX9_aside_21 : decode cX9_aside 21 = .ok (.iload_n 2, 1) := by decide +kernel
theorem dX9_aside_22 : decode cX9_aside 22 = .ok (.iaload, 1) := by decide +kernel
theorem dX9_aside_23 : decode cX9_aside 23 = .ok (.iastore, 1) := by decide +kernel
theorem dX9_aside_24 : decode cX9_aside 24 = .ok (.goto 15, 3) := by decide +kernel
theorem dX9_aside_27 : decode cX9_aside 27 = .ok (.aload_n 0, 1) := by decide +kernel
theorem dX9_aside_28 : decode cX9_aside 28 = .ok (.getfield 19, 3) := by decide +kernel
theorem dX9_aside_31 : decode cX9_aside 31 = .ok (.iload_n 2, 1) := by decide +kernel
theorem dX9_aside_32 : decode cX9_aside 32 = .ok (.aload_n 0, 1) := by decide +kernel
theorem dX9_aside_33 : decode cX9_aside 33 = .ok (.getfield 22, 3) := by decide +kernel
theorem dX9_aside_36 : decode cX9_aside 36 = .ok (.iload_n 2, 1) := by decide +kernel
theorem dX9_aside_37 : decode cX9_aside 37 = .ok (.iaload, 1) := by decide +kernel
theorem dX9_aside_38 : decode cX9_aside 38 = .ok (.iastore, 1) := by decide +kernel
theorem dX9_aside_39 : decode cX9_aside 39 = .ok (.iinc 2 1, 3) := by decide +kernel
theorem dX9_aside_42 : decode cX9_aside 42 = .ok (.goto (-40), 3) := by decide +kernel
theorem dX9_aside_45 : decode cX9_aside 45 = .ok (.return_, 1) := by decide +kernel
theorem dX9_dies_0 : decode cX9_dies 0 = .ok (.aload_n 0, 1) := by decide +kernel
theorem dX9_dies_1 : decode cX9_dies 1 = .ok (.iconst 0, 1) := by decide +kernel
theorem dX9_dies_2 : decode cX9_dies 2 = .ok (.putfield 68, 3) := by decide +kernel
theorem dX9_dies_5 : decode cX9_dies 5 = .ok (.aload_n 0, 1) := by decide +kernel
theorem dX9_dies_6 : decode cX9_dies 6 = .ok (.iload_n 1, 1) := by decide +kernel
theorem dX9_dies_7 : decode cX9_dies 7 = .ok (.invokevirtual 107, 3) := by decide +kernel
theorem dX9_dies_10 : decode cX9_dies 10 = .ok (.ifCond .ne 5, 3) := by decide +kernel
theorem dX9_dies_13 : decode cX9_dies 13 = .ok (.iconst (-1), 1) := by decide +kernel
theorem dX9_dies_14 : decode cX9_dies 14 = .ok (.ireturn, 1) := by decide +kernel
theorem dX9_dies_15 : decode cX9_dies 15 = .ok (.aload_n 0, 1) := by decide +kernel
theorem dX9_dies_16 : decode cX9_dies 16 = .ok (.iconst 1, 1) := by decide +kernel
theorem dX9_dies_17 : decode cX9_dies 17 = .ok (.invokevirtual 159, 3) := by decide +kernel
theorem dX9_dies_20 : decode cX9_dies 20 = .ok (.iconst 0, 1) := by decide +kernel
theorem dX9_dies_21 : decode cX9_dies 21 = .ok (.istore_n 2, 1) := by decide +kernel
theorem dX9_dies_22 : decode cX9_dies 22 = .ok (.iload_n 2, 1) := by decide +kernel
theorem dX9_dies_23 : decode cX9_dies 23 = .ok (.sipush 2000, 3) := by decide +kernel
theorem dX9_dies_26 : decode cX9_dies 26 = .ok (.if_icmp .ge 22, 3) := by decide +kernel
theorem dX9_dies_29 : decode cX9_dies 29 = .ok (.aload_n 0, 1) := by decide +kernel
theorem dX9_dies_30 : decode cX9_dies 30 = .ok (.getfield 19, 3) := by decide +kernel
theorem dX9_dies_33 : decode cX9_dies 33 = .ok (.iload_n 1, 1) := by decide +kernel
theorem dX9_dies_34 : decode cX9_dies 34 = .ok (.iaload, 1) := by decide +kernel
theorem dX9_dies_35 : decode cX9_dies 35 = .ok (.ifCond .le 13, 3) := by decide +kernel
theorem dX9_dies_38 : decode cX9_dies 38 = .ok (.aload_n 0, 1) := by decide +kernel
theorem dX9_dies_39 : decode cX9_dies 39 = .ok (.invokevirtual 153, 3) := by decide +kernel
theorem dX9_dies_42 : decode cX9_dies 42 = .ok (.iinc 2 1, 3) := by decide +kernel
theorem dX9_dies_45 : decode cX9_dies 45 = .ok (.goto (-23), 3) := by decide +kernel
theorem dX9_dies_48 : decode cX9_dies 48 = .ok (.aload_n 0, 1) := by decide +kernel
theorem dX9_dies_49 : decode cX9_dies 49 = .ok (.getfield 19, 3) := by decide +kernel
theorem dX9_dies_52 : decode cX9_dies 52 = .ok (.iload_n 1, 1) := by decide +kernel
theorem dX9_dies_53 : decode cX9_dies 53 = .ok (.iaload, 1) := by decide +kernel
theorem dX9_dies_54 : decode cX9_dies 54 = .ok (.ifCond .le 8, 3) := by decide +kernel
theorem dX9_dies_57 : decode cX9_dies 57 = .ok (.bipush (-4), 2) := by decide +kernel
theorem dX9_dies_59 : decode cX9_dies 59 = .ok (.goto 4, 3) := by decide +kernel
theorem dX9_dies_62 : decode cX9_dies 62 = .ok (.iload_n 2, 1) := by decide +kernel
theorem dX9_dies_63 : decode cX9_dies 63 = .ok (.istore_n 2, 1) := by decide +kernel
theorem dX9_dies_64 : decode cX9_dies 64 = .ok (.aload_n 0, 1) := by decide +kernel
theorem dX9_dies_65 : decode cX9_dies 65 = .ok (.iconst 0, 1) := by decide +kernel
theorem dX9_dies_66 : decode cX9_dies 66 = .ok (.invokevirtual 159, 3) := by decide +kernel
theorem dX9_dies_69 : decode cX9_dies 69 = .ok (.iload_n 2, 1) := by decide +kernel
theorem dX9_dies_70 : decode cX9_dies 70 = .ok (.ireturn, 1) := by decide +kernel
theorem dX9_run_0 : decode cX9_run 0 = .ok (.aload_n 0, 1) := by decide +kernel
theorem dX9_run_1 : decode cX9_run 1 = .ok (.iconst 0, 1) := by decide +kernel
theorem dX9_run_2 : decode cX9_run 2 = .ok (.putfield 68, 3) := by decide +kernel
theorem dX9_run_5 : decode cX9_run 5 = .ok (.iload_n 1, 1) := by decide +kernel
theorem dX9_run_6 : decode cX9_run 6 = .ok (.iconst 0, 1) := by decide +kernel
theorem dX9_run_7 : decode cX9_run 7 = .ok (.sipush 2000, 3) := by decide +kernel
theorem dX9_run_10 : decode cX9_run 10 = .ok (.invokestatic 71, 3) := by decide +kernel
theorem dX9_run_13 : decode cX9_run 13 = .ok (.ifCond .eq 20, 3) := by decide +kernel
theorem dX9_run_16 : decode cX9_run 16 = .ok (.aload_n 0, 1) := by decide +kernel
theorem dX9_run_17 : decode cX9_run 17 = .ok (.iload_n 2, 1) := by decide +kernel
theorem dX9_run_18 : decode cX9_run 18 = .ok (.invokevirtual 107, 3) := by decide +kernel
theorem dX9_run_21 : decode cX9_run 21 = .ok (.ifCond .eq 12, 3) := by decide +kernel
theorem dX9_run_24 : decode cX9_run 24 = .ok (.iload_n 3, 1) := by decide +kernel
theorem dX9_run_25 : decode cX9_run 25 = .ok (.iconst 0, 1) := by decide +kernel
theorem dX9_run_26 : decode cX9_run 26 = .ok (.iconst 2, 1) := by decide +kernel
theorem dX9_run_27 : decode cX9_run 27 = .ok (.invokestatic 71, 3) := by decide +kernel
theorem dX9_run_30 : decode cX9_run 30 = .ok (.ifCond .ne 5, 3) := by decide +kernel
theorem dX9_run_33 : decode cX9_run 33 = .ok (.iconst (-1), 1) := by decide +kernel
theorem dX9_run_34 : decode cX9_run 34 = .ok (.ireturn, 1) := by decide +kernel
theorem dX9_run_35 : decode cX9_run 35 = .ok (.aload_n 0, 1) := by decide +kernel
theorem dX9_run_36 : decode cX9_run 36 = .ok (.iconst 1, 1) := by decide +kernel
theorem dX9_run_37 : decode cX9_run 37 = .ok (.invokevirtual 159, 3) := by decide +kernel
theorem dX9_run_40 : decode cX9_run 40 = .ok (.iconst 0, 1) := by decide +kernel
theorem dX9_run_41 : decode cX9_run 41 = .ok (.istore 4, 2) := by decide +kernel
theorem dX9_run_43 : decode cX9_run 43 = .ok (.iload 4, 2) := by decide +kernel
theorem dX9_run_45 : decode cX9_run 45 = .ok (.iload_n 1, 1) := by decide +kernel
theorem dX9_run_46 : decode cX9_run 46 = .ok (.if_icmp .ge 13, 3) := by decide +kernel
theorem dX9_run_49 : decode cX9_run 49 = .ok (.aload_n 0, 1) := by decide +kernel
theorem dX9_run_50 : decode cX9_run 50 = .ok (.invokevirtual 153, 3) := by decide +kernel
theorem dX9_run_53 : decode cX9_run 53 = .ok (.iinc 4 1, 3) := by decide +kernel
theorem dX9_run_56 : decode cX9_run 56 = .ok (.goto (-13), 3) := by decide +kernel
theorem dX9_run_59 : decode cX9_run 59 = .ok (.iload_n 3, 1) := by decide +kernel
theorem dX9_run_60 : decode cX9_run 60 = .ok (.ifCond .ne 12, 3) := by decide +kernel
theorem dX9_run_63 : decode cX9_run 63 = .ok (.aload_n 0, 1) := by decide +kernel
theorem dX9_run_64 : decode cX9_run 64 = .ok (.getfield 19, 3) := by decide +kernel
theorem dX9_run_67 : decode cX9_run 67 = .ok (.iload_n 2, 1) := by decide +kernel
theorem dX9_run_68 : decode cX9_run 68 = .ok (.iaload, 1) := by decide +kernel
theorem dX9_run_69 : decode cX9_run 69 = .ok (.goto 24, 3) := by decide +kernel
theorem dX9_run_72 : decode cX9_run 72 = .ok (.iload_n 3, 1) := by decide +kernel
theorem dX9_run_73 : decode cX9_run 73 = .ok (.iconst 1, 1) := by decide +kernel
theorem dX9_run_74 : decode cX9_run 74 = .ok (.if_icmp .ne 15, 3) := by decide +kernel
theorem dX9_run_77 : decode cX9_run 77 = .ok (.aload_n 0, 1) := by decide +kernel
theorem dX9_run_78 : decode cX9_run 78 = .ok (.getfield 19, 3) := by decide +kernel
theorem dX9_run_81 : decode cX9_run 81 = .ok (.bipush 6, 2) := by decide +kernel
theorem dX9_run_83 : decode cX9_run 83 = .ok (.iload_n 2, 1) := by decide +kernel
theorem dX9_run_84 : decode cX9_run 84 = .ok (.iadd, 1) := by decide +kernel
theorem dX9_run_85 : decode cX9_run 85 = .ok (.iaload, 1) := by decide +kernel
theorem dX9_run_86 : decode cX9_run 86 = .ok (.goto 7, 3) := by decide +kernel
theorem dX9_run_89 : decode cX9_run 89 = .ok (.aload_n 0, 1) := by decide +kernel
theorem dX9_run_90 : decode cX9_run 90 = .ok (.invokevirtual 156, 3) := by decide +kernel
theorem dX9_run_93 : decode cX9_run 93 = .ok (.istore 4, 2) := by decide +kernel
theorem dX9_run_95 : decode cX9_run 95 = .ok (.aload_n 0, 1) := by decide +kernel
theorem dX9_run_96 : decode cX9_run 96 = .ok (.iconst 0, 1) := by decide +kernel
theorem dX9_run_97 : decode cX9_run 97 = .ok (.invokevirtual 159, 3) := by decide +kernel
theorem dX9_run_100 : decode cX9_run 100 = .ok (.iload 4, 2) := by decide +kernel
theorem dX9_run_102 : decode cX9_run 102 = .ok (.ireturn, 1) := by decide +kernel
theorem dX9_tell_0 : decode cX9_tell 0 = .ok (.aload_n 0, 1) := by decide +kernel
theorem dX9_tell_1 : decode cX9_tell 1 = .ok (.iconst 0, 1) := by decide +kernel
theorem dX9_tell_2 : decode cX9_tell 2 = .ok (.putfield 68, 3) := by decide +kernel
theorem dX9_tell_5 : decode cX9_tell 5 = .ok (.aload_n 0, 1) := by decide +kernel
theorem dX9_tell_6 : decode cX9_tell 6 = .ok (.iload_n 1, 1) := by decide +kernel
theorem dX9_tell_7 : decode cX9_tell 7 = .ok (.invokevirtual 107, 3) := by decide +kernel
theorem dX9_tell_10 : decode cX9_tell 10 = .ok (.ifCond .eq 17, 3) := by decide +kernel
theorem dX9_tell_13 : decode cX9_tell 13 = .ok (.iload_n 2, 1) := by decide +kernel
theorem dX9_tell_14 : decode cX9_tell 14 = .ok (.invokestatic 114, 3) := by decide +kernel
theorem dX9_tell_17 : decode cX9_tell 17 = .ok (.ifCond .eq 10, 3) := by decide +kernel
theorem dX9_tell_20 : decode cX9_tell 20 = .ok (.iload_n 3, 1) := by decide +kernel
theorem dX9_tell_21 : decode cX9_tell 21 = .ok (.invokestatic 114, 3) := by decide +kernel
theorem dX9_tell_24 : decode cX9_tell 24 = .ok (.ifCond .ne 5, 3) := by decide +kernel
theorem dX9_tell_27 : decode cX9_tell 27 = .ok (.iconst (-1), 1) := by decide +kernel
theorem dX9_tell_28 : decode cX9_tell 28 = .ok (.ireturn, 1) := by decide +kernel
theorem dX9_tell_29 : decode cX9_tell 29 = .ok (.aload_n 0, 1) := by decide +kernel
theorem dX9_tell_30 : decode cX9_tell 30 = .ok (.getfield 98, 3) := by decide +kernel
theorem dX9_tell_33 : decode cX9_tell 33 = .ok (.bipush 12, 2) := by decide +kernel
theorem dX9_tell_35 : decode cX9_tell 35 = .ok (.if_icmp .ne 6, 3) := by decide +kernel
theorem dX9_tell_38 : decode cX9_tell 38 = .ok (.bipush (-3), 2) := by decide +kernel
theorem dX9_tell_40 : decode cX9_tell 40 = .ok (.ireturn, 1) := by decide +kernel
theorem dX9_tell_41 : decode cX9_tell 41 = .ok (.aload_n 0, 1) := by decide +kernel
theorem dX9_tell_42 : decode cX9_tell 42 = .ok (.getfield 31, 3) := by decide +kernel
theorem dX9_tell_45 : decode cX9_tell 45 = .ok (.iconst 4, 1) := by decide +kernel
theorem dX9_tell_46 : decode cX9_tell 46 = .ok (.aload_n 0, 1) := by decide +kernel
theorem dX9_tell_47 : decode cX9_tell 47 = .ok (.getfield 98, 3) := by decide +kernel
theorem dX9_tell_50 : decode cX9_tell 50 = .ok (.imul, 1) := by decide +kernel
theorem dX9_tell_51 : decode cX9_tell 51 = .ok (.iload_n 1, 1) := by decide +kernel
theorem dX9_tell_52 : decode cX9_tell 52 = .ok (.iastore, 1) := by decide +kernel
theorem dX9_tell_53 : decode cX9_tell 53 = .ok (.aload_n 0, 1) := by decide +kernel
theorem dX9_tell_54 : decode cX9_tell 54 = .ok (.getfield 31, 3) := by decide +kernel
theorem dX9_tell_57 : decode cX9_tell 57 = .ok (.iconst 4, 1) := by decide +kernel
theorem dX9_tell_58 : decode cX9_tell 58 = .ok (.aload_n 0, 1) := by decide +kernel
theorem dX9_tell_59 : decode cX9_tell 59 = .ok (.getfield 98, 3) := by decide +kernel
theorem dX9_tell_62 : decode cX9_tell 62 = .ok (.imul, 1) := by decide +kernel
theorem dX9_tell_63 : decode cX9_tell 63 = .ok (.iconst 1, 1) := by decide +kernel
theorem dX9_tell_64 : decode cX9_tell 64 = .ok (.iadd, 1) := by decide +kernel
theorem dX9_tell_65 : decode cX9_tell 65 = .ok (.iload_n 2, 1) := by decide +kernel
theorem dX9_tell_66 : decode cX9_tell 66 = .ok (.iastore, 1) := by decide +kernel
theorem dX9_tell_67 : decode cX9_tell 67 = .ok (.aload_n 0, 1) := by decide +kernel
theorem dX9_tell_68 : decode cX9_tell 68 = .ok (.getfield 31, 3) := by decide +kernel
theorem dX9_tell_71 : decode cX9_tell 71 = .ok (.iconst 4, 1) := by decide +kernel
theorem dX9_tell_72 : decode cX9_tell 72 = .ok (.aload_n 0, 1) := by decide +kernel
theorem dX9_tell_73 : decode cX9_tell 73 = .ok (.getfield 98, 3) := by decide +kernel
theorem dX9_tell_76 : decode cX9_tell 76 = .ok (.imul, 1) := by decide +kernel
theorem dX9_tell_77 : decode cX9_tell 77 = .ok (.iconst 2, 1) := by decide +kernel
theorem dX9_tell_78 : decode cX9_tell 78 = .ok (.iadd, 1) := by decide +kernel
theorem dX9_tell_79 : decode cX9_tell 79 = .ok (.iload_n 3, 1) := by decide +kernel
theorem dX9_tell_80 : decode cX9_tell 80 = .ok (.iastore, 1) := by decide +kernel
theorem dX9_tell_81 : decode cX9_tell 81 = .ok (.aload_n 0, 1) := by decide +kernel
theorem dX9_tell_82 : decode cX9_tell 82 = .ok (.getfield 31, 3) := by decide +kernel
theorem dX9_tell_85 : decode cX9_tell 85 = .ok (.iconst 4, 1) := by decide +kernel
theorem dX9_tell_86 : decode cX9_tell 86 = .ok (.aload_n 0, 1) := by decide +kernel
theorem dX9_tell_87 : decode cX9_tell 87 = .ok (.getfield 98, 3) := by decide +kernel
theorem dX9_tell_90 : decode cX9_tell 90 = .ok (.imul, 1) := by decide +kernel
theorem dX9_tell_91 : decode cX9_tell 91 = .ok (.iconst 3, 1) := by decide +kernel
theorem dX9_tell_92 : decode cX9_tell 92 = .ok (.iadd, 1) := by decide +kernel
theorem dX9_tell_93 : decode cX9_tell 93 = .ok (.iload 4, 2) := by decide +kernel
theorem dX9_tell_95 : decode cX9_tell 95 = .ok (.ifCond .eq 7, 3) := by decide +kernel
theorem dX9_tell_98 : decode cX9_tell 98 = .ok (.iconst 1, 1) := by decide +kernel
theorem dX9_tell_99 : decode cX9_tell 99 = .ok (.goto 4, 3) := by decide +kernel
theorem dX9_tell_102 : decode cX9_tell 102 = .ok (.iconst 0, 1) := by decide +kernel
theorem dX9_tell_103 : decode cX9_tell 103 = .ok (.iastore, 1) := by decide +kernel
theorem dX9_tell_104 : decode cX9_tell 104 = .ok (.aload_n 0, 1) := by decide +kernel
theorem dX9_tell_105 : decode cX9_tell 105 = .ok (.dup, 1) := by decide +kernel
theorem dX9_tell_106 : decode cX9_tell 106 = .ok (.getfield 98, 3) := by decide +kernel
theorem dX9_tell_109 : decode cX9_tell 109 = .ok (.iconst 1, 1) := by decide +kernel
theorem dX9_tell_110 : decode cX9_tell 110 = .ok (.iadd, 1) := by decide +kernel
theorem dX9_tell_111 : decode cX9_tell 111 = .ok (.putfield 98, 3) := by decide +kernel
theorem dX9_tell_114 : decode cX9_tell 114 = .ok (.aload_n 0, 1) := by decide +kernel
theorem dX9_tell_115 : decode cX9_tell 115 = .ok (.getfield 98, 3) := by decide +kernel
theorem dX9_tell_118 : decode cX9_tell 118 = .ok (.ireturn, 1) := by decide +kernel
theorem dX9_forget_0 : decode cX9_forget 0 = .ok (.aload_n 0, 1) := by decide +kernel
theorem dX9_forget_1 : decode cX9_forget 1 = .ok (.iconst 0, 1) := by decide +kernel
theorem dX9_forget_2 : decode cX9_forget 2 = .ok (.putfield 68, 3) := by decide +kernel
theorem dX9_forget_5 : decode cX9_forget 5 = .ok (.aload_n 0, 1) := by decide +kernel
theorem dX9_forget_6 : decode cX9_forget 6 = .ok (.getfield 98, 3) := by decide +kernel
theorem dX9_forget_9 : decode cX9_forget 9 = .ok (.istore_n 1, 1) := by decide +kernel
theorem dX9_forget_10 : decode cX9_forget 10 = .ok (.aload_n 0, 1) := by decide +kernel
theorem dX9_forget_11 : decode cX9_forget 11 = .ok (.iconst 0, 1) := by decide +kernel
theorem dX9_forget_12 : decode cX9_forget 12 = .ok (.putfield 98, 3) := by decide +kernel
theorem dX9_forget_15 : decode cX9_forget 15 = .ok (.iload_n 1, 1) := by decide +kernel
theorem dX9_forget_16 : decode cX9_forget 16 = .ok (.ireturn, 1) := by decide +kernel
theorem dX9_isSo_0 : decode cX9_isSo 0 = .ok (.aload_n 0, 1) := by decide +kernel
theorem dX9_isSo_1 : decode cX9_isSo 1 = .ok (.getfield 31, 3) := by decide +kernel
theorem dX9_isSo_4 : decode cX9_isSo 4 = .ok (.iconst 4, 1) := by decide +kernel
theorem dX9_isSo_5 : decode cX9_isSo 5 = .ok (.iload_n 1, 1) := by decide +kernel
theorem dX9_isSo_6 : decode cX9_isSo 6 = .ok (.imul, 1) := by decide +kernel
theorem dX9_isSo_7 : decode cX9_isSo 7 = .ok (.iconst 2, 1) := by decide +kernel
theorem dX9_isSo_8 : decode cX9_isSo 8 = .ok (.iadd, 1) := by decide +kernel
theorem dX9_isSo_9 : decode cX9_isSo 9 = .ok (.iaload, 1) := by decide +kernel
theorem dX9_isSo_10 : decode cX9_isSo 10 = .ok (.aload_n 0, 1) := by decide +kernel
theorem dX9_isSo_11 : decode cX9_isSo 11 = .ok (.getfield 31, 3) := by decide +kernel
theorem dX9_isSo_14 : decode cX9_isSo 14 = .ok (.iconst 4, 1) := by decide +kernel
theorem dX9_isSo_15 : decode cX9_isSo 15 = .ok (.iload_n 1, 1) := by decide +kernel
theorem dX9_isSo_16 : decode cX9_isSo 16 = .ok (.imul, 1) := by decide +kernel
theorem dX9_isSo_17 : decode cX9_isSo 17 = .ok (.iconst 1, 1) := by decide +kernel
theorem dX9_isSo_18 : decode cX9_isSo 18 = .ok (.iadd, 1) := by decide +kernel
theorem dX9_isSo_19 : decode cX9_isSo 19 = .ok (.iaload, 1) := by decide +kernel
theorem dX9_isSo_20 : decode cX9_isSo 20 = .ok (.aload_n 0, 1) := by decide +kernel
theorem dX9_isSo_21 : decode cX9_isSo 21 = .ok (.getfield 62, 3) := by decide +kernel
theorem dX9_isSo_24 : decode cX9_isSo 24 = .ok (.imul, 1) := by decide +kernel
theorem dX9_isSo_25 : decode cX9_isSo 25 = .ok (.bipush 100, 2) := by decide +kernel
theorem dX9_isSo_27 : decode cX9_isSo 27 = .ok (.idiv, 1) := by decide +kernel
theorem dX9_isSo_28 : decode cX9_isSo 28 = .ok (.iadd, 1) := by decide +kernel
theorem dX9_isSo_29 : decode cX9_isSo 29 = .ok (.istore_n 3, 1) := by decide +kernel
theorem dX9_isSo_30 : decode cX9_isSo 30 = .ok (.iload_n 2, 1) := by decide +kernel
theorem dX9_isSo_31 : decode cX9_isSo 31 = .ok (.iload_n 3, 1) := by decide +kernel
theorem dX9_isSo_32 : decode cX9_isSo 32 = .ok (.if_icmp .le 7, 3) := by decide +kernel
theorem dX9_isSo_35 : decode cX9_isSo 35 = .ok (.iconst 1, 1) := by decide +kernel
theorem dX9_isSo_36 : decode cX9_isSo 36 = .ok (.goto 4, 3) := by decide +kernel
theorem dX9_isSo_39 : decode cX9_isSo 39 = .ok (.iconst 0, 1) := by decide +kernel
theorem dX9_isSo_40 : decode cX9_isSo 40 = .ok (.aload_n 0, 1) := by decide +kernel
theorem dX9_isSo_41 : decode cX9_isSo 41 = .ok (.getfield 31, 3) := by decide +kernel
theorem dX9_isSo_44 : decode cX9_isSo 44 = .ok (.iconst 4, 1) := by decide +kernel
theorem dX9_isSo_45 : decode cX9_isSo 45 = .ok (.iload_n 1, 1) := by decide +kernel
theorem dX9_isSo_46 : decode cX9_isSo 46 = .ok (.imul, 1) := by decide +kernel
theorem dX9_isSo_47 : decode cX9_isSo 47 = .ok (.iconst 3, 1) := by decide +kernel
theorem dX9_isSo_48 : decode cX9_isSo 48 = .ok (.iadd, 1) := by decide +kernel
theorem dX9_isSo_49 : decode cX9_isSo 49 = .ok (.iaload, 1) := by decide +kernel
theorem dX9_isSo_50 : decode cX9_isSo 50 = .ok (.iconst 1, 1) := by decide +kernel
theorem dX9_isSo_51 : decode cX9_isSo 51 = .ok (.if_icmp .ne 7, 3) := by decide +kernel
theorem dX9_isSo_54 : decode cX9_isSo 54 = .ok (.iconst 1, 1) := by decide +kernel
theorem dX9_isSo_55 : decode cX9_isSo 55 = .ok (.goto 4, 3) := by decide +kernel
theorem dX9_isSo_58 : decode cX9_isSo 58 = .ok (.iconst 0, 1) := by decide +kernel
theorem dX9_isSo_59 : decode cX9_isSo 59 = .ok (.if_icmp .ne 7, 3) := by decide +kernel
theorem dX9_isSo_62 : decode cX9_isSo 62 = .ok (.iconst 1, 1) := by decide +kernel
theorem dX9_isSo_63 : decode cX9_isSo 63 = .ok (.goto 4, 3) := by decide +kernel
theorem dX9_isSo_66 : decode cX9_isSo 66 = .ok (.iconst 0, 1) := by decide +kernel
theorem dX9_isSo_67 : decode cX9_isSo 67 = .ok (.ireturn, 1) := by decide +kernel
theorem dX9_spans_0 : decode cX9_spans 0 = .ok (.aload_n 0, 1) := by decide +kernel
theorem dX9_spans_1 : decode cX9_spans 1 = .ok (.bipush (-4), 2) := by decide +kernel
theorem dX9_spans_3 : decode cX9_spans 3 = .ok (.putfield 163, 3) := by decide +kernel
theorem dX9_spans_6 : decode cX9_spans 6 = .ok (.aload_n 0, 1) := by decide +kernel
theorem dX9_spans_7 : decode cX9_spans 7 = .ok (.bipush (-4), 2) := by decide +kernel
theorem dX9_spans_9 : decode cX9_spans 9 = .ok (.putfield 166, 3) := by decide +kernel
theorem dX9_spans_12 : decode cX9_spans 12 = .ok (.iconst 1, 1) := by decide +kernel
theorem dX9_spans_13 : decode cX9_spans 13 = .ok (.istore_n 2, 1) := by decide +kernel
theorem dX9_spans_14 : decode cX9_spans 14 = .ok (.iload_n 2, 1) := by decide +kernel
theorem dX9_spans_15 : decode cX9_spans 15 = .ok (.sipush 1000, 3) := by decide +kernel
theorem dX9_spans_18 : decode cX9_spans 18 = .ok (.if_icmp .ge 103, 3) := by decide +kernel
theorem dX9_spans_21 : decode cX9_spans 21 = .ok (.iconst 1, 1) := by decide +kernel
theorem dX9_spans_22 : decode cX9_spans 22 = .ok (.istore_n 3, 1) := by decide +kernel
theorem dX9_spans_23 : decode cX9_spans 23 = .ok (.iconst 0, 1) := by decide +kernel
theorem dX9_spans_24 : decode cX9_spans 24 = .ok (.istore 4, 2) := by decide +kernel
theorem dX9_spans_26 : decode cX9_spans 26 = .ok (.iload 4, 2) := by decide +kernel
theorem dX9_spans_28 : decode cX9_spans 28 = .ok (.aload_n 0, 1) := by decide +kernel
theorem dX9_spans_29 : decode cX9_spans 29 = .ok (.getfield 98, 3) := by decide +kernel
theorem dX9_spans_32 : decode cX9_spans 32 = .ok (.if_icmp .ge 42, 3) := by decide +kernel
theorem dX9_spans_35 : decode cX9_spans 35 = .ok (.iload_n 3, 1) := by decide +kernel
theorem dX9_spans_36 : decode cX9_spans 36 = .ok (.ifCond .eq 30, 3) := by decide +kernel
theorem dX9_spans_39 : decode cX9_spans 39 = .ok (.aload_n 0, 1) := by decide +kernel
theorem dX9_spans_40 : decode cX9_spans 40 = .ok (.getfield 31, 3) := by decide +kernel
theorem dX9_spans_43 : decode cX9_spans 43 = .ok (.iconst 4, 1) := by decide +kernel
theorem dX9_spans_44 : decode cX9_spans 44 = .ok (.iload 4, 2) := by decide +kernel
theorem dX9_spans_46 : decode cX9_spans 46 = .ok (.imul, 1) := by decide +kernel
theorem dX9_spans_47 : decode cX9_spans 47 = .ok (.iaload, 1) := by decide +kernel
theorem dX9_spans_48 : decode cX9_spans 48 = .ok (.iload_n 1, 1) := by decide +kernel
theorem dX9_spans_49 : decode cX9_spans 49 = .ok (.if_icmp .ne 13, 3) := by decide +kernel
theorem dX9_spans_52 : decode cX9_spans 52 = .ok (.aload_n 0, 1) := by decide +kernel
theorem dX9_spans_53 : decode cX9_spans 53 = .ok (.iload 4, 2) := by decide +kernel
theorem dX9_spans_55 : decode cX9_spans 55 = .ok (.iload_n 2, 1) := by decide +kernel
theorem dX9_spans_56 : decode cX9_spans 56 = .ok (.invokevirtual 169, 3) := by decide +kernel
theorem dX9_spans_59 : decode cX9_spans 59 = .ok (.ifCond .eq 7, 3) := by decide +kernel
theorem dX9_spans_62 : decode cX9_spans 62 = .ok (.iconst 1, 1) := by decide +kernel
theorem dX9_spans_63 : decode cX9_spans 63 = .ok (.goto 4, 3) := by decide +kernel
theorem dX9_spans_66 : decode cX9_spans 66 = .ok (.iconst 0, 1) := by decide +kernel
theorem dX9_spans_67 : decode cX9_spans 67 = .ok (.istore_n 3, 1) := by decide +kernel
theorem dX9_spans_68 : decode cX9_spans 68 = .ok (.iinc 4 1, 3) := by decide +kernel
theorem dX9_spans_71 : decode cX9_spans 71 = .ok (.goto (-45), 3) := by decide +kernel
theorem dX9_spans_74 : decode cX9_spans 74 = .ok (.aload_n 0, 1) := by decide +kernel
theorem dX9_spans_75 : decode cX9_spans 75 = .ok (.iload_n 3, 1) := by decide +kernel
theorem dX9_spans_76 : decode cX9_spans 76 = .ok (.ifCond .eq 16, 3) := by decide +kernel
theorem dX9_spans_79 : decode cX9_spans 79 = .ok (.aload_n 0, 1) := by decide +kernel
theorem dX9_spans_80 : decode cX9_spans 80 = .ok (.getfield 163, 3) := by decide +kernel
theorem dX9_spans_83 : decode cX9_spans 83 = .ok (.bipush (-4), 2) := by decide +kernel
theorem dX9_spans_85 : decode cX9_spans 85 = .ok (.if_icmp .ne 7, 3) := by decide +kernel
theorem dX9_spans_88 : decode cX9_spans 88 = .ok (.iload_n 2, 1) := by decide +kernel
theorem dX9_spans_89 : decode cX9_spans 89 = .ok (.goto 7, 3) := by decide +kernel
theorem dX9_spans_92 : decode cX9_spans 92 = .ok (.aload_n 0, 1) := by decide +kernel
theorem dX9_spans_93 : decode cX9_spans 93 = .ok (.getfield 163, 3) := by decide +kernel
theorem dX9_spans_96 : decode cX9_spans 96 = .ok (.putfield 163, 3) := by decide +kernel
theorem dX9_spans_99 : decode cX9_spans 99 = .ok (.aload_n 0, 1) := by decide +kernel
theorem dX9_spans_100 : decode cX9_spans 100 = .ok (.iload_n 3, 1) := by decide +kernel
theorem dX9_spans_101 : decode cX9_spans 101 = .ok (.ifCond .eq 7, 3) := by decide +kernel
theorem dX9_spans_104 : decode cX9_spans 104 = .ok (.iload_n 2, 1) := by decide +kernel
theorem dX9_spans_105 : decode cX9_spans 105 = .ok (.goto 7, 3) := by decide +kernel
theorem dX9_spans_108 : decode cX9_spans 108 = .ok (.aload_n 0, 1) := by decide +kernel
theorem dX9_spans_109 : decode cX9_spans 109 = .ok (.getfield 166, 3) := by decide +kernel
theorem dX9_spans_112 : decode cX9_spans 112 = .ok (.putfield 166, 3) := by decide +kernel
theorem dX9_spans_115 : decode cX9_spans 115 = .ok (.iinc 2 1, 3) := by decide +kernel
theorem dX9_spans_118 : decode cX9_spans 118 = .ok (.goto (-104), 3) := by decide +kernel
theorem dX9_spans_121 : decode cX9_spans 121 = .ok (.return_, 1) := by decide +kernel
theorem dX9_span_0 : decode cX9_span 0 = .ok (.aload_n 0, 1) := by decide +kernel
theorem dX9_span_1 : decode cX9_span 1 = .ok (.iconst 0, 1) := by decide +kernel
theorem dX9_span_2 : decode cX9_span 2 = .ok (.putfield 68, 3) := by decide +kernel
theorem dX9_span_5 : decode cX9_span 5 = .ok (.aload_n 0, 1) := by decide +kernel
theorem dX9_span_6 : decode cX9_span 6 = .ok (.iload_n 1, 1) := by decide +kernel
theorem dX9_span_7 : decode cX9_span 7 = .ok (.invokevirtual 107, 3) := by decide +kernel
theorem dX9_span_10 : decode cX9_span 10 = .ok (.ifCond .eq 12, 3) := by decide +kernel
theorem dX9_span_13 : decode cX9_span 13 = .ok (.iload_n 2, 1) := by decide +kernel
theorem dX9_span_14 : decode cX9_span 14 = .ok (.iconst 0, 1) := by decide +kernel
theorem dX9_span_15 : decode cX9_span 15 = .ok (.iconst 1, 1) := by decide +kernel
theorem dX9_span_16 : decode cX9_span 16 = .ok (.invokestatic 71, 3) := by decide +kernel
theorem dX9_span_19 : decode cX9_span 19 = .ok (.ifCond .ne 5, 3) := by decide +kernel
theorem dX9_span_22 : decode cX9_span 22 = .ok (.iconst (-1), 1) := by decide +kernel
theorem dX9_span_23 : decode cX9_span 23 = .ok (.ireturn, 1) := by decide +kernel
theorem dX9_span_24 : decode cX9_span 24 = .ok (.aload_n 0, 1) := by decide +kernel
theorem dX9_span_25 : decode cX9_span 25 = .ok (.iload_n 1, 1) := by decide +kernel
theorem dX9_span_26 : decode cX9_span 26 = .ok (.invokevirtual 172, 3) := by decide +kernel
theorem dX9_span_29 : decode cX9_span 29 = .ok (.iload_n 2, 1) := by decide +kernel
theorem dX9_span_30 : decode cX9_span 30 = .ok (.ifCond .ne 10, 3) := by decide +kernel
theorem dX9_span_33 : decode cX9_span 33 = .ok (.aload_n 0, 1) := by decide +kernel
theorem dX9_span_34 : decode cX9_span 34 = .ok (.getfield 163, 3) := by decide +kernel
theorem dX9_span_37 : decode cX9_span 37 = .ok (.goto 7, 3) := by decide +kernel
theorem dX9_span_40 : decode cX9_span 40 = .ok (.aload_n 0, 1) := by decide +kernel
theorem dX9_span_41 : decode cX9_span 41 = .ok (.getfield 166, 3) := by decide +kernel
theorem dX9_span_44 : decode cX9_span 44 = .ok (.ireturn, 1) := by decide +kernel
theorem dX9_ask_0 : decode cX9_ask 0 = .ok (.aload_n 0, 1) := by decide +kernel
theorem dX9_ask_1 : decode cX9_ask 1 = .ok (.iconst 0, 1) := by decide +kernel
theorem dX9_ask_2 : decode cX9_ask 2 = .ok (.putfield 68, 3) := by decide +kernel
theorem dX9_ask_5 : decode cX9_ask 5 = .ok (.aload_n 0, 1) := by decide +kernel
theorem dX9_ask_6 : decode cX9_ask 6 = .ok (.iload_n 1, 1) := by decide +kernel
theorem dX9_ask_7 : decode cX9_ask 7 = .ok (.invokevirtual 107, 3) := by decide +kernel
theorem dX9_ask_10 : decode cX9_ask 10 = .ok (.ifCond .eq 10, 3) := by decide +kernel
theorem dX9_ask_13 : decode cX9_ask 13 = .ok (.iload_n 2, 1) := by decide +kernel
theorem dX9_ask_14 : decode cX9_ask 14 = .ok (.invokestatic 114, 3) := by decide +kernel
theorem dX9_ask_17 : decode cX9_ask 17 = .ok (.ifCond .ne 5, 3) := by decide +kernel
theorem dX9_ask_20 : decode cX9_ask 20 = .ok (.iconst (-1), 1) := by decide +kernel
theorem dX9_ask_21 : decode cX9_ask 21 = .ok (.ireturn, 1) := by decide +kernel
theorem dX9_ask_22 : decode cX9_ask 22 = .ok (.aload_n 0, 1) := by decide +kernel
theorem dX9_ask_23 : decode cX9_ask 23 = .ok (.iload_n 1, 1) := by decide +kernel
theorem dX9_ask_24 : decode cX9_ask 24 = .ok (.invokevirtual 172, 3) := by decide +kernel
theorem dX9_ask_27 : decode cX9_ask 27 = .ok (.bipush (-4), 2) := by decide +kernel
theorem dX9_ask_29 : decode cX9_ask 29 = .ok (.istore_n 3, 1) := by decide +kernel
theorem dX9_ask_30 : decode cX9_ask 30 = .ok (.iconst 0, 1) := by decide +kernel
theorem dX9_ask_31 : decode cX9_ask 31 = .ok (.istore 4, 2) := by decide +kernel
theorem dX9_ask_33 : decode cX9_ask 33 = .ok (.iconst 1, 1) := by decide +kernel
theorem dX9_ask_34 : decode cX9_ask 34 = .ok (.istore 5, 2) := by decide +kernel
theorem dX9_ask_36 : decode cX9_ask 36 = .ok (.iload 5, 2) := by decide +kernel
theorem dX9_ask_38 : decode cX9_ask 38 = .ok (.sipush 201, 3) := by decide +kernel
theorem dX9_ask_41 : decode cX9_ask 41 = .ok (.if_icmp .ge 138, 3) := by decide +kernel
theorem dX9_ask_44 : decode cX9_ask 44 = .ok (.aload_n 0, 1) := by decide +kernel
theorem dX9_ask_45 : decode cX9_ask 45 = .ok (.getfield 163, 3) := by decide +kernel
theorem dX9_ask_48 : decode cX9_ask 48 = .ok (.bipush (-4), 2) := by decide +kernel
theorem dX9_ask_50 : decode cX9_ask 50 = .ok (.if_icmp .eq 129, 3) := by decide +kernel
theorem dX9_ask_53 : decode cX9_ask 53 = .ok (.iload 5, 2) := by decide +kernel
theorem dX9_ask_55 : decode cX9_ask 55 = .ok (.iload_n 2, 1) := by decide +kernel
theorem dX9_ask_56 : decode cX9_ask 56 = .ok (.aload_n 0, 1) := by decide +kernel
theorem dX9_ask_57 : decode cX9_ask 57 = .ok (.getfield 62, 3) := by decide +kernel
theorem dX9_ask_60 : decode cX9_ask 60 = .ok (.imul, 1) := by decide +kernel
theorem dX9_ask_61 : decode cX9_ask 61 = .ok (.bipush 100, 2) := by decide +kernel
theorem dX9_ask_63 : decode cX9_ask 63 = .ok (.idiv, 1) := by decide +kernel
theorem dX9_ask_64 : decode cX9_ask 64 = .ok (.iadd, 1) := by decide +kernel
theorem dX9_ask_65 : decode cX9_ask 65 = .ok (.istore 6, 2) := by decide +kernel
theorem dX9_ask_67 : decode cX9_ask 67 = .ok (.iload 6, 2) := by decide +kernel
theorem dX9_ask_69 : decode cX9_ask 69 = .ok (.aload_n 0, 1) := by decide +kernel
theorem dX9_ask_70 : decode cX9_ask 70 = .ok (.getfield 166, 3) := by decide +kernel
theorem dX9_ask_73 : decode cX9_ask 73 = .ok (.invokestatic 134, 3) := by decide +kernel
theorem dX9_ask_76 : decode cX9_ask 76 = .ok (.aload_n 0, 1) := by decide +kernel
theorem dX9_ask_77 : decode cX9_ask 77 = .ok (.getfield 163, 3) := by decide +kernel
theorem dX9_ask_80 : decode cX9_ask 80 = .ok (.isub, 1) := by decide +kernel
theorem dX9_ask_81 : decode cX9_ask 81 = .ok (.iconst 1, 1) := by decide +kernel
theorem dX9_ask_82 : decode cX9_ask 82 = .ok (.iadd, 1) := by decide +kernel
theorem dX9_ask_83 : decode cX9_ask 83 = .ok (.istore 7, 2) := by decide +kernel
theorem dX9_ask_85 : decode cX9_ask 85 = .ok (.aload_n 0, 1) := by decide +kernel
theorem dX9_ask_86 : decode cX9_ask 86 = .ok (.getfield 166, 3) := by decide +kernel
theorem dX9_ask_89 : decode cX9_ask 89 = .ok (.iload 6, 2) := by decide +kernel
theorem dX9_ask_91 : decode cX9_ask 91 = .ok (.aload_n 0, 1) := by decide +kernel
theorem dX9_ask_92 : decode cX9_ask 92 = .ok (.getfield 163, 3) := by decide +kernel
theorem dX9_ask_95 : decode cX9_ask 95 = .ok (.if_icmp .ge 12, 3) := by decide +kernel
theorem dX9_ask_98 : decode cX9_ask 98 = .ok (.aload_n 0, 1) := by decide +kernel
theorem dX9_ask_99 : decode cX9_ask 99 = .ok (.getfield 163, 3) := by decide +kernel
theorem dX9_ask_102 : decode cX9_ask 102 = .ok (.iconst 1, 1) := by decide +kernel
theorem dX9_ask_103 : decode cX9_ask 103 = .ok (.isub, 1) := by decide +kernel
theorem dX9_ask_104 : decode cX9_ask 104 = .ok (.goto 5, 3) := by decide +kernel
theorem dX9_ask_107 : decode cX9_ask 107 = .ok (.iload 6, 2) := by decide +kernel
theorem dX9_ask_109 : decode cX9_ask 109 = .ok (.isub, 1) := by decide +kernel
theorem dX9_ask_110 : decode cX9_ask 110 = .ok (.istore 8, 2) := by decide +kernel
theorem dX9_ask_112 : decode cX9_ask 112 = .ok (.iload 7, 2) := by decide +kernel
theorem dX9_ask_114 : decode cX9_ask 114 = .ok (.ifCond .le 59, 3) := by decide +kernel
theorem dX9_ask_117 : decode cX9_ask 117 = .ok (.iload 8, 2) := by decide +kernel
theorem dX9_ask_119 : decode cX9_ask 119 = .ok (.ifCond .le 54, 3) := by decide +kernel
theorem dX9_ask_122 : decode cX9_ask 122 = .ok (.iload 7, 2) := by decide +kernel
theorem dX9_ask_124 : decode cX9_ask 124 = .ok (.iload 8, 2) := by decide +kernel
theorem dX9_ask_126 : decode cX9_ask 126 = .ok (.if_icmp .le 8, 3) := by decide +kernel
theorem dX9_ask_129 : decode cX9_ask 129 = .ok (.iload 7, 2) := by decide +kernel
theorem dX9_ask_131 : decode cX9_ask 131 = .ok (.goto 5, 3) := by decide +kernel
theorem dX9_ask_134 : decode cX9_ask 134 = .ok (.iload 8, 2) := by decide +kernel
theorem dX9_ask_136 : decode cX9_ask 136 = .ok (.istore 9, 2) := by decide +kernel
theorem dX9_ask_138 : decode cX9_ask 138 = .ok (.iload_n 3, 1) := by decide +kernel
theorem dX9_ask_139 : decode cX9_ask 139 = .ok (.bipush (-4), 2) := by decide +kernel
theorem dX9_ask_141 : decode cX9_ask 141 = .ok (.if_icmp .eq 10, 3) := by decide +kernel
theorem dX9_ask_144 : decode cX9_ask 144 = .ok (.iload 9, 2) := by decide +kernel
theorem dX9_ask_146 : decode cX9_ask 146 = .ok (.iload 4, 2) := by decide +kernel
theorem dX9_ask_148 : decode cX9_ask 148 = .ok (.if_icmp .ge 8, 3) := by decide +kernel
theorem dX9_ask_151 : decode cX9_ask 151 = .ok (.iload 5, 2) := by decide +kernel
theorem dX9_ask_153 : decode cX9_ask 153 = .ok (.goto 4, 3) := by decide +kernel
theorem dX9_ask_156 : decode cX9_ask 156 = .ok (.iload_n 3, 1) := by decide +kernel
theorem dX9_ask_157 : decode cX9_ask 157 = .ok (.istore_n 3, 1) := by decide +kernel
theorem dX9_ask_158 : decode cX9_ask 158 = .ok (.iload_n 3, 1) := by decide +kernel
theorem dX9_ask_159 : decode cX9_ask 159 = .ok (.iload 5, 2) := by decide +kernel
theorem dX9_ask_161 : decode cX9_ask 161 = .ok (.if_icmp .ne 8, 3) := by decide +kernel
theorem dX9_ask_164 : decode cX9_ask 164 = .ok (.iload 9, 2) := by decide +kernel
theorem dX9_ask_166 : decode cX9_ask 166 = .ok (.goto 5, 3) := by decide +kernel
theorem dX9_ask_169 : decode cX9_ask 169 = .ok (.iload 4, 2) := by decide +kernel
theorem dX9_ask_171 : decode cX9_ask 171 = .ok (.istore 4, 2) := by decide +kernel
theorem dX9_ask_173 : decode cX9_ask 173 = .ok (.iinc 5 1, 3) := by decide +kernel
theorem dX9_ask_176 : decode cX9_ask 176 = .ok (.goto (-140), 3) := by decide +kernel
theorem dX9_ask_179 : decode cX9_ask 179 = .ok (.iload_n 3, 1) := by decide +kernel
theorem dX9_ask_180 : decode cX9_ask 180 = .ok (.ireturn, 1) := by decide +kernel
theorem dX9_bribed_0 : decode cX9_bribed 0 = .ok (.aload_n 0, 1) := by decide +kernel
theorem dX9_bribed_1 : decode cX9_bribed 1 = .ok (.iconst 0, 1) := by decide +kernel
theorem dX9_bribed_2 : decode cX9_bribed 2 = .ok (.putfield 68, 3) := by decide +kernel
theorem dX9_bribed_5 : decode cX9_bribed 5 = .ok (.iconst 0, 1) := by decide +kernel
theorem dX9_bribed_6 : decode cX9_bribed 6 = .ok (.istore_n 1, 1) := by decide +kernel
theorem dX9_bribed_7 : decode cX9_bribed 7 = .ok (.iconst 0, 1) := by decide +kernel
theorem dX9_bribed_8 : decode cX9_bribed 8 = .ok (.istore_n 2, 1) := by decide +kernel
theorem dX9_bribed_9 : decode cX9_bribed 9 = .ok (.iload_n 2, 1) := by decide +kernel
theorem dX9_bribed_10 : decode cX9_bribed 10 = .ok (.aload_n 0, 1) := by decide +kernel
theorem dX9_bribed_11 : decode cX9_bribed 11 = .ok (.getfield 98, 3) := by decide +kernel
theorem dX9_bribed_14 : decode cX9_bribed 14 = .ok (.if_icmp .ge 40, 3) := by decide +kernel
theorem dX9_bribed_17 : decode cX9_bribed 17 = .ok (.iload_n 1, 1) := by decide +kernel
theorem dX9_bribed_18 : decode cX9_bribed 18 = .ok (.aload_n 0, 1) := by decide +kernel
theorem dX9_bribed_19 : decode cX9_bribed 19 = .ok (.iload_n 2, 1) := by decide +kernel
theorem dX9_bribed_20 : decode cX9_bribed 20 = .ok (.aload_n 0, 1) := by decide +kernel
theorem dX9_bribed_21 : decode cX9_bribed 21 = .ok (.getfield 16, 3) := by decide +kernel
theorem dX9_bribed_24 : decode cX9_bribed 24 = .ok (.aload_n 0, 1) := by decide +kernel
theorem dX9_bribed_25 : decode cX9_bribed 25 = .ok (.getfield 31, 3) := by decide +kernel
theorem dX9_bribed_28 : decode cX9_bribed 28 = .ok (.iconst 4, 1) := by decide +kernel
theorem dX9_bribed_29 : decode cX9_bribed 29 = .ok (.iload_n 2, 1) := by decide +kernel
theorem dX9_bribed_30 : decode cX9_bribed 30 = .ok (.imul, 1) := by decide +kernel
theorem dX9_bribed_31 : decode cX9_bribed 31 = .ok (.iaload, 1) := by decide +kernel
theorem dX9_bribed_32 : decode cX9_bribed 32 = .ok (.iaload, 1) := by decide +kernel
theorem dX9_bribed_33 : decode cX9_bribed 33 = .ok (.invokevirtual 169, 3) := by decide +kernel
theorem dX9_bribed_36 : decode cX9_bribed 36 = .ok (.ifCond .eq 7, 3) := by decide +kernel
theorem dX9_bribed_39 : decode cX9_bribed 39 = .ok (.iconst 0, 1) := by decide +kernel
theorem dX9_bribed_40 : decode cX9_bribed 40 = .ok (.goto 6, 3) := by decide +kernel
theorem dX9_bribed_43 : decode cX9_bribed 43 = .ok (.iconst 1, 1) := by decide +kernel
theorem dX9_bribed_44 : decode cX9_bribed 44 = .ok (.iload_n 2, 1) := by decide +kernel
theorem dX9_bribed_45 : decode cX9_bribed 45 = .ok (.ishl, 1) := by decide +kernel
theorem dX9_bribed_46 : decode cX9_bribed 46 = .ok (.ior, 1) := by decide +kernel
theorem dX9_bribed_47 : decode cX9_bribed 47 = .ok (.istore_n 1, 1) := by decide +kernel
theorem dX9_bribed_48 : decode cX9_bribed 48 = .ok (.iinc 2 1, 3) := by decide +kernel
theorem dX9_bribed_51 : decode cX9_bribed 51 = .ok (.goto (-42), 3) := by decide +kernel
theorem dX9_bribed_54 : decode cX9_bribed 54 = .ok (.iload_n 1, 1) := by decide +kernel
theorem dX9_bribed_55 : decode cX9_bribed 55 = .ok (.ireturn, 1) := by decide +kernel
theorem dX9_findsRing_0 : decode cX9_findsRing 0 = .ok (.iconst 1, 1) := by decide +kernel
theorem dX9_findsRing_1 : decode cX9_findsRing 1 = .ok (.istore_n 2, 1) := by decide +kernel
theorem dX9_findsRing_2 : decode cX9_findsRing 2 = .ok (.iconst 0, 1) := by decide +kernel
theorem dX9_findsRing_3 : decode cX9_findsRing 3 = .ok (.istore_n 3, 1) := by decide +kernel
theorem dX9_findsRing_4 : decode cX9_findsRing 4 = .ok (.iload_n 3, 1) := by decide +kernel
theorem dX9_findsRing_5 : decode cX9_findsRing 5 = .ok (.iload_n 1, 1) := by decide +kernel
theorem dX9_findsRing_6 : decode cX9_findsRing 6 = .ok (.if_icmp .ge 16, 3) := by decide +kernel
theorem dX9_findsRing_9 : decode cX9_findsRing 9 = .ok (.iload_n 2, 1) := by decide +kernel
theorem dX9_findsRing_10 : decode cX9_findsRing 10 = .ok (.aload_n 0, 1) := by decide +kernel
theorem dX9_findsRing_11 : decode cX9_findsRing 11 = .ok (.getfield 58, 3) := by decide +kernel
theorem dX9_findsRing_14 : decode cX9_findsRing 14 = .ok (.imul, 1) := by decide +kernel
theorem dX9_findsRing_15 : decode cX9_findsRing 15 = .ok (.istore_n 2, 1) := by decide +kernel
theorem dX9_findsRing_16 : decode cX9_findsRing 16 = .ok (.iinc 3 1, 3) := by decide +kernel
theorem dX9_findsRing_19 : decode cX9_findsRing 19 = .ok (.goto (-15), 3) := by decide +kernel
theorem dX9_findsRing_22 : decode cX9_findsRing 22 = .ok (.iconst 0, 1) := by decide +kernel
theorem dX9_findsRing_23 : decode cX9_findsRing 23 = .ok (.istore_n 3, 1) := by decide +kernel
theorem dX9_findsRing_24 : decode cX9_findsRing 24 = .ok (.iload_n 3, 1) := by decide +kernel
theorem dX9_findsRing_25 : decode cX9_findsRing 25 = .ok (.iload_n 2, 1) := by decide +kernel
theorem dX9_findsRing_26 : decode cX9_findsRing 26 = .ok (.if_icmp .ge 188, 3) := by decide +kernel
theorem dX9_findsRing_29 : decode cX9_findsRing 29 = .ok (.iload_n 3, 1) := by decide +kernel
theorem dX9_findsRing_30 : decode cX9_findsRing 30 = .ok (.istore 4, 2) := by decide +kernel
theorem dX9_findsRing_32 : decode cX9_findsRing 32 = .ok (.iconst 0, 1) := by decide +kernel
theorem dX9_findsRing_33 : decode cX9_findsRing 33 = .ok (.istore 5, 2) := by decide +kernel
theorem dX9_findsRing_35 : decode cX9_findsRing 35 = .ok (.iconst 1, 1) := by decide +kernel
theorem dX9_findsRing_36 : decode cX9_findsRing 36 = .ok (.istore 6, 2) := by decide +kernel
theorem dX9_findsRing_38 : decode cX9_findsRing 38 = .ok (.iload_n 1, 1) := by decide +kernel
theorem dX9_findsRing_39 : decode cX9_findsRing 39 = .ok (.iconst 1, 1) := by decide +kernel
theorem dX9_findsRing_40 : decode cX9_findsRing 40 = .ok (.isub, 1) := by decide +kernel
theorem dX9_findsRing_41 : decode cX9_findsRing 41 = .ok (.istore 7, 2) := by decide +kernel
theorem dX9_findsRing_43 : decode cX9_findsRing 43 = .ok (.iload 7, 2) := by decide +kernel
theorem dX9_findsRing_45 : decode cX9_findsRing 45 = .ok (.ifCond .lt 73, 3) := by decide +kernel
theorem dX9_findsRing_48 : decode cX9_findsRing 48 = .ok (.aload_n 0, 1) := by decide +kernel
theorem dX9_findsRing_49 : decode cX9_findsRing 49 = .ok (.getfield 52, 3) := by decide +kernel
theorem dX9_findsRing_52 : decode cX9_findsRing 52 = .ok (.iload 7, 2) := by decide +kernel
theorem dX9_findsRing_54 : decode cX9_findsRing 54 = .ok (.iload 4, 2) := by decide +kernel
theorem dX9_findsRing_56 : decode cX9_findsRing 56 = .ok (.aload_n 0, 1) := by decide +kernel
theorem dX9_findsRing_57 : decode cX9_findsRing 57 = .ok (.getfield 58, 3) := by decide +kernel
theorem dX9_findsRing_60 : decode cX9_findsRing 60 = .ok (.irem, 1) := by decide +kernel
theorem dX9_findsRing_61 : decode cX9_findsRing 61 = .ok (.iastore, 1) := by decide +kernel
theorem dX9_findsRing_62 : decode cX9_findsRing 62 = .ok (.iload 4, 2) := by decide +kernel
theorem dX9_findsRing_64 : decode cX9_findsRing 64 = .ok (.aload_n 0, 1) := by decide +kernel
theorem dX9_findsRing_65 : decode cX9_findsRing 65 = .ok (.getfield 58, 3) := by decide +kernel
theorem dX9_findsRing_68 : decode cX9_findsRing 68 = .ok (.idiv, 1) := by decide +kernel
theorem dX9_findsRing_69 : decode cX9_findsRing 69 = .ok (.istore 4, 2) := by decide +kernel
theorem dX9_findsRing_71 : decode cX9_findsRing 71 = .ok (.iload 6, 2) := by decide +kernel
theorem dX9_findsRing_73 : decode cX9_findsRing 73 = .ok (.ifCond .eq 22, 3) := by decide +kernel
theorem dX9_findsRing_76 : decode cX9_findsRing 76 = .ok (.iload 5, 2) := by decide +kernel
theorem dX9_findsRing_78 : decode cX9_findsRing 78 = .ok (.aload_n 0, 1) := by decide +kernel
theorem dX9_findsRing_79 : decode cX9_findsRing 79 = .ok (.getfield 52, 3) := by decide +kernel
theorem dX9_findsRing_82 : decode cX9_findsRing 82 = .ok (.iload 7, 2) := by decide +kernel
theorem dX9_findsRing_84 : decode cX9_findsRing 84 = .ok (.iaload, 1) := by decide +kernel
theorem dX9_findsRing_85 : decode cX9_findsRing 85 = .ok (.ishr, 1) := by decide +kernel
theorem dX9_findsRing_86 : decode cX9_findsRing 86 = .ok (.iconst 1, 1) := by decide +kernel
theorem dX9_findsRing_87 : decode cX9_findsRing 87 = .ok (.iand, 1) := by decide +kernel
theorem dX9_findsRing_88 : decode cX9_findsRing 88 = .ok (.ifCond .ne 7, 3) := by decide +kernel
theorem dX9_findsRing_91 : decode cX9_findsRing 91 = .ok (.iconst 1, 1) := by decide +kernel
theorem dX9_findsRing_92 : decode cX9_findsRing 92 = .ok (.goto 4, 3) := by decide +kernel
theorem dX9_findsRing_95 : decode cX9_findsRing 95 = .ok (.iconst 0, 1) := by decide +kernel
theorem dX9_findsRing_96 : decode cX9_findsRing 96 = .ok (.istore 6, 2) := by decide +kernel
theorem dX9_findsRing_98 : decode cX9_findsRing 98 = .ok (.iload 5, 2) := by decide +kernel
theorem dX9_findsRing_100 : decode cX9_findsRing 100 = .ok (.iconst 1, 1) := by decide +kernel
theorem dX9_findsRing_101 : decode cX9_findsRing 101 = .ok (.aload_n 0, 1) := by decide +kernel
theorem dX9_findsRing_102 : decode cX9_findsRing 102 = .ok (.getfield 52, 3) := by decide +kernel
theorem dX9_findsRing_105 : decode cX9_findsRing 105 = .ok (.iload 7, 2) := by decide +kernel
theorem dX9_findsRing_107 : decode cX9_findsRing 107 = .ok (.iaload, 1) := by decide +kernel
theorem dX9_findsRing_108 : decode cX9_findsRing 108 = .ok (.ishl, 1) := by decide +kernel
theorem dX9_findsRing_109 : decode cX9_findsRing 109 = .ok (.ior, 1) := by decide +kernel
theorem dX9_findsRing_110 : decode cX9_findsRing 110 = .ok (.istore 5, 2) := by decide +kernel
theorem dX9_findsRing_112 : decode cX9_findsRing 112 = .ok (.iinc 7 (-1), 3) := by decide +kernel
theorem dX9_findsRing_115 : decode cX9_findsRing 115 = .ok (.goto (-72), 3) := by decide +kernel
theorem dX9_findsRing_118 : decode cX9_findsRing 118 = .ok (.iconst 0, 1) := by decide +kernel
theorem dX9_findsRing_119 : decode cX9_findsRing 119 = .ok (.istore 7, 2) := by decide +kernel
theorem dX9_findsRing_121 : decode cX9_findsRing 121 = .ok (.iload 7, 2) := by decide +kernel
theorem dX9_findsRing_123 : decode cX9_findsRing 123 = .ok (.iload_n 1, 1) := by decide +kernel
theorem dX9_findsRing_124 : decode cX9_findsRing 124 = .ok (.if_icmp .ge 77, 3) := by decide +kernel
theorem dX9_findsRing_127 : decode cX9_findsRing 127 = .ok (.iload 6, 2) := by decide +kernel
theorem dX9_findsRing_129 : decode cX9_findsRing 129 = .ok (.ifCond .eq 72, 3) := by decide +kernel
theorem dX9_findsRing_132 : decode cX9_findsRing 132 = .ok (.aload_n 0, 1) := by decide +kernel
theorem dX9_findsRing_133 : decode cX9_findsRing 133 = .ok (.getfield 49, 3) := by decide +kernel
theorem dX9_findsRing_136 : decode cX9_findsRing 136 = .ok (.bipush 6, 2) := by decide +kernel
theorem dX9_findsRing_138 : decode cX9_findsRing 138 = .ok (.aload_n 0, 1) := by decide +kernel
theorem dX9_findsRing_139 : decode cX9_findsRing 139 = .ok (.getfield 52, 3) := by decide +kernel
theorem dX9_findsRing_142 : decode cX9_findsRing 142 = .ok (.iload 7, 2) := by decide +kernel
theorem dX9_findsRing_144 : decode cX9_findsRing 144 = .ok (.iaload, 1) := by decide +kernel
theorem dX9_findsRing_145 : decode cX9_findsRing 145 = .ok (.imul, 1) := by decide +kernel
theorem dX9_findsRing_146 : decode cX9_findsRing 146 = .ok (.aload_n 0, 1) := by decide +kernel
theorem dX9_findsRing_147 : decode cX9_findsRing 147 = .ok (.getfield 52, 3) := by decide +kernel
theorem dX9_findsRing_150 : decode cX9_findsRing 150 = .ok (.iload 7, 2) := by decide +kernel
theorem dX9_findsRing_152 : decode cX9_findsRing 152 = .ok (.iconst 1, 1) := by decide +kernel
theorem dX9_findsRing_153 : decode cX9_findsRing 153 = .ok (.iadd, 1) := by decide +kernel
theorem dX9_findsRing_154 : decode cX9_findsRing 154 = .ok (.iload_n 1, 1) := by decide +kernel
theorem dX9_findsRing_155 : decode cX9_findsRing 155 = .ok (.if_icmp .ne 7, 3) := by decide +kernel
theorem dX9_findsRing_158 : decode cX9_findsRing 158 = .ok (.iconst 0, 1) := by decide +kernel
theorem dX9_findsRing_159 : decode cX9_findsRing 159 = .ok (.goto 7, 3) := by decide +kernel
theorem dX9_findsRing_162 : decode cX9_findsRing 162 = .ok (.iload 7, 2) := by decide +kernel
theorem dX9_findsRing_164 : decode cX9_findsRing 164 = .ok (.iconst 1, 1) := by decide +kernel
theorem dX9_findsRing_165 : decode cX9_findsRing 165 = .ok (.iadd, 1) := by decide +kernel
theorem dX9_findsRing_166 : decode cX9_findsRing 166 = .ok (.iaload, 1) := by decide +kernel
theorem dX9_findsRing_167 : decode cX9_findsRing 167 = .ok (.iadd, 1) := by decide +kernel
theorem dX9_findsRing_168 : decode cX9_findsRing 168 = .ok (.iaload, 1) := by decide +kernel
theorem dX9_findsRing_169 : decode cX9_findsRing 169 = .ok (.ifCond .le 23, 3) := by decide +kernel
theorem dX9_findsRing_172 : decode cX9_findsRing 172 = .ok (.aload_n 0, 1) := by decide +kernel
theorem dX9_findsRing_173 : decode cX9_findsRing 173 = .ok (.getfield 52, 3) := by decide +kernel
theorem dX9_findsRing_176 : decode cX9_findsRing 176 = .ok (.iload 7, 2) := by decide +kernel
theorem dX9_findsRing_178 : decode cX9_findsRing 178 = .ok (.iaload, 1) := by decide +kernel
theorem dX9_findsRing_179 : decode cX9_findsRing 179 = .ok (.aload_n 0, 1) := by decide +kernel
theorem dX9_findsRing_180 : decode cX9_findsRing 180 = .ok (.getfield 52, 3) := by decide +kernel
theorem dX9_findsRing_183 : decode cX9_findsRing 183 = .ok (.iconst 0, 1) := by decide +kernel
theorem dX9_findsRing_184 : decode cX9_findsRing 184 = .ok (.iaload, 1) := by decide +kernel
theorem dX9_findsRing_185 : decode cX9_findsRing 185 = .ok (.if_icmp .lt 7, 3) := by decide +kernel
theorem dX9_findsRing_188 : decode cX9_findsRing 188 = .ok (.iconst 1, 1) := by decide +kernel
theorem dX9_findsRing_189 : decode cX9_findsRing 189 = .ok (.goto 4, 3) := by decide +kernel
theorem dX9_findsRing_192 : decode cX9_findsRing 192 = .ok (.iconst 0, 1) := by decide +kernel
theorem dX9_findsRing_193 : decode cX9_findsRing 193 = .ok (.istore 6, 2) := by decide +kernel
theorem dX9_findsRing_195 : decode cX9_findsRing 195 = .ok (.iinc 7 1, 3) := by decide +kernel
theorem dX9_findsRing_198 : decode cX9_findsRing 198 = .ok (.goto (-77), 3) := by decide +kernel
theorem dX9_findsRing_201 : decode cX9_findsRing 201 = .ok (.iload 6, 2) := by decide +kernel
theorem dX9_findsRing_203 : decode cX9_findsRing 203 = .ok (.ifCond .eq 5, 3) := by decide +kernel
theorem dX9_findsRing_206 : decode cX9_findsRing 206 = .ok (.iconst 1, 1) := by decide +kernel
theorem dX9_findsRing_207 : decode cX9_findsRing 207 = .ok (.ireturn, 1) := by decide +kernel
theorem dX9_findsRing_208 : decode cX9_findsRing 208 = .ok (.iinc 3 1, 3) := by decide +kernel
theorem dX9_findsRing_211 : decode cX9_findsRing 211 = .ok (.goto (-187), 3) := by decide +kernel
theorem dX9_findsRing_214 : decode cX9_findsRing 214 = .ok (.iconst 0, 1) := by decide +kernel
theorem dX9_findsRing_215 : decode cX9_findsRing 215 = .ok (.ireturn, 1) := by decide +kernel
theorem dX9_clears_0 : decode cX9_clears 0 = .ok (.iconst 0, 1) := by decide +kernel
theorem dX9_clears_1 : decode cX9_clears 1 = .ok (.istore_n 1, 1) := by decide +kernel
theorem dX9_clears_2 : decode cX9_clears 2 = .ok (.iload_n 1, 1) := by decide +kernel
theorem dX9_clears_3 : decode cX9_clears 3 = .ok (.bipush 36, 2) := by decide +kernel
theorem dX9_clears_5 : decode cX9_clears 5 = .ok (.if_icmp .ge 16, 3) := by decide +kernel
theorem dX9_clears_8 : decode cX9_clears 8 = .ok (.aload_n 0, 1) := by decide +kernel
theorem dX9_clears_9 : decode cX9_clears 9 = .ok (.getfield 49, 3) := by decide +kernel
theorem dX9_clears_12 : decode cX9_clears 12 = .ok (.iload_n 1, 1) := by decide +kernel
theorem dX9_clears_13 : decode cX9_clears 13 = .ok (.iconst 0, 1) := by decide +kernel
theorem dX9_clears_14 : decode cX9_clears 14 = .ok (.iastore, 1) := by decide +kernel
theorem dX9_clears_15 : decode cX9_clears 15 = .ok (.iinc 1 1, 3) := by decide +kernel
theorem dX9_clears_18 : decode cX9_clears 18 = .ok (.goto (-16), 3) := by decide +kernel
theorem dX9_clears_21 : decode cX9_clears 21 = .ok (.iconst 0, 1) := by decide +kernel
theorem dX9_clears_22 : decode cX9_clears 22 = .ok (.istore_n 1, 1) := by decide +kernel
theorem dX9_clears_23 : decode cX9_clears 23 = .ok (.iload_n 1, 1) := by decide +kernel
theorem dX9_clears_24 : decode cX9_clears 24 = .ok (.aload_n 0, 1) := by decide +kernel
theorem dX9_clears_25 : decode cX9_clears 25 = .ok (.getfield 19, 3) := by decide +kernel
theorem dX9_clears_28 : decode cX9_clears 28 = .ok (.bipush 12, 2) := by decide +kernel
theorem dX9_clears_30 : decode cX9_clears 30 = .ok (.iaload, 1) := by decide +kernel
theorem dX9_clears_31 : decode cX9_clears 31 = .ok (.if_icmp .ge 58, 3) := by decide +kernel
theorem dX9_clears_34 : decode cX9_clears 34 = .ok (.aload_n 0, 1) := by decide +kernel
theorem dX9_clears_35 : decode cX9_clears 35 = .ok (.getfield 49, 3) := by decide +kernel
theorem dX9_clears_38 : decode cX9_clears 38 = .ok (.bipush 6, 2) := by decide +kernel
theorem dX9_clears_40 : decode cX9_clears 40 = .ok (.aload_n 0, 1) := by decide +kernel
theorem dX9_clears_41 : decode cX9_clears 41 = .ok (.getfield 19, 3) := by decide +kernel
theorem dX9_clears_44 : decode cX9_clears 44 = .ok (.bipush 13, 2) := by decide +kernel
theorem dX9_clears_46 : decode cX9_clears 46 = .ok (.iconst 4, 1) := by decide +kernel
theorem dX9_clears_47 : decode cX9_clears 47 = .ok (.iload_n 1, 1) := by decide +kernel
theorem dX9_clears_48 : decode cX9_clears 48 = .ok (.imul, 1) := by decide +kernel
theorem dX9_clears_49 : decode cX9_clears 49 = .ok (.iadd, 1) := by decide +kernel
theorem dX9_clears_50 : decode cX9_clears 50 = .ok (.iconst 1, 1) := by decide +kernel
theorem dX9_clears_51 : decode cX9_clears 51 = .ok (.iadd, 1) := by decide +kernel
theorem dX9_clears_52 : decode cX9_clears 52 = .ok (.iaload, 1) := by decide +kernel
theorem dX9_clears_53 : decode cX9_clears 53 = .ok (.imul, 1) := by decide +kernel
theorem dX9_clears_54 : decode cX9_clears 54 = .ok (.aload_n 0, 1) := by decide +kernel
theorem dX9_clears_55 : decode cX9_clears 55 = .ok (.getfield 19, 3) := by decide +kernel
theorem dX9_clears_58 : decode cX9_clears 58 = .ok (.bipush 13, 2) := by decide +kernel
theorem dX9_clears_60 : decode cX9_clears 60 = .ok (.iconst 4, 1) := by decide +kernel
theorem dX9_clears_61 : decode cX9_clears 61 = .ok (.iload_n 1, 1) := by decide +kernel
theorem dX9_clears_62 : decode cX9_clears 62 = .ok (.imul, 1) := by decide +kernel
theorem dX9_clears_63 : decode cX9_clears 63 = .ok (.iadd, 1) := by decide +kernel
theorem dX9_clears_64 : decode cX9_clears 64 = .ok (.iaload, 1) := by decide +kernel
theorem dX9_clears_65 : decode cX9_clears 65 = .ok (.iadd, 1) := by decide +kernel
theorem dX9_clears_66 : decode cX9_clears 66 = .ok (.dup2, 1) := by decide +kernel
theorem dX9_clears_67 : decode cX9_clears 67 = .ok (.iaload, 1) := by decide +kernel
theorem dX9_clears_68 : decode cX9_clears 68 = .ok (.aload_n 0, 1) := by decide +kernel
theorem dX9_clears_69 : decode cX9_clears 69 = .ok (.getfield 19, 3) := by decide +kernel
theorem dX9_clears_72 : decode cX9_clears 72 = .ok (.bipush 13, 2) := by decide +kernel
theorem dX9_clears_74 : decode cX9_clears 74 = .ok (.iconst 4, 1) := by decide +kernel
theorem dX9_clears_75 : decode cX9_clears 75 = .ok (.iload_n 1, 1) := by decide +kernel
theorem dX9_clears_76 : decode cX9_clears 76 = .ok (.imul, 1) := by decide +kernel
theorem dX9_clears_77 : decode cX9_clears 77 = .ok (.iadd, 1) := by decide +kernel
theorem dX9_clears_78 : decode cX9_clears 78 = .ok (.iconst 2, 1) := by decide +kernel
theorem dX9_clears_79 : decode cX9_clears 79 = .ok (.iadd, 1) := by decide +kernel
theorem dX9_clears_80 : decode cX9_clears 80 = .ok (.iaload, 1) := by decide +kernel
theorem dX9_clears_81 : decode cX9_clears 81 = .ok (.iadd, 1) := by decide +kernel
theorem dX9_clears_82 : decode cX9_clears 82 = .ok (.iastore, 1) := by decide +kernel
theorem dX9_clears_83 : decode cX9_clears 83 = .ok (.iinc 1 1, 3) := by decide +kernel
theorem dX9_clears_86 : decode cX9_clears 86 = .ok (.goto (-63), 3) := by decide +kernel
theorem dX9_clears_89 : decode cX9_clears 89 = .ok (.iconst 0, 1) := by decide +kernel
theorem dX9_clears_90 : decode cX9_clears 90 = .ok (.istore_n 1, 1) := by decide +kernel
theorem dX9_clears_91 : decode cX9_clears 91 = .ok (.iconst 2, 1) := by decide +kernel
theorem dX9_clears_92 : decode cX9_clears 92 = .ok (.istore_n 2, 1) := by decide +kernel
theorem dX9_clears_93 : decode cX9_clears 93 = .ok (.iload_n 2, 1) := by decide +kernel
theorem dX9_clears_94 : decode cX9_clears 94 = .ok (.aload_n 0, 1) := by decide +kernel
theorem dX9_clears_95 : decode cX9_clears 95 = .ok (.getfield 58, 3) := by decide +kernel
theorem dX9_clears_98 : decode cX9_clears 98 = .ok (.if_icmp .gt 156, 3) := by decide +kernel
theorem dX9_clears_101 : decode cX9_clears 101 = .ok (.aload_n 0, 1) := by decide +kernel
theorem dX9_clears_102 : decode cX9_clears 102 = .ok (.iload_n 2, 1) := by decide +kernel
theorem dX9_clears_103 : decode cX9_clears 103 = .ok (.invokevirtual 175, 3) := by decide +kernel
theorem dX9_clears_106 : decode cX9_clears 106 = .ok (.ifCond .eq 142, 3) := by decide +kernel
theorem dX9_clears_109 : decode cX9_clears 109 = .ok (.iconst 0, 1) := by decide +kernel
theorem dX9_clears_110 : decode cX9_clears 110 = .ok (.istore_n 3, 1) := by decide +kernel
theorem dX9_clears_111 : decode cX9_clears 111 = .ok (.iconst 0, 1) := by decide +kernel
theorem dX9_clears_112 : decode cX9_clears 112 = .ok (.istore 4, 2) := by decide +kernel
theorem dX9_clears_114 : decode cX9_clears 114 = .ok (.iload 4, 2) := by decide +kernel
theorem dX9_clears_116 : decode cX9_clears 116 = .ok (.iload_n 2, 1) := by decide +kernel
theorem dX9_clears_117 : decode cX9_clears 117 = .ok (.if_icmp .ge 66, 3) := by decide +kernel
theorem dX9_clears_120 : decode cX9_clears 120 = .ok (.aload_n 0, 1) := by decide +kernel
theorem dX9_clears_121 : decode cX9_clears 121 = .ok (.getfield 49, 3) := by decide +kernel
theorem dX9_clears_124 : decode cX9_clears 124 = .ok (.bipush 6, 2) := by decide +kernel
theorem dX9_clears_126 : decode cX9_clears 126 = .ok (.aload_n 0, 1) := by decide +kernel
theorem dX9_clears_127 : decode cX9_clears 127 = .ok (.getfield 52, 3) := by decide +kernel
theorem dX9_clears_130 : decode cX9_clears 130 = .ok (.iload 4, 2) := by decide +kernel
theorem dX9_clears_132 : decode cX9_clears 132 = .ok (.iaload, 1) := by decide +kernel
theorem dX9_clears_133 : decode cX9_clears 133 = .ok (.imul, 1) := by decide +kernel
theorem dX9_clears_134 : decode cX9_clears 134 = .ok (.aload_n 0, 1) := by decide +kernel
theorem dX9_clears_135 : decode cX9_clears 135 = .ok (.getfield 52, 3) := by decide +kernel
theorem dX9_clears_138 : decode cX9_clears 138 = .ok (.iload 4, 2) := by decide +kernel
theorem dX9_clears_140 : decode cX9_clears 140 = .ok (.iconst 1, 1) := by decide +kernel
theorem dX9_clears_141 : decode cX9_clears 141 = .ok (.iadd, 1) := by decide +kernel
theorem dX9_clears_142 : decode cX9_clears 142 = .ok (.iload_n 2, 1) := by decide +kernel
theorem dX9_clears_143 : decode cX9_clears 143 = .ok (.if_icmp .ne 7, 3) := by decide +kernel
theorem dX9_clears_146 : decode cX9_clears 146 = .ok (.iconst 0, 1) := by decide +kernel
theorem dX9_clears_147 : decode cX9_clears 147 = .ok (.goto 7, 3) := by decide +kernel
theorem dX9_clears_150 : decode cX9_clears 150 = .ok (.iload 4, 2) := by decide +kernel
theorem dX9_clears_152 : decode cX9_clears 152 = .ok (.iconst 1, 1) := by decide +kernel
theorem dX9_clears_153 : decode cX9_clears 153 = .ok (.iadd, 1) := by decide +kernel
theorem dX9_clears_154 : decode cX9_clears 154 = .ok (.iaload, 1) := by decide +kernel
theorem dX9_clears_155 : decode cX9_clears 155 = .ok (.iadd, 1) := by decide +kernel
theorem dX9_clears_156 : decode cX9_clears 156 = .ok (.iaload, 1) := by decide +kernel
theorem dX9_clears_157 : decode cX9_clears 157 = .ok (.istore 5, 2) := by decide +kernel
theorem dX9_clears_159 : decode cX9_clears 159 = .ok (.iload 4, 2) := by decide +kernel
theorem dX9_clears_161 : decode cX9_clears 161 = .ok (.ifCond .eq 9, 3) := by decide +kernel
theorem dX9_clears_164 : decode cX9_clears 164 = .ok (.iload 5, 2) := by decide +kernel
theorem dX9_clears_166 : decode cX9_clears 166 = .ok (.iload_n 3, 1) := by decide +kernel
theorem dX9_clears_167 : decode cX9_clears 167 = .ok (.if_icmp .ge 8, 3) := by decide +kernel
theorem dX9_clears_170 : decode cX9_clears 170 = .ok (.iload 5, 2) := by decide +kernel
theorem dX9_clears_172 : decode cX9_clears 172 = .ok (.goto 4, 3) := by decide +kernel
theorem dX9_clears_175 : decode cX9_clears 175 = .ok (.iload_n 3, 1) := by decide +kernel
theorem dX9_clears_176 : decode cX9_clears 176 = .ok (.istore_n 3, 1) := by decide +kernel
theorem dX9_clears_177 : decode cX9_clears 177 = .ok (.iinc 4 1, 3) := by decide +kernel
theorem dX9_clears_180 : decode cX9_clears 180 = .ok (.goto (-66), 3) := by decide +kernel
theorem dX9_clears_183 : decode cX9_clears 183 = .ok (.iconst 0, 1) := by decide +kernel
theorem dX9_clears_184 : decode cX9_clears 184 = .ok (.istore 4, 2) := by decide +kernel
theorem dX9_clears_186 : decode cX9_clears 186 = .ok (.iload 4, 2) := by decide +kernel
theorem dX9_clears_188 : decode cX9_clears 188 = .ok (.iload_n 2, 1) := by decide +kernel
theorem dX9_clears_189 : decode cX9_clears 189 = .ok (.if_icmp .ge 50, 3) := by decide +kernel
theorem dX9_clears_192 : decode cX9_clears 192 = .ok (.aload_n 0, 1) := by decide +kernel
theorem dX9_clears_193 : decode cX9_clears 193 = .ok (.getfield 49, 3) := by decide +kernel
theorem dX9_clears_196 : decode cX9_clears 196 = .ok (.bipush 6, 2) := by decide +kernel
theorem dX9_clears_198 : decode cX9_clears 198 = .ok (.aload_n 0, 1) := by decide +kernel
theorem dX9_clears_199 : decode cX9_clears 199 = .ok (.getfield 52, 3) := by decide +kernel
theorem dX9_clears_202 : decode cX9_clears 202 = .ok (.iload 4, 2) := by decide +kernel
theorem dX9_clears_204 : decode cX9_clears 204 = .ok (.iaload, 1) := by decide +kernel
theorem dX9_clears_205 : decode cX9_clears 205 = .ok (.imul, 1) := by decide +kernel
theorem dX9_clears_206 : decode cX9_clears 206 = .ok (.aload_n 0, 1) := by decide +kernel
theorem dX9_clears_207 : decode cX9_clears 207 = .ok (.getfield 52, 3) := by decide +kernel
theorem dX9_clears_210 : decode cX9_clears 210 = .ok (.iload 4, 2) := by decide +kernel
theorem dX9_clears_212 : decode cX9_clears 212 = .ok (.iconst 1, 1) := by decide +kernel
theorem dX9_clears_213 : decode cX9_clears 213 = .ok (.iadd, 1) := by decide +kernel
theorem dX9_clears_214 : decode cX9_clears 214 = .ok (.iload_n 2, 1) := by decide +kernel
theorem dX9_clears_215 : decode cX9_clears 215 = .ok (.if_icmp .ne 7, 3) := by decide +kernel
theorem dX9_clears_218 : decode cX9_clears 218 = .ok (.iconst 0, 1) := by decide +kernel
theorem dX9_clears_219 : decode cX9_clears 219 = .ok (.goto 7, 3) := by decide +kernel
theorem dX9_clears_222 : decode cX9_clears 222 = .ok (.iload 4, 2) := by decide +kernel
theorem dX9_clears_224 : decode cX9_clears 224 = .ok (.iconst 1, 1) := by decide +kernel
theorem dX9_clears_225 : decode cX9_clears 225 = .ok (.iadd, 1) := by decide +kernel
theorem dX9_clears_226 : decode cX9_clears 226 = .ok (.iaload, 1) := by decide +kernel
theorem dX9_clears_227 : decode cX9_clears 227 = .ok (.iadd, 1) := by decide +kernel
theorem dX9_clears_228 : decode cX9_clears 228 = .ok (.dup2, 1) := by decide +kernel
theorem dX9_clears_229 : decode cX9_clears 229 = .ok (.iaload, 1) := by decide +kernel
theorem dX9_clears_230 : decode cX9_clears 230 = .ok (.iload_n 3, 1) := by decide +kernel
theorem dX9_clears_231 : decode cX9_clears 231 = .ok (.isub, 1) := by decide +kernel
theorem dX9_clears_232 : decode cX9_clears 232 = .ok (.iastore, 1) := by decide +kernel
theorem dX9_clears_233 : decode cX9_clears 233 = .ok (.iinc 4 1, 3) := by decide +kernel
theorem dX9_clears_236 : decode cX9_clears 236 = .ok (.goto (-50), 3) := by decide +kernel
theorem dX9_clears_239 : decode cX9_clears 239 = .ok (.iload_n 1, 1) := by decide +kernel
theorem dX9_clears_240 : decode cX9_clears 240 = .ok (.iload_n 3, 1) := by decide +kernel
theorem dX9_clears_241 : decode cX9_clears 241 = .ok (.iload_n 2, 1) := by decide +kernel
theorem dX9_clears_242 : decode cX9_clears 242 = .ok (.imul, 1) := by decide +kernel
theorem dX9_clears_243 : decode cX9_clears 243 = .ok (.iadd, 1) := by decide +kernel
theorem dX9_clears_244 : decode cX9_clears 244 = .ok (.istore_n 1, 1) := by decide +kernel
theorem dX9_clears_245 : decode cX9_clears 245 = .ok (.goto (-152), 3) := by decide +kernel
theorem dX9_clears_248 : decode cX9_clears 248 = .ok (.iinc 2 1, 3) := by decide +kernel
theorem dX9_clears_251 : decode cX9_clears 251 = .ok (.goto (-158), 3) := by decide +kernel
theorem dX9_clears_254 : decode cX9_clears 254 = .ok (.iload_n 1, 1) := by decide +kernel
theorem dX9_clears_255 : decode cX9_clears 255 = .ok (.ireturn, 1) := by decide +kernel
theorem dX9_cleared_0 : decode cX9_cleared 0 = .ok (.aload_n 0, 1) := by decide +kernel
theorem dX9_cleared_1 : decode cX9_cleared 1 = .ok (.iconst 0, 1) := by decide +kernel
theorem dX9_cleared_2 : decode cX9_cleared 2 = .ok (.putfield 68, 3) := by decide +kernel
theorem dX9_cleared_5 : decode cX9_cleared 5 = .ok (.iload_n 1, 1) := by decide +kernel
theorem dX9_cleared_6 : decode cX9_cleared 6 = .ok (.iconst (-1), 1) := by decide +kernel
theorem dX9_cleared_7 : decode cX9_cleared 7 = .ok (.if_icmp .ne 12, 3) := by decide +kernel
theorem dX9_cleared_10 : decode cX9_cleared 10 = .ok (.iload_n 2, 1) := by decide +kernel
theorem dX9_cleared_11 : decode cX9_cleared 11 = .ok (.iconst (-1), 1) := by decide +kernel
theorem dX9_cleared_12 : decode cX9_cleared 12 = .ok (.if_icmp .ne 7, 3) := by decide +kernel
theorem dX9_cleared_15 : decode cX9_cleared 15 = .ok (.iconst 1, 1) := by decide +kernel
theorem dX9_cleared_16 : decode cX9_cleared 16 = .ok (.goto 4, 3) := by decide +kernel
theorem dX9_cleared_19 : decode cX9_cleared 19 = .ok (.iconst 0, 1) := by decide +kernel
theorem dX9_cleared_20 : decode cX9_cleared 20 = .ok (.istore_n 3, 1) := by decide +kernel
theorem dX9_cleared_21 : decode cX9_cleared 21 = .ok (.iload_n 3, 1) := by decide +kernel
theorem dX9_cleared_22 : decode cX9_cleared 22 = .ok (.ifCond .ne 21, 3) := by decide +kernel
theorem dX9_cleared_25 : decode cX9_cleared 25 = .ok (.aload_n 0, 1) := by decide +kernel
theorem dX9_cleared_26 : decode cX9_cleared 26 = .ok (.iload_n 1, 1) := by decide +kernel
theorem dX9_cleared_27 : decode cX9_cleared 27 = .ok (.invokevirtual 107, 3) := by decide +kernel
theorem dX9_cleared_30 : decode cX9_cleared 30 = .ok (.ifCond .eq 11, 3) := by decide +kernel
theorem dX9_cleared_33 : decode cX9_cleared 33 = .ok (.aload_n 0, 1) := by decide +kernel
theorem dX9_cleared_34 : decode cX9_cleared 34 = .ok (.iload_n 2, 1) := by decide +kernel
theorem dX9_cleared_35 : decode cX9_cleared 35 = .ok (.invokevirtual 107, 3) := by decide +kernel
theorem dX9_cleared_38 : decode cX9_cleared 38 = .ok (.ifCond .ne 5, 3) := by decide +kernel
theorem dX9_cleared_41 : decode cX9_cleared 41 = .ok (.iconst (-1), 1) := by decide +kernel
theorem dX9_cleared_42 : decode cX9_cleared 42 = .ok (.ireturn, 1) := by decide +kernel
theorem dX9_cleared_43 : decode cX9_cleared 43 = .ok (.aload_n 0, 1) := by decide +kernel
theorem dX9_cleared_44 : decode cX9_cleared 44 = .ok (.invokevirtual 178, 3) := by decide +kernel
theorem dX9_cleared_47 : decode cX9_cleared 47 = .ok (.istore 4, 2) := by decide +kernel
theorem dX9_cleared_49 : decode cX9_cleared 49 = .ok (.iload_n 3, 1) := by decide +kernel
theorem dX9_cleared_50 : decode cX9_cleared 50 = .ok (.ifCond .eq 8, 3) := by decide +kernel
theorem dX9_cleared_53 : decode cX9_cleared 53 = .ok (.iload 4, 2) := by decide +kernel
theorem dX9_cleared_55 : decode cX9_cleared 55 = .ok (.goto 23, 3) := by decide +kernel
theorem dX9_cleared_58 : decode cX9_cleared 58 = .ok (.iload_n 1, 1) := by decide +kernel
theorem dX9_cleared_59 : decode cX9_cleared 59 = .ok (.iload_n 2, 1) := by decide +kernel
theorem dX9_cleared_60 : decode cX9_cleared 60 = .ok (.if_icmp .ne 7, 3) := by decide +kernel
theorem dX9_cleared_63 : decode cX9_cleared 63 = .ok (.iconst 0, 1) := by decide +kernel
theorem dX9_cleared_64 : decode cX9_cleared 64 = .ok (.goto 14, 3) := by decide +kernel
theorem dX9_cleared_67 : decode cX9_cleared 67 = .ok (.aload_n 0, 1) := by decide +kernel
theorem dX9_cleared_68 : decode cX9_cleared 68 = .ok (.getfield 49, 3) := by decide +kernel
theorem dX9_cleared_71 : decode cX9_cleared 71 = .ok (.bipush 6, 2) := by decide +kernel
theorem dX9_cleared_73 : decode cX9_cleared 73 = .ok (.iload_n 1, 1) := by decide +kernel
theorem dX9_cleared_74 : decode cX9_cleared 74 = .ok (.imul, 1) := by decide +kernel
theorem dX9_cleared_75 : decode cX9_cleared 75 = .ok (.iload_n 2, 1) := by decide +kernel
theorem dX9_cleared_76 : decode cX9_cleared 76 = .ok (.iadd, 1) := by decide +kernel
theorem dX9_cleared_77 : decode cX9_cleared 77 = .ok (.iaload, 1) := by decide +kernel
theorem dX9_cleared_78 : decode cX9_cleared 78 = .ok (.ireturn, 1) := by decide +kernel
theorem dX9_shares_0 : decode cX9_shares 0 = .ok (.iconst 0, 1) := by decide +kernel
theorem dX9_shares_1 : decode cX9_shares 1 = .ok (.istore_n 2, 1) := by decide +kernel
theorem dX9_shares_2 : decode cX9_shares 2 = .ok (.iconst 0, 1) := by decide +kernel
theorem dX9_shares_3 : decode cX9_shares 3 = .ok (.istore_n 3, 1) := by decide +kernel
theorem dX9_shares_4 : decode cX9_shares 4 = .ok (.iload_n 3, 1) := by decide +kernel
theorem dX9_shares_5 : decode cX9_shares 5 = .ok (.aload_n 0, 1) := by decide +kernel
theorem dX9_shares_6 : decode cX9_shares 6 = .ok (.getfield 58, 3) := by decide +kernel
theorem dX9_shares_9 : decode cX9_shares 9 = .ok (.if_icmp .ge 18, 3) := by decide +kernel
theorem dX9_shares_12 : decode cX9_shares 12 = .ok (.iload_n 2, 1) := by decide +kernel
theorem dX9_shares_13 : decode cX9_shares 13 = .ok (.aload_n 0, 1) := by decide +kernel
theorem dX9_shares_14 : decode cX9_shares 14 = .ok (.getfield 19, 3) := by decide +kernel
theorem dX9_shares_17 : decode cX9_shares 17 = .ok (.iload_n 3, 1) := by decide +kernel
theorem dX9_shares_18 : decode cX9_shares 18 = .ok (.iaload, 1) := by decide +kernel
theorem dX9_shares_19 : decode cX9_shares 19 = .ok (.iadd, 1) := by decide +kernel
theorem dX9_shares_20 : decode cX9_shares 20 = .ok (.istore_n 2, 1) := by decide +kernel
theorem dX9_shares_21 : decode cX9_shares 21 = .ok (.iinc 3 1, 3) := by decide +kernel
theorem dX9_shares_24 : decode cX9_shares 24 = .ok (.goto (-20), 3) := by decide +kernel
theorem dX9_shares_27 : decode cX9_shares 27 = .ok (.iload_n 1, 1) := by decide +kernel
theorem dX9_shares_28 : decode cX9_shares 28 = .ok (.istore_n 3, 1) := by decide +kernel
theorem dX9_shares_29 : decode cX9_shares 29 = .ok (.iconst 0, 1) := by decide +kernel
theorem dX9_shares_30 : decode cX9_shares 30 = .ok (.istore 4, 2) := by decide +kernel
theorem dX9_shares_32 : decode cX9_shares 32 = .ok (.iload 4, 2) := by decide +kernel
theorem dX9_shares_34 : decode cX9_shares 34 = .ok (.aload_n 0, 1) := by decide +kernel
theorem dX9_shares_35 : decode cX9_shares 35 = .ok (.getfield 58, 3) := by decide +kernel
theorem dX9_shares_38 : decode cX9_shares 38 = .ok (.if_icmp .ge 69, 3) := by decide +kernel
theorem dX9_shares_41 : decode cX9_shares 41 = .ok (.aload_n 0, 1) := by decide +kernel
theorem dX9_shares_42 : decode cX9_shares 42 = .ok (.getfield 43, 3) := by decide +kernel
theorem dX9_shares_45 : decode cX9_shares 45 = .ok (.iload 4, 2) := by decide +kernel
theorem dX9_shares_47 : decode cX9_shares 47 = .ok (.iload_n 1, 1) := by decide +kernel
theorem dX9_shares_48 : decode cX9_shares 48 = .ok (.aload_n 0, 1) := by decide +kernel
theorem dX9_shares_49 : decode cX9_shares 49 = .ok (.getfield 19, 3) := by decide +kernel
theorem dX9_shares_52 : decode cX9_shares 52 = .ok (.iload 4, 2) := by decide +kernel
theorem dX9_shares_54 : decode cX9_shares 54 = .ok (.iaload, 1) := by decide +kernel
theorem dX9_shares_55 : decode cX9_shares 55 = .ok (.imul, 1) := by decide +kernel
theorem dX9_shares_56 : decode cX9_shares 56 = .ok (.iload_n 2, 1) := by decide +kernel
theorem dX9_shares_57 : decode cX9_shares 57 = .ok (.idiv, 1) := by decide +kernel
theorem dX9_shares_58 : decode cX9_shares 58 = .ok (.iastore, 1) := by decide +kernel
theorem dX9_shares_59 : decode cX9_shares 59 = .ok (.aload_n 0, 1) := by decide +kernel
theorem dX9_shares_60 : decode cX9_shares 60 = .ok (.getfield 46, 3) := by decide +kernel
theorem dX9_shares_63 : decode cX9_shares 63 = .ok (.iload 4, 2) := by decide +kernel
theorem dX9_shares_65 : decode cX9_shares 65 = .ok (.aload_n 0, 1) := by decide +kernel
theorem dX9_shares_66 : decode cX9_shares 66 = .ok (.getfield 19, 3) := by decide +kernel
theorem dX9_shares_69 : decode cX9_shares 69 = .ok (.iload 4, 2) := by decide +kernel
theorem dX9_shares_71 : decode cX9_shares 71 = .ok (.iaload, 1) := by decide +kernel
theorem dX9_shares_72 : decode cX9_shares 72 = .ok (.ifCond .le 17, 3) := by decide +kernel
theorem dX9_shares_75 : decode cX9_shares 75 = .ok (.iload_n 1, 1) := by decide +kernel
theorem dX9_shares_76 : decode cX9_shares 76 = .ok (.aload_n 0, 1) := by decide +kernel
theorem dX9_shares_77 : decode cX9_shares 77 = .ok (.getfield 19, 3) := by decide +kernel
theorem dX9_shares_80 : decode cX9_shares 80 = .ok (.iload 4, 2) := by decide +kernel
theorem dX9_shares_82 : decode cX9_shares 82 = .ok (.iaload, 1) := by decide +kernel
theorem dX9_shares_83 : decode cX9_shares 83 = .ok (.imul, 1) := by decide +kernel
theorem dX9_shares_84 : decode cX9_shares 84 = .ok (.iload_n 2, 1) := by decide +kernel
theorem dX9_shares_85 : decode cX9_shares 85 = .ok (.irem, 1) := by decide +kernel
theorem dX9_shares_86 : decode cX9_shares 86 = .ok (.goto 4, 3) := by decide +kernel
theorem dX9_shares_89 : decode cX9_shares 89 = .ok (.iconst (-1), 1) := by decide +kernel
theorem dX9_shares_90 : decode cX9_shares 90 = .ok (.iastore, 1) := by decide +kernel
theorem dX9_shares_91 : decode cX9_shares 91 = .ok (.iload_n 3, 1) := by decide +kernel
theorem dX9_shares_92 : decode cX9_shares 92 = .ok (.aload_n 0, 1) := by decide +kernel
theorem dX9_shares_93 : decode cX9_shares 93 = .ok (.getfield 43, 3) := by decide +kernel
theorem dX9_shares_96 : decode cX9_shares 96 = .ok (.iload 4, 2) := by decide +kernel
theorem dX9_shares_98 : decode cX9_shares 98 = .ok (.iaload, 1) := by decide +kernel
theorem dX9_shares_99 : decode cX9_shares 99 = .ok (.isub, 1) := by decide +kernel
theorem dX9_shares_100 : decode cX9_shares 100 = .ok (.istore_n 3, 1) := by decide +kernel
theorem dX9_shares_101 : decode cX9_shares 101 = .ok (.iinc 4 1, 3) := by decide +kernel
theorem dX9_shares_104 : decode cX9_shares 104 = .ok (.goto (-72), 3) := by decide +kernel
end
section
theorem dX9_shares_107 : decode cX9_shares 107 = .ok (.iload_n 3, 1) := by decide +kernel
theorem dX9_shares_108 : decode cX9_shares 108 = .ok (.ifCond .le 75, 3) := by decide +kernel
theorem dX9_shares_111 : decode cX9_shares 111 = .ok (.iconst 0, 1) := by decide +kernel
theorem dX9_shares_112 : decode cX9_shares 112 = .ok (.istore 4, 2) := by decide +kernel
theorem dX9_shares_114 : decode cX9_shares 114 = .ok (.iconst 1, 1) := by decide +kernel
theorem dX9_shares_115 : decode cX9_shares 115 = .ok (.istore 5, 2) := by decide +kernel
theorem dX9_shares_117 : decode cX9_shares 117 = .ok (.iload 5, 2) := by decide +kernel
theorem dX9_shares_119 : decode cX9_shares 119 = .ok (.aload_n 0, 1) := by decide +kernel
theorem dX9_shares_120 : decode cX9_shares 120 = .ok (.getfield 58, 3) := by decide +kernel
theorem dX9_shares_123 : decode cX9_shares 123 = .ok (.if_icmp .ge 35, 3) := by decide +kernel
theorem dX9_shares_126 : decode cX9_shares 126 = .ok (.aload_n 0, 1) := by decide +kernel
theorem dX9_shares_127 : decode cX9_shares 127 = .ok (.getfield 46, 3) := by decide +kernel
theorem dX9_shares_130 : decode cX9_shares 130 = .ok (.iload 5, 2) := by decide +kernel
theorem dX9_shares_132 : decode cX9_shares 132 = .ok (.iaload, 1) := by decide +kernel
theorem dX9_shares_133 : decode cX9_shares 133 = .ok (.aload_n 0, 1) := by decide +kernel
theorem dX9_shares_134 : decode cX9_shares 134 = .ok (.getfield 46, 3) := by decide +kernel
theorem dX9_shares_137 : decode cX9_shares 137 = .ok (.iload 4, 2) := by decide +kernel
theorem dX9_shares_139 : decode cX9_shares 139 = .ok (.iaload, 1) := by decide +kernel
theorem dX9_shares_140 : decode cX9_shares 140 = .ok (.if_icmp .le 8, 3) := by decide +kernel
theorem dX9_shares_143 : decode cX9_shares 143 = .ok (.iload 5, 2) := by decide +kernel
theorem dX9_shares_145 : decode cX9_shares 145 = .ok (.goto 5, 3) := by decide +kernel
theorem dX9_shares_148 : decode cX9_shares 148 = .ok (.iload 4, 2) := by decide +kernel
theorem dX9_shares_150 : decode cX9_shares 150 = .ok (.istore 4, 2) := by decide +kernel
theorem dX9_shares_152 : decode cX9_shares 152 = .ok (.iinc 5 1, 3) := by decide +kernel
theorem dX9_shares_155 : decode cX9_shares 155 = .ok (.goto (-38), 3) := by decide +kernel
theorem dX9_shares_158 : decode cX9_shares 158 = .ok (.aload_n 0, 1) := by decide +kernel
theorem dX9_shares_159 : decode cX9_shares 159 = .ok (.getfield 43, 3) := by decide +kernel
theorem dX9_shares_162 : decode cX9_shares 162 = .ok (.iload 4, 2) := by decide +kernel
theorem dX9_shares_164 : decode cX9_shares 164 = .ok (.dup2, 1) := by decide +kernel
theorem dX9_shares_165 : decode cX9_shares 165 = .ok (.iaload, 1) := by decide +kernel
theorem dX9_shares_166 : decode cX9_shares 166 = .ok (.iconst 1, 1) := by decide +kernel
theorem dX9_shares_167 : decode cX9_shares 167 = .ok (.iadd, 1) := by decide +kernel
theorem dX9_shares_168 : decode cX9_shares 168 = .ok (.iastore, 1) := by decide +kernel
theorem dX9_shares_169 : decode cX9_shares 169 = .ok (.aload_n 0, 1) := by decide +kernel
theorem dX9_shares_170 : decode cX9_shares 170 = .ok (.getfield 46, 3) := by decide +kernel
theorem dX9_shares_173 : decode cX9_shares 173 = .ok (.iload 4, 2) := by decide +kernel
theorem dX9_shares_175 : decode cX9_shares 175 = .ok (.iconst (-1), 1) := by decide +kernel
theorem dX9_shares_176 : decode cX9_shares 176 = .ok (.iastore, 1) := by decide +kernel
theorem dX9_shares_177 : decode cX9_shares 177 = .ok (.iinc 3 (-1), 3) := by decide +kernel
theorem dX9_shares_180 : decode cX9_shares 180 = .ok (.goto (-73), 3) := by decide +kernel
theorem dX9_shares_183 : decode cX9_shares 183 = .ok (.iconst 1, 1) := by decide +kernel
theorem dX9_shares_184 : decode cX9_shares 184 = .ok (.istore 4, 2) := by decide +kernel
theorem dX9_shares_186 : decode cX9_shares 186 = .ok (.iconst 0, 1) := by decide +kernel
theorem dX9_shares_187 : decode cX9_shares 187 = .ok (.istore 5, 2) := by decide +kernel
theorem dX9_shares_189 : decode cX9_shares 189 = .ok (.iload 5, 2) := by decide +kernel
theorem dX9_shares_191 : decode cX9_shares 191 = .ok (.aload_n 0, 1) := by decide +kernel
theorem dX9_shares_192 : decode cX9_shares 192 = .ok (.getfield 58, 3) := by decide +kernel
theorem dX9_shares_195 : decode cX9_shares 195 = .ok (.if_icmp .ge 48, 3) := by decide +kernel
theorem dX9_shares_198 : decode cX9_shares 198 = .ok (.iload 4, 2) := by decide +kernel
theorem dX9_shares_200 : decode cX9_shares 200 = .ok (.ifCond .eq 34, 3) := by decide +kernel
theorem dX9_shares_203 : decode cX9_shares 203 = .ok (.aload_n 0, 1) := by decide +kernel
theorem dX9_shares_204 : decode cX9_shares 204 = .ok (.getfield 19, 3) := by decide +kernel
theorem dX9_shares_207 : decode cX9_shares 207 = .ok (.iload 5, 2) := by decide +kernel
theorem dX9_shares_209 : decode cX9_shares 209 = .ok (.iaload, 1) := by decide +kernel
theorem dX9_shares_210 : decode cX9_shares 210 = .ok (.ifCond .eq 20, 3) := by decide +kernel
theorem dX9_shares_213 : decode cX9_shares 213 = .ok (.aload_n 0, 1) := by decide +kernel
theorem dX9_shares_214 : decode cX9_shares 214 = .ok (.getfield 43, 3) := by decide +kernel
theorem dX9_shares_217 : decode cX9_shares 217 = .ok (.iload 5, 2) := by decide +kernel
theorem dX9_shares_219 : decode cX9_shares 219 = .ok (.iaload, 1) := by decide +kernel
theorem dX9_shares_220 : decode cX9_shares 220 = .ok (.aload_n 0, 1) := by decide +kernel
theorem dX9_shares_221 : decode cX9_shares 221 = .ok (.getfield 19, 3) := by decide +kernel
theorem dX9_shares_224 : decode cX9_shares 224 = .ok (.iload 5, 2) := by decide +kernel
theorem dX9_shares_226 : decode cX9_shares 226 = .ok (.iaload, 1) := by decide +kernel
theorem dX9_shares_227 : decode cX9_shares 227 = .ok (.if_icmp .ge 7, 3) := by decide +kernel
theorem dX9_shares_230 : decode cX9_shares 230 = .ok (.iconst 1, 1) := by decide +kernel
theorem dX9_shares_231 : decode cX9_shares 231 = .ok (.goto 4, 3) := by decide +kernel
theorem dX9_shares_234 : decode cX9_shares 234 = .ok (.iconst 0, 1) := by decide +kernel
theorem dX9_shares_235 : decode cX9_shares 235 = .ok (.istore 4, 2) := by decide +kernel
theorem dX9_shares_237 : decode cX9_shares 237 = .ok (.iinc 5 1, 3) := by decide +kernel
theorem dX9_shares_240 : decode cX9_shares 240 = .ok (.goto (-51), 3) := by decide +kernel
theorem dX9_shares_243 : decode cX9_shares 243 = .ok (.iload 4, 2) := by decide +kernel
theorem dX9_shares_245 : decode cX9_shares 245 = .ok (.ireturn, 1) := by decide +kernel
theorem dX9_child_0 : decode cX9_child 0 = .ok (.aload_n 0, 1) := by decide +kernel
theorem dX9_child_1 : decode cX9_child 1 = .ok (.iconst 0, 1) := by decide +kernel
theorem dX9_child_2 : decode cX9_child 2 = .ok (.putfield 68, 3) := by decide +kernel
theorem dX9_child_5 : decode cX9_child 5 = .ok (.iload_n 1, 1) := by decide +kernel
theorem dX9_child_6 : decode cX9_child 6 = .ok (.iconst 1, 1) := by decide +kernel
theorem dX9_child_7 : decode cX9_child 7 = .ok (.bipush 99, 2) := by decide +kernel
theorem dX9_child_9 : decode cX9_child 9 = .ok (.invokestatic 71, 3) := by decide +kernel
theorem dX9_child_12 : decode cX9_child 12 = .ok (.ifCond .eq 20, 3) := by decide +kernel
theorem dX9_child_15 : decode cX9_child 15 = .ok (.aload_n 0, 1) := by decide +kernel
theorem dX9_child_16 : decode cX9_child 16 = .ok (.iload_n 2, 1) := by decide +kernel
theorem dX9_child_17 : decode cX9_child 17 = .ok (.invokevirtual 107, 3) := by decide +kernel
theorem dX9_child_20 : decode cX9_child 20 = .ok (.ifCond .eq 12, 3) := by decide +kernel
theorem dX9_child_23 : decode cX9_child 23 = .ok (.aload_n 0, 1) := by decide +kernel
theorem dX9_child_24 : decode cX9_child 24 = .ok (.getfield 19, 3) := by decide +kernel
theorem dX9_child_27 : decode cX9_child 27 = .ok (.iload_n 2, 1) := by decide +kernel
theorem dX9_child_28 : decode cX9_child 28 = .ok (.iaload, 1) := by decide +kernel
theorem dX9_child_29 : decode cX9_child 29 = .ok (.ifCond .ne 5, 3) := by decide +kernel
theorem dX9_child_32 : decode cX9_child 32 = .ok (.iconst (-1), 1) := by decide +kernel
theorem dX9_child_33 : decode cX9_child 33 = .ok (.ireturn, 1) := by decide +kernel
theorem dX9_child_34 : decode cX9_child 34 = .ok (.aload_n 0, 1) := by decide +kernel
theorem dX9_child_35 : decode cX9_child 35 = .ok (.iload_n 1, 1) := by decide +kernel
theorem dX9_child_36 : decode cX9_child 36 = .ok (.invokevirtual 181, 3) := by decide +kernel
theorem dX9_child_39 : decode cX9_child 39 = .ok (.ifCond .eq 12, 3) := by decide +kernel
theorem dX9_child_42 : decode cX9_child 42 = .ok (.aload_n 0, 1) := by decide +kernel
theorem dX9_child_43 : decode cX9_child 43 = .ok (.getfield 43, 3) := by decide +kernel
theorem dX9_child_46 : decode cX9_child 46 = .ok (.iload_n 2, 1) := by decide +kernel
theorem dX9_child_47 : decode cX9_child 47 = .ok (.iaload, 1) := by decide +kernel
theorem dX9_child_48 : decode cX9_child 48 = .ok (.goto 5, 3) := by decide +kernel
theorem dX9_child_51 : decode cX9_child 51 = .ok (.bipush (-2), 2) := by decide +kernel
theorem dX9_child_53 : decode cX9_child 53 = .ok (.ireturn, 1) := by decide +kernel
theorem dX9_runs_0 : decode cX9_runs 0 = .ok (.iconst 0, 1) := by decide +kernel
theorem dX9_runs_1 : decode cX9_runs 1 = .ok (.istore_n 1, 1) := by decide +kernel
theorem dX9_runs_2 : decode cX9_runs 2 = .ok (.iload_n 1, 1) := by decide +kernel
theorem dX9_runs_3 : decode cX9_runs 3 = .ok (.bipush 8, 2) := by decide +kernel
theorem dX9_runs_5 : decode cX9_runs 5 = .ok (.if_icmp .ge 23, 3) := by decide +kernel
theorem dX9_runs_8 : decode cX9_runs 8 = .ok (.aload_n 0, 1) := by decide +kernel
theorem dX9_runs_9 : decode cX9_runs 9 = .ok (.getfield 34, 3) := by decide +kernel
theorem dX9_runs_12 : decode cX9_runs 12 = .ok (.iload_n 1, 1) := by decide +kernel
theorem dX9_runs_13 : decode cX9_runs 13 = .ok (.iload_n 1, 1) := by decide +kernel
theorem dX9_runs_14 : decode cX9_runs 14 = .ok (.iastore, 1) := by decide +kernel
theorem dX9_runs_15 : decode cX9_runs 15 = .ok (.aload_n 0, 1) := by decide +kernel
theorem dX9_runs_16 : decode cX9_runs 16 = .ok (.getfield 37, 3) := by decide +kernel
theorem dX9_runs_19 : decode cX9_runs 19 = .ok (.iload_n 1, 1) := by decide +kernel
theorem dX9_runs_20 : decode cX9_runs 20 = .ok (.iconst 0, 1) := by decide +kernel
theorem dX9_runs_21 : decode cX9_runs 21 = .ok (.iastore, 1) := by decide +kernel
theorem dX9_runs_22 : decode cX9_runs 22 = .ok (.iinc 1 1, 3) := by decide +kernel
theorem dX9_runs_25 : decode cX9_runs 25 = .ok (.goto (-23), 3) := by decide +kernel
theorem dX9_runs_28 : decode cX9_runs 28 = .ok (.iconst 0, 1) := by decide +kernel
theorem dX9_runs_29 : decode cX9_runs 29 = .ok (.istore_n 1, 1) := by decide +kernel
theorem dX9_runs_30 : decode cX9_runs 30 = .ok (.iload_n 1, 1) := by decide +kernel
theorem dX9_runs_31 : decode cX9_runs 31 = .ok (.aload_n 0, 1) := by decide +kernel
theorem dX9_runs_32 : decode cX9_runs 32 = .ok (.getfield 58, 3) := by decide +kernel
theorem dX9_runs_35 : decode cX9_runs 35 = .ok (.if_icmp .ge 30, 3) := by decide +kernel
theorem dX9_runs_38 : decode cX9_runs 38 = .ok (.aload_n 0, 1) := by decide +kernel
theorem dX9_runs_39 : decode cX9_runs 39 = .ok (.getfield 43, 3) := by decide +kernel
theorem dX9_runs_42 : decode cX9_runs 42 = .ok (.iload_n 1, 1) := by decide +kernel
theorem dX9_runs_43 : decode cX9_runs 43 = .ok (.aload_n 0, 1) := by decide +kernel
theorem dX9_runs_44 : decode cX9_runs 44 = .ok (.getfield 19, 3) := by decide +kernel
theorem dX9_runs_47 : decode cX9_runs 47 = .ok (.iload_n 1, 1) := by decide +kernel
theorem dX9_runs_48 : decode cX9_runs 48 = .ok (.iaload, 1) := by decide +kernel
theorem dX9_runs_49 : decode cX9_runs 49 = .ok (.ifCond .ne 7, 3) := by decide +kernel
theorem dX9_runs_52 : decode cX9_runs 52 = .ok (.iconst 0, 1) := by decide +kernel
theorem dX9_runs_53 : decode cX9_runs 53 = .ok (.goto 5, 3) := by decide +kernel
theorem dX9_runs_56 : decode cX9_runs 56 = .ok (.bipush (-4), 2) := by decide +kernel
theorem dX9_runs_58 : decode cX9_runs 58 = .ok (.iastore, 1) := by decide +kernel
theorem dX9_runs_59 : decode cX9_runs 59 = .ok (.iinc 1 1, 3) := by decide +kernel
theorem dX9_runs_62 : decode cX9_runs 62 = .ok (.goto (-32), 3) := by decide +kernel
theorem dX9_runs_65 : decode cX9_runs 65 = .ok (.iconst 1, 1) := by decide +kernel
theorem dX9_runs_66 : decode cX9_runs 66 = .ok (.istore_n 1, 1) := by decide +kernel
theorem dX9_runs_67 : decode cX9_runs 67 = .ok (.iload_n 1, 1) := by decide +kernel
theorem dX9_runs_68 : decode cX9_runs 68 = .ok (.sipush 301, 3) := by decide +kernel
theorem dX9_runs_71 : decode cX9_runs 71 = .ok (.if_icmp .ge 65, 3) := by decide +kernel
theorem dX9_runs_74 : decode cX9_runs 74 = .ok (.aload_n 0, 1) := by decide +kernel
theorem dX9_runs_75 : decode cX9_runs 75 = .ok (.invokevirtual 153, 3) := by decide +kernel
theorem dX9_runs_78 : decode cX9_runs 78 = .ok (.iconst 0, 1) := by decide +kernel
theorem dX9_runs_79 : decode cX9_runs 79 = .ok (.istore_n 2, 1) := by decide +kernel
theorem dX9_runs_80 : decode cX9_runs 80 = .ok (.iload_n 2, 1) := by decide +kernel
theorem dX9_runs_81 : decode cX9_runs 81 = .ok (.aload_n 0, 1) := by decide +kernel
theorem dX9_runs_82 : decode cX9_runs 82 = .ok (.getfield 58, 3) := by decide +kernel
theorem dX9_runs_85 : decode cX9_runs 85 = .ok (.if_icmp .ge 45, 3) := by decide +kernel
theorem dX9_runs_88 : decode cX9_runs 88 = .ok (.aload_n 0, 1) := by decide +kernel
theorem dX9_runs_89 : decode cX9_runs 89 = .ok (.getfield 43, 3) := by decide +kernel
theorem dX9_runs_92 : decode cX9_runs 92 = .ok (.iload_n 2, 1) := by decide +kernel
theorem dX9_runs_93 : decode cX9_runs 93 = .ok (.aload_n 0, 1) := by decide +kernel
theorem dX9_runs_94 : decode cX9_runs 94 = .ok (.getfield 43, 3) := by decide +kernel
theorem dX9_runs_97 : decode cX9_runs 97 = .ok (.iload_n 2, 1) := by decide +kernel
theorem dX9_runs_98 : decode cX9_runs 98 = .ok (.iaload, 1) := by decide +kernel
theorem dX9_runs_99 : decode cX9_runs 99 = .ok (.bipush (-4), 2) := by decide +kernel
theorem dX9_runs_101 : decode cX9_runs 101 = .ok (.if_icmp .ne 16, 3) := by decide +kernel
theorem dX9_runs_104 : decode cX9_runs 104 = .ok (.aload_n 0, 1) := by decide +kernel
theorem dX9_runs_105 : decode cX9_runs 105 = .ok (.getfield 19, 3) := by decide +kernel
theorem dX9_runs_108 : decode cX9_runs 108 = .ok (.iload_n 2, 1) := by decide +kernel
theorem dX9_runs_109 : decode cX9_runs 109 = .ok (.iaload, 1) := by decide +kernel
theorem dX9_runs_110 : decode cX9_runs 110 = .ok (.ifCond .ne 7, 3) := by decide +kernel
theorem dX9_runs_113 : decode cX9_runs 113 = .ok (.iload_n 1, 1) := by decide +kernel
theorem dX9_runs_114 : decode cX9_runs 114 = .ok (.goto 9, 3) := by decide +kernel
theorem dX9_runs_117 : decode cX9_runs 117 = .ok (.aload_n 0, 1) := by decide +kernel
theorem dX9_runs_118 : decode cX9_runs 118 = .ok (.getfield 43, 3) := by decide +kernel
theorem dX9_runs_121 : decode cX9_runs 121 = .ok (.iload_n 2, 1) := by decide +kernel
theorem dX9_runs_122 : decode cX9_runs 122 = .ok (.iaload, 1) := by decide +kernel
theorem dX9_runs_123 : decode cX9_runs 123 = .ok (.iastore, 1) := by decide +kernel
theorem dX9_runs_124 : decode cX9_runs 124 = .ok (.iinc 2 1, 3) := by decide +kernel
theorem dX9_runs_127 : decode cX9_runs 127 = .ok (.goto (-47), 3) := by decide +kernel
theorem dX9_runs_130 : decode cX9_runs 130 = .ok (.iinc 1 1, 3) := by decide +kernel
theorem dX9_runs_133 : decode cX9_runs 133 = .ok (.goto (-66), 3) := by decide +kernel
theorem dX9_runs_136 : decode cX9_runs 136 = .ok (.return_, 1) := by decide +kernel
theorem dX9_falls_0 : decode cX9_falls 0 = .ok (.aload_n 0, 1) := by decide +kernel
theorem dX9_falls_1 : decode cX9_falls 1 = .ok (.iconst 0, 1) := by decide +kernel
theorem dX9_falls_2 : decode cX9_falls 2 = .ok (.putfield 68, 3) := by decide +kernel
theorem dX9_falls_5 : decode cX9_falls 5 = .ok (.aload_n 0, 1) := by decide +kernel
theorem dX9_falls_6 : decode cX9_falls 6 = .ok (.iload_n 1, 1) := by decide +kernel
theorem dX9_falls_7 : decode cX9_falls 7 = .ok (.invokevirtual 107, 3) := by decide +kernel
theorem dX9_falls_10 : decode cX9_falls 10 = .ok (.ifCond .eq 21, 3) := by decide +kernel
theorem dX9_falls_13 : decode cX9_falls 13 = .ok (.iload_n 2, 1) := by decide +kernel
theorem dX9_falls_14 : decode cX9_falls 14 = .ok (.iconst 0, 1) := by decide +kernel
theorem dX9_falls_15 : decode cX9_falls 15 = .ok (.iconst 1, 1) := by decide +kernel
theorem dX9_falls_16 : decode cX9_falls 16 = .ok (.invokestatic 71, 3) := by decide +kernel
theorem dX9_falls_19 : decode cX9_falls 19 = .ok (.ifCond .eq 12, 3) := by decide +kernel
theorem dX9_falls_22 : decode cX9_falls 22 = .ok (.aload_n 0, 1) := by decide +kernel
theorem dX9_falls_23 : decode cX9_falls 23 = .ok (.getfield 19, 3) := by decide +kernel
theorem dX9_falls_26 : decode cX9_falls 26 = .ok (.iload_n 1, 1) := by decide +kernel
theorem dX9_falls_27 : decode cX9_falls 27 = .ok (.iaload, 1) := by decide +kernel
theorem dX9_falls_28 : decode cX9_falls 28 = .ok (.ifCond .ne 5, 3) := by decide +kernel
theorem dX9_falls_31 : decode cX9_falls 31 = .ok (.iconst (-1), 1) := by decide +kernel
theorem dX9_falls_32 : decode cX9_falls 32 = .ok (.ireturn, 1) := by decide +kernel
theorem dX9_falls_33 : decode cX9_falls 33 = .ok (.aload_n 0, 1) := by decide +kernel
theorem dX9_falls_34 : decode cX9_falls 34 = .ok (.iconst 1, 1) := by decide +kernel
theorem dX9_falls_35 : decode cX9_falls 35 = .ok (.invokevirtual 159, 3) := by decide +kernel
theorem dX9_falls_38 : decode cX9_falls 38 = .ok (.aload_n 0, 1) := by decide +kernel
theorem dX9_falls_39 : decode cX9_falls 39 = .ok (.invokevirtual 184, 3) := by decide +kernel
theorem dX9_falls_42 : decode cX9_falls 42 = .ok (.iconst 0, 1) := by decide +kernel
theorem dX9_falls_43 : decode cX9_falls 43 = .ok (.istore_n 3, 1) := by decide +kernel
theorem dX9_falls_44 : decode cX9_falls 44 = .ok (.iload_n 3, 1) := by decide +kernel
theorem dX9_falls_45 : decode cX9_falls 45 = .ok (.bipush 8, 2) := by decide +kernel
theorem dX9_falls_47 : decode cX9_falls 47 = .ok (.if_icmp .ge 21, 3) := by decide +kernel
theorem dX9_falls_50 : decode cX9_falls 50 = .ok (.aload_n 0, 1) := by decide +kernel
theorem dX9_falls_51 : decode cX9_falls 51 = .ok (.getfield 40, 3) := by decide +kernel
theorem dX9_falls_54 : decode cX9_falls 54 = .ok (.iload_n 3, 1) := by decide +kernel
theorem dX9_falls_55 : decode cX9_falls 55 = .ok (.aload_n 0, 1) := by decide +kernel
theorem dX9_falls_56 : decode cX9_falls 56 = .ok (.getfield 37, 3) := by decide +kernel
theorem dX9_falls_59 : decode cX9_falls 59 = .ok (.iload_n 3, 1) := by decide +kernel
theorem dX9_falls_60 : decode cX9_falls 60 = .ok (.iaload, 1) := by decide +kernel
theorem dX9_falls_61 : decode cX9_falls 61 = .ok (.iastore, 1) := by decide +kernel
theorem dX9_falls_62 : decode cX9_falls 62 = .ok (.iinc 3 1, 3) := by decide +kernel
theorem dX9_falls_65 : decode cX9_falls 65 = .ok (.goto (-21), 3) := by decide +kernel
theorem dX9_falls_68 : decode cX9_falls 68 = .ok (.iconst 0, 1) := by decide +kernel
theorem dX9_falls_69 : decode cX9_falls 69 = .ok (.istore_n 3, 1) := by decide +kernel
theorem dX9_falls_70 : decode cX9_falls 70 = .ok (.iload_n 3, 1) := by decide +kernel
theorem dX9_falls_71 : decode cX9_falls 71 = .ok (.aload_n 0, 1) := by decide +kernel
theorem dX9_falls_72 : decode cX9_falls 72 = .ok (.getfield 58, 3) := by decide +kernel
theorem dX9_falls_75 : decode cX9_falls 75 = .ok (.if_icmp .ge 21, 3) := by decide +kernel
theorem dX9_falls_78 : decode cX9_falls 78 = .ok (.aload_n 0, 1) := by decide +kernel
theorem dX9_falls_79 : decode cX9_falls 79 = .ok (.getfield 46, 3) := by decide +kernel
theorem dX9_falls_82 : decode cX9_falls 82 = .ok (.iload_n 3, 1) := by decide +kernel
theorem dX9_falls_83 : decode cX9_falls 83 = .ok (.aload_n 0, 1) := by decide +kernel
theorem dX9_falls_84 : decode cX9_falls 84 = .ok (.getfield 43, 3) := by decide +kernel
theorem dX9_falls_87 : decode cX9_falls 87 = .ok (.iload_n 3, 1) := by decide +kernel
theorem dX9_falls_88 : decode cX9_falls 88 = .ok (.iaload, 1) := by decide +kernel
theorem dX9_falls_89 : decode cX9_falls 89 = .ok (.iastore, 1) := by decide +kernel
theorem dX9_falls_90 : decode cX9_falls 90 = .ok (.iinc 3 1, 3) := by decide +kernel
theorem dX9_falls_93 : decode cX9_falls 93 = .ok (.goto (-23), 3) := by decide +kernel
theorem dX9_falls_96 : decode cX9_falls 96 = .ok (.aload_n 0, 1) := by decide +kernel
theorem dX9_falls_97 : decode cX9_falls 97 = .ok (.iconst 0, 1) := by decide +kernel
theorem dX9_falls_98 : decode cX9_falls 98 = .ok (.invokevirtual 159, 3) := by decide +kernel
theorem dX9_falls_101 : decode cX9_falls 101 = .ok (.aload_n 0, 1) := by decide +kernel
theorem dX9_falls_102 : decode cX9_falls 102 = .ok (.getfield 19, 3) := by decide +kernel
theorem dX9_falls_105 : decode cX9_falls 105 = .ok (.bipush 12, 2) := by decide +kernel
theorem dX9_falls_107 : decode cX9_falls 107 = .ok (.iaload, 1) := by decide +kernel
theorem dX9_falls_108 : decode cX9_falls 108 = .ok (.istore_n 3, 1) := by decide +kernel
theorem dX9_falls_109 : decode cX9_falls 109 = .ok (.aload_n 0, 1) := by decide +kernel
theorem dX9_falls_110 : decode cX9_falls 110 = .ok (.getfield 19, 3) := by decide +kernel
theorem dX9_falls_113 : decode cX9_falls 113 = .ok (.iload_n 1, 1) := by decide +kernel
theorem dX9_falls_114 : decode cX9_falls 114 = .ok (.iconst 0, 1) := by decide +kernel
theorem dX9_falls_115 : decode cX9_falls 115 = .ok (.iastore, 1) := by decide +kernel
theorem dX9_falls_116 : decode cX9_falls 116 = .ok (.aload_n 0, 1) := by decide +kernel
theorem dX9_falls_117 : decode cX9_falls 117 = .ok (.invokevirtual 184, 3) := by decide +kernel
theorem dX9_falls_120 : decode cX9_falls 120 = .ok (.aload_n 0, 1) := by decide +kernel
theorem dX9_falls_121 : decode cX9_falls 121 = .ok (.iconst 0, 1) := by decide +kernel
theorem dX9_falls_122 : decode cX9_falls 122 = .ok (.invokevirtual 159, 3) := by decide +kernel
theorem dX9_falls_125 : decode cX9_falls 125 = .ok (.iconst 0, 1) := by decide +kernel
theorem dX9_falls_126 : decode cX9_falls 126 = .ok (.istore 4, 2) := by decide +kernel
theorem dX9_falls_128 : decode cX9_falls 128 = .ok (.iconst 0, 1) := by decide +kernel
theorem dX9_falls_129 : decode cX9_falls 129 = .ok (.istore 5, 2) := by decide +kernel
theorem dX9_falls_131 : decode cX9_falls 131 = .ok (.iload 5, 2) := by decide +kernel
theorem dX9_falls_133 : decode cX9_falls 133 = .ok (.iload_n 3, 1) := by decide +kernel
theorem dX9_falls_134 : decode cX9_falls 134 = .ok (.if_icmp .ge 36, 3) := by decide +kernel
theorem dX9_falls_137 : decode cX9_falls 137 = .ok (.iload 4, 2) := by decide +kernel
theorem dX9_falls_139 : decode cX9_falls 139 = .ok (.aload_n 0, 1) := by decide +kernel
theorem dX9_falls_140 : decode cX9_falls 140 = .ok (.getfield 37, 3) := by decide +kernel
theorem dX9_falls_143 : decode cX9_falls 143 = .ok (.iload 5, 2) := by decide +kernel
theorem dX9_falls_145 : decode cX9_falls 145 = .ok (.iaload, 1) := by decide +kernel
theorem dX9_falls_146 : decode cX9_falls 146 = .ok (.aload_n 0, 1) := by decide +kernel
theorem dX9_falls_147 : decode cX9_falls 147 = .ok (.getfield 40, 3) := by decide +kernel
theorem dX9_falls_150 : decode cX9_falls 150 = .ok (.iload 5, 2) := by decide +kernel
theorem dX9_falls_152 : decode cX9_falls 152 = .ok (.iaload, 1) := by decide +kernel
theorem dX9_falls_153 : decode cX9_falls 153 = .ok (.if_icmp .ge 7, 3) := by decide +kernel
theorem dX9_falls_156 : decode cX9_falls 156 = .ok (.iconst 1, 1) := by decide +kernel
theorem dX9_falls_157 : decode cX9_falls 157 = .ok (.goto 4, 3) := by decide +kernel
theorem dX9_falls_160 : decode cX9_falls 160 = .ok (.iconst 0, 1) := by decide +kernel
theorem dX9_falls_161 : decode cX9_falls 161 = .ok (.iadd, 1) := by decide +kernel
theorem dX9_falls_162 : decode cX9_falls 162 = .ok (.istore 4, 2) := by decide +kernel
theorem dX9_falls_164 : decode cX9_falls 164 = .ok (.iinc 5 1, 3) := by decide +kernel
theorem dX9_falls_167 : decode cX9_falls 167 = .ok (.goto (-36), 3) := by decide +kernel
theorem dX9_falls_170 : decode cX9_falls 170 = .ok (.bipush (-4), 2) := by decide +kernel
theorem dX9_falls_172 : decode cX9_falls 172 = .ok (.istore 5, 2) := by decide +kernel
theorem dX9_falls_174 : decode cX9_falls 174 = .ok (.iconst 0, 1) := by decide +kernel
theorem dX9_falls_175 : decode cX9_falls 175 = .ok (.istore 6, 2) := by decide +kernel
theorem dX9_falls_177 : decode cX9_falls 177 = .ok (.iload 6, 2) := by decide +kernel
theorem dX9_falls_179 : decode cX9_falls 179 = .ok (.aload_n 0, 1) := by decide +kernel
theorem dX9_falls_180 : decode cX9_falls 180 = .ok (.getfield 58, 3) := by decide +kernel
theorem dX9_falls_183 : decode cX9_falls 183 = .ok (.if_icmp .ge 101, 3) := by decide +kernel
theorem dX9_falls_186 : decode cX9_falls 186 = .ok (.iload 6, 2) := by decide +kernel
theorem dX9_falls_188 : decode cX9_falls 188 = .ok (.iload_n 1, 1) := by decide +kernel
theorem dX9_falls_189 : decode cX9_falls 189 = .ok (.if_icmp .eq 48, 3) := by decide +kernel
theorem dX9_falls_192 : decode cX9_falls 192 = .ok (.aload_n 0, 1) := by decide +kernel
theorem dX9_falls_193 : decode cX9_falls 193 = .ok (.getfield 43, 3) := by decide +kernel
theorem dX9_falls_196 : decode cX9_falls 196 = .ok (.iload 6, 2) := by decide +kernel
theorem dX9_falls_198 : decode cX9_falls 198 = .ok (.iaload, 1) := by decide +kernel
theorem dX9_falls_199 : decode cX9_falls 199 = .ok (.bipush (-4), 2) := by decide +kernel
theorem dX9_falls_201 : decode cX9_falls 201 = .ok (.if_icmp .eq 36, 3) := by decide +kernel
theorem dX9_falls_204 : decode cX9_falls 204 = .ok (.aload_n 0, 1) := by decide +kernel
theorem dX9_falls_205 : decode cX9_falls 205 = .ok (.getfield 46, 3) := by decide +kernel
theorem dX9_falls_208 : decode cX9_falls 208 = .ok (.iload 6, 2) := by decide +kernel
theorem dX9_falls_210 : decode cX9_falls 210 = .ok (.iaload, 1) := by decide +kernel
theorem dX9_falls_211 : decode cX9_falls 211 = .ok (.bipush (-4), 2) := by decide +kernel
theorem dX9_falls_213 : decode cX9_falls 213 = .ok (.if_icmp .eq 20, 3) := by decide +kernel
theorem dX9_falls_216 : decode cX9_falls 216 = .ok (.aload_n 0, 1) := by decide +kernel
theorem dX9_falls_217 : decode cX9_falls 217 = .ok (.getfield 43, 3) := by decide +kernel
theorem dX9_falls_220 : decode cX9_falls 220 = .ok (.iload 6, 2) := by decide +kernel
theorem dX9_falls_222 : decode cX9_falls 222 = .ok (.iaload, 1) := by decide +kernel
theorem dX9_falls_223 : decode cX9_falls 223 = .ok (.aload_n 0, 1) := by decide +kernel
theorem dX9_falls_224 : decode cX9_falls 224 = .ok (.getfield 46, 3) := by decide +kernel
theorem dX9_falls_227 : decode cX9_falls 227 = .ok (.iload 6, 2) := by decide +kernel
theorem dX9_falls_229 : decode cX9_falls 229 = .ok (.iaload, 1) := by decide +kernel
theorem dX9_falls_230 : decode cX9_falls 230 = .ok (.if_icmp .ge 7, 3) := by decide +kernel
theorem dX9_falls_233 : decode cX9_falls 233 = .ok (.iconst 1, 1) := by decide +kernel
theorem dX9_falls_234 : decode cX9_falls 234 = .ok (.goto 4, 3) := by decide +kernel
theorem dX9_falls_237 : decode cX9_falls 237 = .ok (.iconst 0, 1) := by decide +kernel
theorem dX9_falls_238 : decode cX9_falls 238 = .ok (.istore 7, 2) := by decide +kernel
theorem dX9_falls_240 : decode cX9_falls 240 = .ok (.iload 7, 2) := by decide +kernel
theorem dX9_falls_242 : decode cX9_falls 242 = .ok (.ifCond .eq 32, 3) := by decide +kernel
theorem dX9_falls_245 : decode cX9_falls 245 = .ok (.iload 5, 2) := by decide +kernel
theorem dX9_falls_247 : decode cX9_falls 247 = .ok (.bipush (-4), 2) := by decide +kernel
theorem dX9_falls_249 : decode cX9_falls 249 = .ok (.if_icmp .eq 20, 3) := by decide +kernel
theorem dX9_falls_252 : decode cX9_falls 252 = .ok (.aload_n 0, 1) := by decide +kernel
theorem dX9_falls_253 : decode cX9_falls 253 = .ok (.getfield 43, 3) := by decide +kernel
theorem dX9_falls_256 : decode cX9_falls 256 = .ok (.iload 6, 2) := by decide +kernel
theorem dX9_falls_258 : decode cX9_falls 258 = .ok (.iaload, 1) := by decide +kernel
theorem dX9_falls_259 : decode cX9_falls 259 = .ok (.aload_n 0, 1) := by decide +kernel
theorem dX9_falls_260 : decode cX9_falls 260 = .ok (.getfield 43, 3) := by decide +kernel
theorem dX9_falls_263 : decode cX9_falls 263 = .ok (.iload 5, 2) := by decide +kernel
theorem dX9_falls_265 : decode cX9_falls 265 = .ok (.iaload, 1) := by decide +kernel
theorem dX9_falls_266 : decode cX9_falls 266 = .ok (.if_icmp .ge 8, 3) := by decide +kernel
theorem dX9_falls_269 : decode cX9_falls 269 = .ok (.iload 6, 2) := by decide +kernel
theorem dX9_falls_271 : decode cX9_falls 271 = .ok (.goto 5, 3) := by decide +kernel
theorem dX9_falls_274 : decode cX9_falls 274 = .ok (.iload 5, 2) := by decide +kernel
theorem dX9_falls_276 : decode cX9_falls 276 = .ok (.istore 5, 2) := by decide +kernel
theorem dX9_falls_278 : decode cX9_falls 278 = .ok (.iinc 6 1, 3) := by decide +kernel
theorem dX9_falls_281 : decode cX9_falls 281 = .ok (.goto (-104), 3) := by decide +kernel
theorem dX9_falls_284 : decode cX9_falls 284 = .ok (.iload_n 2, 1) := by decide +kernel
theorem dX9_falls_285 : decode cX9_falls 285 = .ok (.ifCond .ne 8, 3) := by decide +kernel
theorem dX9_falls_288 : decode cX9_falls 288 = .ok (.iload 4, 2) := by decide +kernel
theorem dX9_falls_290 : decode cX9_falls 290 = .ok (.goto 5, 3) := by decide +kernel
theorem dX9_falls_293 : decode cX9_falls 293 = .ok (.iload 5, 2) := by decide +kernel
theorem dX9_falls_295 : decode cX9_falls 295 = .ok (.ireturn, 1) := by decide +kernel
theorem dX9_burned_0 : decode cX9_burned 0 = .ok (.aload_n 0, 1) := by decide +kernel
theorem dX9_burned_1 : decode cX9_burned 1 = .ok (.iconst 0, 1) := by decide +kernel
theorem dX9_burned_2 : decode cX9_burned 2 = .ok (.putfield 68, 3) := by decide +kernel
theorem dX9_burned_5 : decode cX9_burned 5 = .ok (.iload_n 1, 1) := by decide +kernel
theorem dX9_burned_6 : decode cX9_burned 6 = .ok (.iconst 2, 1) := by decide +kernel
theorem dX9_burned_7 : decode cX9_burned 7 = .ok (.iconst 4, 1) := by decide +kernel
theorem dX9_burned_8 : decode cX9_burned 8 = .ok (.invokestatic 71, 3) := by decide +kernel
theorem dX9_burned_11 : decode cX9_burned 11 = .ok (.ifCond .eq 36, 3) := by decide +kernel
theorem dX9_burned_14 : decode cX9_burned 14 = .ok (.iload_n 2, 1) := by decide +kernel
theorem dX9_burned_15 : decode cX9_burned 15 = .ok (.iconst 1, 1) := by decide +kernel
theorem dX9_burned_16 : decode cX9_burned 16 = .ok (.bipush 12, 2) := by decide +kernel
theorem dX9_burned_18 : decode cX9_burned 18 = .ok (.invokestatic 71, 3) := by decide +kernel
theorem dX9_burned_21 : decode cX9_burned 21 = .ok (.ifCond .eq 26, 3) := by decide +kernel
theorem dX9_burned_24 : decode cX9_burned 24 = .ok (.iload_n 3, 1) := by decide +kernel
theorem dX9_burned_25 : decode cX9_burned 25 = .ok (.iconst 0, 1) := by decide +kernel
theorem dX9_burned_26 : decode cX9_burned 26 = .ok (.sipush 999, 3) := by decide +kernel
theorem dX9_burned_29 : decode cX9_burned 29 = .ok (.invokestatic 71, 3) := by decide +kernel
theorem dX9_burned_32 : decode cX9_burned 32 = .ok (.ifCond .eq 15, 3) := by decide +kernel
theorem dX9_burned_35 : decode cX9_burned 35 = .ok (.iload 4, 2) := by decide +kernel
theorem dX9_burned_37 : decode cX9_burned 37 = .ok (.iconst (-1), 1) := by decide +kernel
theorem dX9_burned_38 : decode cX9_burned 38 = .ok (.iload_n 1, 1) := by decide +kernel
theorem dX9_burned_39 : decode cX9_burned 39 = .ok (.iconst 1, 1) := by decide +kernel
theorem dX9_burned_40 : decode cX9_burned 40 = .ok (.isub, 1) := by decide +kernel
theorem dX9_burned_41 : decode cX9_burned 41 = .ok (.invokestatic 71, 3) := by decide +kernel
theorem dX9_burned_44 : decode cX9_burned 44 = .ok (.ifCond .ne 5, 3) := by decide +kernel
theorem dX9_burned_47 : decode cX9_burned 47 = .ok (.iconst (-1), 1) := by decide +kernel
theorem dX9_burned_48 : decode cX9_burned 48 = .ok (.ireturn, 1) := by decide +kernel
theorem dX9_burned_49 : decode cX9_burned 49 = .ok (.iconst 1, 1) := by decide +kernel
theorem dX9_burned_50 : decode cX9_burned 50 = .ok (.istore 5, 2) := by decide +kernel
theorem dX9_burned_52 : decode cX9_burned 52 = .ok (.iconst 0, 1) := by decide +kernel
theorem dX9_burned_53 : decode cX9_burned 53 = .ok (.istore 6, 2) := by decide +kernel
theorem dX9_burned_55 : decode cX9_burned 55 = .ok (.iload 6, 2) := by decide +kernel
theorem dX9_burned_57 : decode cX9_burned 57 = .ok (.iload_n 1, 1) := by decide +kernel
theorem dX9_burned_58 : decode cX9_burned 58 = .ok (.if_icmp .ge 15, 3) := by decide +kernel
theorem dX9_burned_61 : decode cX9_burned 61 = .ok (.iload 5, 2) := by decide +kernel
theorem dX9_burned_63 : decode cX9_burned 63 = .ok (.iload_n 2, 1) := by decide +kernel
theorem dX9_burned_64 : decode cX9_burned 64 = .ok (.imul, 1) := by decide +kernel
theorem dX9_burned_65 : decode cX9_burned 65 = .ok (.istore 5, 2) := by decide +kernel
theorem dX9_burned_67 : decode cX9_burned 67 = .ok (.iinc 6 1, 3) := by decide +kernel
theorem dX9_burned_70 : decode cX9_burned 70 = .ok (.goto (-15), 3) := by decide +kernel
theorem dX9_burned_73 : decode cX9_burned 73 = .ok (.iconst 0, 1) := by decide +kernel
theorem dX9_burned_74 : decode cX9_burned 74 = .ok (.istore 6, 2) := by decide +kernel
theorem dX9_burned_76 : decode cX9_burned 76 = .ok (.iconst 0, 1) := by decide +kernel
theorem dX9_burned_77 : decode cX9_burned 77 = .ok (.istore 7, 2) := by decide +kernel
theorem dX9_burned_79 : decode cX9_burned 79 = .ok (.iload 7, 2) := by decide +kernel
theorem dX9_burned_81 : decode cX9_burned 81 = .ok (.iload 5, 2) := by decide +kernel
theorem dX9_burned_83 : decode cX9_burned 83 = .ok (.if_icmp .ge 132, 3) := by decide +kernel
theorem dX9_burned_86 : decode cX9_burned 86 = .ok (.iload 7, 2) := by decide +kernel
theorem dX9_burned_88 : decode cX9_burned 88 = .ok (.istore 8, 2) := by decide +kernel
theorem dX9_burned_90 : decode cX9_burned 90 = .ok (.iconst 0, 1) := by decide +kernel
theorem dX9_burned_91 : decode cX9_burned 91 = .ok (.istore 9, 2) := by decide +kernel
theorem dX9_burned_93 : decode cX9_burned 93 = .ok (.iconst 1, 1) := by decide +kernel
theorem dX9_burned_94 : decode cX9_burned 94 = .ok (.istore 10, 2) := by decide +kernel
theorem dX9_burned_96 : decode cX9_burned 96 = .ok (.iload_n 1, 1) := by decide +kernel
theorem dX9_burned_97 : decode cX9_burned 97 = .ok (.iconst 1, 1) := by decide +kernel
theorem dX9_burned_98 : decode cX9_burned 98 = .ok (.isub, 1) := by decide +kernel
theorem dX9_burned_99 : decode cX9_burned 99 = .ok (.istore 11, 2) := by decide +kernel
theorem dX9_burned_101 : decode cX9_burned 101 = .ok (.iload 11, 2) := by decide +kernel
theorem dX9_burned_103 : decode cX9_burned 103 = .ok (.ifCond .lt 79, 3) := by decide +kernel
theorem dX9_burned_106 : decode cX9_burned 106 = .ok (.aload_n 0, 1) := by decide +kernel
theorem dX9_burned_107 : decode cX9_burned 107 = .ok (.getfield 55, 3) := by decide +kernel
theorem dX9_burned_110 : decode cX9_burned 110 = .ok (.iload 11, 2) := by decide +kernel
theorem dX9_burned_112 : decode cX9_burned 112 = .ok (.iconst 1, 1) := by decide +kernel
theorem dX9_burned_113 : decode cX9_burned 113 = .ok (.iload 8, 2) := by decide +kernel
theorem dX9_burned_115 : decode cX9_burned 115 = .ok (.iload_n 2, 1) := by decide +kernel
theorem dX9_burned_116 : decode cX9_burned 116 = .ok (.irem, 1) := by decide +kernel
theorem dX9_burned_117 : decode cX9_burned 117 = .ok (.iadd, 1) := by decide +kernel
theorem dX9_burned_118 : decode cX9_burned 118 = .ok (.iastore, 1) := by decide +kernel
theorem dX9_burned_119 : decode cX9_burned 119 = .ok (.iload 8, 2) := by decide +kernel
theorem dX9_burned_121 : decode cX9_burned 121 = .ok (.iload_n 2, 1) := by decide +kernel
theorem dX9_burned_122 : decode cX9_burned 122 = .ok (.idiv, 1) := by decide +kernel
theorem dX9_burned_123 : decode cX9_burned 123 = .ok (.istore 8, 2) := by decide +kernel
theorem dX9_burned_125 : decode cX9_burned 125 = .ok (.iload 9, 2) := by decide +kernel
theorem dX9_burned_127 : decode cX9_burned 127 = .ok (.aload_n 0, 1) := by decide +kernel
theorem dX9_burned_128 : decode cX9_burned 128 = .ok (.getfield 55, 3) := by decide +kernel
theorem dX9_burned_131 : decode cX9_burned 131 = .ok (.iload 11, 2) := by decide +kernel
theorem dX9_burned_133 : decode cX9_burned 133 = .ok (.iaload, 1) := by decide +kernel
theorem dX9_burned_134 : decode cX9_burned 134 = .ok (.iadd, 1) := by decide +kernel
theorem dX9_burned_135 : decode cX9_burned 135 = .ok (.istore 9, 2) := by decide +kernel
theorem dX9_burned_137 : decode cX9_burned 137 = .ok (.iload 10, 2) := by decide +kernel
theorem dX9_burned_139 : decode cX9_burned 139 = .ok (.ifCond .eq 34, 3) := by decide +kernel
theorem dX9_burned_142 : decode cX9_burned 142 = .ok (.iload 11, 2) := by decide +kernel
theorem dX9_burned_144 : decode cX9_burned 144 = .ok (.iload_n 1, 1) := by decide +kernel
theorem dX9_burned_145 : decode cX9_burned 145 = .ok (.iconst 1, 1) := by decide +kernel
theorem dX9_burned_146 : decode cX9_burned 146 = .ok (.isub, 1) := by decide +kernel
theorem dX9_burned_147 : decode cX9_burned 147 = .ok (.if_icmp .eq 22, 3) := by decide +kernel
theorem dX9_burned_150 : decode cX9_burned 150 = .ok (.aload_n 0, 1) := by decide +kernel
theorem dX9_burned_151 : decode cX9_burned 151 = .ok (.getfield 55, 3) := by decide +kernel
theorem dX9_burned_154 : decode cX9_burned 154 = .ok (.iload 11, 2) := by decide +kernel
theorem dX9_burned_156 : decode cX9_burned 156 = .ok (.iaload, 1) := by decide +kernel
theorem dX9_burned_157 : decode cX9_burned 157 = .ok (.aload_n 0, 1) := by decide +kernel
theorem dX9_burned_158 : decode cX9_burned 158 = .ok (.getfield 55, 3) := by decide +kernel
theorem dX9_burned_161 : decode cX9_burned 161 = .ok (.iload 11, 2) := by decide +kernel
theorem dX9_burned_163 : decode cX9_burned 163 = .ok (.iconst 1, 1) := by decide +kernel
theorem dX9_burned_164 : decode cX9_burned 164 = .ok (.iadd, 1) := by decide +kernel
theorem dX9_burned_165 : decode cX9_burned 165 = .ok (.iaload, 1) := by decide +kernel
theorem dX9_burned_166 : decode cX9_burned 166 = .ok (.if_icmp .gt 7, 3) := by decide +kernel
theorem dX9_burned_169 : decode cX9_burned 169 = .ok (.iconst 1, 1) := by decide +kernel
theorem dX9_burned_170 : decode cX9_burned 170 = .ok (.goto 4, 3) := by decide +kernel
theorem dX9_burned_173 : decode cX9_burned 173 = .ok (.iconst 0, 1) := by decide +kernel
theorem dX9_burned_174 : decode cX9_burned 174 = .ok (.istore 10, 2) := by decide +kernel
theorem dX9_burned_176 : decode cX9_burned 176 = .ok (.iinc 11 (-1), 3) := by decide +kernel
theorem dX9_burned_179 : decode cX9_burned 179 = .ok (.goto (-78), 3) := by decide +kernel
theorem dX9_burned_182 : decode cX9_burned 182 = .ok (.iload 10, 2) := by decide +kernel
theorem dX9_burned_184 : decode cX9_burned 184 = .ok (.ifCond .eq 25, 3) := by decide +kernel
theorem dX9_burned_187 : decode cX9_burned 187 = .ok (.iload 9, 2) := by decide +kernel
theorem dX9_burned_189 : decode cX9_burned 189 = .ok (.iload_n 3, 1) := by decide +kernel
theorem dX9_burned_190 : decode cX9_burned 190 = .ok (.if_icmp .ne 19, 3) := by decide +kernel
theorem dX9_burned_193 : decode cX9_burned 193 = .ok (.iload 4, 2) := by decide +kernel
theorem dX9_burned_195 : decode cX9_burned 195 = .ok (.ifCond .lt 11, 3) := by decide +kernel
theorem dX9_burned_198 : decode cX9_burned 198 = .ok (.aload_n 0, 1) := by decide +kernel
theorem dX9_burned_199 : decode cX9_burned 199 = .ok (.getfield 55, 3) := by decide +kernel
theorem dX9_burned_202 : decode cX9_burned 202 = .ok (.iload 4, 2) := by decide +kernel
theorem dX9_burned_204 : decode cX9_burned 204 = .ok (.iaload, 1) := by decide +kernel
theorem dX9_burned_205 : decode cX9_burned 205 = .ok (.ireturn, 1) := by decide +kernel
theorem dX9_burned_206 : decode cX9_burned 206 = .ok (.iinc 6 1, 3) := by decide +kernel
theorem dX9_burned_209 : decode cX9_burned 209 = .ok (.iinc 7 1, 3) := by decide +kernel
theorem dX9_burned_212 : decode cX9_burned 212 = .ok (.goto (-133), 3) := by decide +kernel
theorem dX9_burned_215 : decode cX9_burned 215 = .ok (.iload 4, 2) := by decide +kernel
theorem dX9_burned_217 : decode cX9_burned 217 = .ok (.ifCond .ge 8, 3) := by decide +kernel
theorem dX9_burned_220 : decode cX9_burned 220 = .ok (.iload 6, 2) := by decide +kernel
theorem dX9_burned_222 : decode cX9_burned 222 = .ok (.goto 5, 3) := by decide +kernel
theorem dX9_burned_225 : decode cX9_burned 225 = .ok (.bipush (-4), 2) := by decide +kernel
theorem dX9_burned_227 : decode cX9_burned 227 = .ok (.ireturn, 1) := by decide +kernel
theorem dX9_draw_0 : decode cX9_draw 0 = .ok (.ldc2_w 187, 3) := by decide +kernel
theorem dX9_draw_3 : decode cX9_draw 3 = .ok (.iload_n 0, 1) := by decide +kernel
theorem dX9_draw_4 : decode cX9_draw 4 = .ok (.i2l, 1) := by decide +kernel
theorem dX9_draw_5 : decode cX9_draw 5 = .ok (.lmul, 1) := by decide +kernel
theorem dX9_draw_6 : decode cX9_draw 6 = .ok (.ldc2_w 189, 3) := by decide +kernel
theorem dX9_draw_9 : decode cX9_draw 9 = .ok (.iload_n 1, 1) := by decide +kernel
theorem dX9_draw_10 : decode cX9_draw 10 = .ok (.i2l, 1) := by decide +kernel
theorem dX9_draw_11 : decode cX9_draw 11 = .ok (.lmul, 1) := by decide +kernel
theorem dX9_draw_12 : decode cX9_draw 12 = .ok (.ladd, 1) := by decide +kernel
theorem dX9_draw_13 : decode cX9_draw 13 = .ok (.ldc2_w 191, 3) := by decide +kernel
theorem dX9_draw_16 : decode cX9_draw 16 = .ok (.iload_n 2, 1) := by decide +kernel
theorem dX9_draw_17 : decode cX9_draw 17 = .ok (.i2l, 1) := by decide +kernel
theorem dX9_draw_18 : decode cX9_draw 18 = .ok (.lmul, 1) := by decide +kernel
theorem dX9_draw_19 : decode cX9_draw 19 = .ok (.ladd, 1) := by decide +kernel
theorem dX9_draw_20 : decode cX9_draw 20 = .ok (.lconst 1, 1) := by decide +kernel
theorem dX9_draw_21 : decode cX9_draw 21 = .ok (.ladd, 1) := by decide +kernel
theorem dX9_draw_22 : decode cX9_draw 22 = .ok (.lstore_n 3, 1) := by decide +kernel
theorem dX9_draw_23 : decode cX9_draw 23 = .ok (.lload_n 3, 1) := by decide +kernel
theorem dX9_draw_24 : decode cX9_draw 24 = .ok (.lload_n 3, 1) := by decide +kernel
theorem dX9_draw_25 : decode cX9_draw 25 = .ok (.lmul, 1) := by decide +kernel
theorem dX9_draw_26 : decode cX9_draw 26 = .ok (.ldc2_w 193, 3) := by decide +kernel
theorem dX9_draw_29 : decode cX9_draw 29 = .ok (.lrem, 1) := by decide +kernel
theorem dX9_draw_30 : decode cX9_draw 30 = .ok (.l2i, 1) := by decide +kernel
theorem dX9_draw_31 : decode cX9_draw 31 = .ok (.ireturn, 1) := by decide +kernel
theorem dX9_drawn_0 : decode cX9_drawn 0 = .ok (.aload_n 0, 1) := by decide +kernel
theorem dX9_drawn_1 : decode cX9_drawn 1 = .ok (.iconst 0, 1) := by decide +kernel
theorem dX9_drawn_2 : decode cX9_drawn 2 = .ok (.putfield 68, 3) := by decide +kernel
theorem dX9_drawn_5 : decode cX9_drawn 5 = .ok (.iload_n 1, 1) := by decide +kernel
theorem dX9_drawn_6 : decode cX9_drawn 6 = .ok (.iconst 0, 1) := by decide +kernel
theorem dX9_drawn_7 : decode cX9_drawn 7 = .ok (.sipush 9999, 3) := by decide +kernel
theorem dX9_drawn_10 : decode cX9_drawn 10 = .ok (.invokestatic 71, 3) := by decide +kernel
theorem dX9_drawn_13 : decode cX9_drawn 13 = .ok (.ifCond .eq 22, 3) := by decide +kernel
theorem dX9_drawn_16 : decode cX9_drawn 16 = .ok (.iload_n 2, 1) := by decide +kernel
theorem dX9_drawn_17 : decode cX9_drawn 17 = .ok (.iconst 1, 1) := by decide +kernel
theorem dX9_drawn_18 : decode cX9_drawn 18 = .ok (.bipush 60, 2) := by decide +kernel
theorem dX9_drawn_20 : decode cX9_drawn 20 = .ok (.invokestatic 71, 3) := by decide +kernel
theorem dX9_drawn_23 : decode cX9_drawn 23 = .ok (.ifCond .eq 12, 3) := by decide +kernel
theorem dX9_drawn_26 : decode cX9_drawn 26 = .ok (.iload_n 3, 1) := by decide +kernel
theorem dX9_drawn_27 : decode cX9_drawn 27 = .ok (.iconst 0, 1) := by decide +kernel
theorem dX9_drawn_28 : decode cX9_drawn 28 = .ok (.iconst 1, 1) := by decide +kernel
theorem dX9_drawn_29 : decode cX9_drawn 29 = .ok (.invokestatic 71, 3) := by decide +kernel
theorem dX9_drawn_32 : decode cX9_drawn 32 = .ok (.ifCond .ne 5, 3) := by decide +kernel
theorem dX9_drawn_35 : decode cX9_drawn 35 = .ok (.iconst (-1), 1) := by decide +kernel
theorem dX9_drawn_36 : decode cX9_drawn 36 = .ok (.ireturn, 1) := by decide +kernel
theorem dX9_drawn_37 : decode cX9_drawn 37 = .ok (.aload_n 0, 1) := by decide +kernel
theorem dX9_drawn_38 : decode cX9_drawn 38 = .ok (.iconst 1, 1) := by decide +kernel
theorem dX9_drawn_39 : decode cX9_drawn 39 = .ok (.invokevirtual 159, 3) := by decide +kernel
theorem dX9_drawn_42 : decode cX9_drawn 42 = .ok (.iconst 0, 1) := by decide +kernel
theorem dX9_drawn_43 : decode cX9_drawn 43 = .ok (.istore 4, 2) := by decide +kernel
theorem dX9_drawn_45 : decode cX9_drawn 45 = .ok (.iload 4, 2) := by decide +kernel
theorem dX9_drawn_47 : decode cX9_drawn 47 = .ok (.iload_n 2, 1) := by decide +kernel
theorem dX9_drawn_48 : decode cX9_drawn 48 = .ok (.if_icmp .ge 123, 3) := by decide +kernel
theorem dX9_drawn_51 : decode cX9_drawn 51 = .ok (.iload_n 1, 1) := by decide +kernel
theorem dX9_drawn_52 : decode cX9_drawn 52 = .ok (.iload 4, 2) := by decide +kernel
theorem dX9_drawn_54 : decode cX9_drawn 54 = .ok (.iconst 0, 1) := by decide +kernel
theorem dX9_drawn_55 : decode cX9_drawn 55 = .ok (.invokestatic 195, 3) := by decide +kernel
theorem dX9_drawn_58 : decode cX9_drawn 58 = .ok (.aload_n 0, 1) := by decide +kernel
theorem dX9_drawn_59 : decode cX9_drawn 59 = .ok (.getfield 58, 3) := by decide +kernel
theorem dX9_drawn_62 : decode cX9_drawn 62 = .ok (.irem, 1) := by decide +kernel
theorem dX9_drawn_63 : decode cX9_drawn 63 = .ok (.istore 5, 2) := by decide +kernel
theorem dX9_drawn_65 : decode cX9_drawn 65 = .ok (.iload_n 1, 1) := by decide +kernel
theorem dX9_drawn_66 : decode cX9_drawn 66 = .ok (.iload 4, 2) := by decide +kernel
theorem dX9_drawn_68 : decode cX9_drawn 68 = .ok (.iconst 1, 1) := by decide +kernel
theorem dX9_drawn_69 : decode cX9_drawn 69 = .ok (.invokestatic 195, 3) := by decide +kernel
theorem dX9_drawn_72 : decode cX9_drawn 72 = .ok (.aload_n 0, 1) := by decide +kernel
theorem dX9_drawn_73 : decode cX9_drawn 73 = .ok (.getfield 58, 3) := by decide +kernel
theorem dX9_drawn_76 : decode cX9_drawn 76 = .ok (.irem, 1) := by decide +kernel
theorem dX9_drawn_77 : decode cX9_drawn 77 = .ok (.istore 6, 2) := by decide +kernel
theorem dX9_drawn_79 : decode cX9_drawn 79 = .ok (.iconst 1, 1) := by decide +kernel
theorem dX9_drawn_80 : decode cX9_drawn 80 = .ok (.iload_n 1, 1) := by decide +kernel
theorem dX9_drawn_81 : decode cX9_drawn 81 = .ok (.iload 4, 2) := by decide +kernel
theorem dX9_drawn_83 : decode cX9_drawn 83 = .ok (.iconst 2, 1) := by decide +kernel
theorem dX9_drawn_84 : decode cX9_drawn 84 = .ok (.invokestatic 195, 3) := by decide +kernel
theorem dX9_drawn_87 : decode cX9_drawn 87 = .ok (.bipush 20, 2) := by decide +kernel
theorem dX9_drawn_89 : decode cX9_drawn 89 = .ok (.irem, 1) := by decide +kernel
theorem dX9_drawn_90 : decode cX9_drawn 90 = .ok (.iadd, 1) := by decide +kernel
theorem dX9_drawn_91 : decode cX9_drawn 91 = .ok (.istore 7, 2) := by decide +kernel
theorem dX9_drawn_93 : decode cX9_drawn 93 = .ok (.iconst 1, 1) := by decide +kernel
theorem dX9_drawn_94 : decode cX9_drawn 94 = .ok (.iload_n 1, 1) := by decide +kernel
theorem dX9_drawn_95 : decode cX9_drawn 95 = .ok (.iload 4, 2) := by decide +kernel
theorem dX9_drawn_97 : decode cX9_drawn 97 = .ok (.iconst 3, 1) := by decide +kernel
theorem dX9_drawn_98 : decode cX9_drawn 98 = .ok (.invokestatic 195, 3) := by decide +kernel
theorem dX9_drawn_101 : decode cX9_drawn 101 = .ok (.bipush 30, 2) := by decide +kernel
theorem dX9_drawn_103 : decode cX9_drawn 103 = .ok (.irem, 1) := by decide +kernel
theorem dX9_drawn_104 : decode cX9_drawn 104 = .ok (.iadd, 1) := by decide +kernel
theorem dX9_drawn_105 : decode cX9_drawn 105 = .ok (.istore 8, 2) := by decide +kernel
theorem dX9_drawn_107 : decode cX9_drawn 107 = .ok (.aload_n 0, 1) := by decide +kernel
theorem dX9_drawn_108 : decode cX9_drawn 108 = .ok (.iload 5, 2) := by decide +kernel
theorem dX9_drawn_110 : decode cX9_drawn 110 = .ok (.iload 6, 2) := by decide +kernel
theorem dX9_drawn_112 : decode cX9_drawn 112 = .ok (.iload 7, 2) := by decide +kernel
theorem dX9_drawn_114 : decode cX9_drawn 114 = .ok (.iload 8, 2) := by decide +kernel
theorem dX9_drawn_116 : decode cX9_drawn 116 = .ok (.invokevirtual 120, 3) := by decide +kernel
theorem dX9_drawn_119 : decode cX9_drawn 119 = .ok (.ifCond .eq 42, 3) := by decide +kernel
theorem dX9_drawn_122 : decode cX9_drawn 122 = .ok (.aload_n 0, 1) := by decide +kernel
theorem dX9_drawn_123 : decode cX9_drawn 123 = .ok (.iload 5, 2) := by decide +kernel
theorem dX9_drawn_125 : decode cX9_drawn 125 = .ok (.iload 6, 2) := by decide +kernel
theorem dX9_drawn_127 : decode cX9_drawn 127 = .ok (.iload 7, 2) := by decide +kernel
theorem dX9_drawn_129 : decode cX9_drawn 129 = .ok (.iload 8, 2) := by decide +kernel
theorem dX9_drawn_131 : decode cX9_drawn 131 = .ok (.invokevirtual 124, 3) := by decide +kernel
theorem dX9_drawn_134 : decode cX9_drawn 134 = .ok (.ifCond .eq 27, 3) := by decide +kernel
theorem dX9_drawn_137 : decode cX9_drawn 137 = .ok (.aload_n 0, 1) := by decide +kernel
theorem dX9_drawn_138 : decode cX9_drawn 138 = .ok (.getfield 19, 3) := by decide +kernel
theorem dX9_drawn_141 : decode cX9_drawn 141 = .ok (.bipush 12, 2) := by decide +kernel
theorem dX9_drawn_143 : decode cX9_drawn 143 = .ok (.iaload, 1) := by decide +kernel
theorem dX9_drawn_144 : decode cX9_drawn 144 = .ok (.bipush 8, 2) := by decide +kernel
theorem dX9_drawn_146 : decode cX9_drawn 146 = .ok (.if_icmp .ge 15, 3) := by decide +kernel
theorem dX9_drawn_149 : decode cX9_drawn 149 = .ok (.aload_n 0, 1) := by decide +kernel
theorem dX9_drawn_150 : decode cX9_drawn 150 = .ok (.iload 5, 2) := by decide +kernel
theorem dX9_drawn_152 : decode cX9_drawn 152 = .ok (.iload 6, 2) := by decide +kernel
theorem dX9_drawn_154 : decode cX9_drawn 154 = .ok (.iload 7, 2) := by decide +kernel
theorem dX9_drawn_156 : decode cX9_drawn 156 = .ok (.iload 8, 2) := by decide +kernel
theorem dX9_drawn_158 : decode cX9_drawn 158 = .ok (.invokevirtual 130, 3) := by decide +kernel
theorem dX9_drawn_161 : decode cX9_drawn 161 = .ok (.aload_n 0, 1) := by decide +kernel
theorem dX9_drawn_162 : decode cX9_drawn 162 = .ok (.invokevirtual 153, 3) := by decide +kernel
theorem dX9_drawn_165 : decode cX9_drawn 165 = .ok (.iinc 4 1, 3) := by decide +kernel
theorem dX9_drawn_168 : decode cX9_drawn 168 = .ok (.goto (-123), 3) := by decide +kernel
theorem dX9_drawn_171 : decode cX9_drawn 171 = .ok (.iconst 0, 1) := by decide +kernel
theorem dX9_drawn_172 : decode cX9_drawn 172 = .ok (.istore 4, 2) := by decide +kernel
theorem dX9_drawn_174 : decode cX9_drawn 174 = .ok (.iconst 0, 1) := by decide +kernel
theorem dX9_drawn_175 : decode cX9_drawn 175 = .ok (.istore 5, 2) := by decide +kernel
theorem dX9_drawn_177 : decode cX9_drawn 177 = .ok (.iload 5, 2) := by decide +kernel
theorem dX9_drawn_179 : decode cX9_drawn 179 = .ok (.aload_n 0, 1) := by decide +kernel
theorem dX9_drawn_180 : decode cX9_drawn 180 = .ok (.getfield 58, 3) := by decide +kernel
theorem dX9_drawn_183 : decode cX9_drawn 183 = .ok (.if_icmp .ge 24, 3) := by decide +kernel
theorem dX9_drawn_186 : decode cX9_drawn 186 = .ok (.iload 4, 2) := by decide +kernel
theorem dX9_drawn_188 : decode cX9_drawn 188 = .ok (.aload_n 0, 1) := by decide +kernel
theorem dX9_drawn_189 : decode cX9_drawn 189 = .ok (.getfield 19, 3) := by decide +kernel
theorem dX9_drawn_192 : decode cX9_drawn 192 = .ok (.bipush 6, 2) := by decide +kernel
theorem dX9_drawn_194 : decode cX9_drawn 194 = .ok (.iload 5, 2) := by decide +kernel
theorem dX9_drawn_196 : decode cX9_drawn 196 = .ok (.iadd, 1) := by decide +kernel
theorem dX9_drawn_197 : decode cX9_drawn 197 = .ok (.iaload, 1) := by decide +kernel
theorem dX9_drawn_198 : decode cX9_drawn 198 = .ok (.iadd, 1) := by decide +kernel
theorem dX9_drawn_199 : decode cX9_drawn 199 = .ok (.istore 4, 2) := by decide +kernel
theorem dX9_drawn_201 : decode cX9_drawn 201 = .ok (.iinc 5 1, 3) := by decide +kernel
theorem dX9_drawn_204 : decode cX9_drawn 204 = .ok (.goto (-27), 3) := by decide +kernel
theorem dX9_drawn_207 : decode cX9_drawn 207 = .ok (.iload_n 3, 1) := by decide +kernel
theorem dX9_drawn_208 : decode cX9_drawn 208 = .ok (.ifCond .ne 10, 3) := by decide +kernel
theorem dX9_drawn_211 : decode cX9_drawn 211 = .ok (.aload_n 0, 1) := by decide +kernel
theorem dX9_drawn_212 : decode cX9_drawn 212 = .ok (.invokevirtual 156, 3) := by decide +kernel
theorem dX9_drawn_215 : decode cX9_drawn 215 = .ok (.goto 5, 3) := by decide +kernel
theorem dX9_drawn_218 : decode cX9_drawn 218 = .ok (.iload 4, 2) := by decide +kernel
theorem dX9_drawn_220 : decode cX9_drawn 220 = .ok (.istore 5, 2) := by decide +kernel
theorem dX9_drawn_222 : decode cX9_drawn 222 = .ok (.aload_n 0, 1) := by decide +kernel
theorem dX9_drawn_223 : decode cX9_drawn 223 = .ok (.iconst 0, 1) := by decide +kernel
theorem dX9_drawn_224 : decode cX9_drawn 224 = .ok (.invokevirtual 159, 3) := by decide +kernel
theorem dX9_drawn_227 : decode cX9_drawn 227 = .ok (.iload 5, 2) := by decide +kernel
theorem dX9_drawn_229 : decode cX9_drawn 229 = .ok (.ireturn, 1) := by decide +kernel
theorem dX9_keep_0 : decode cX9_keep 0 = .ok (.aload_n 0, 1) := by decide +kernel
theorem dX9_keep_1 : decode cX9_keep 1 = .ok (.iconst 0, 1) := by decide +kernel
theorem dX9_keep_2 : decode cX9_keep 2 = .ok (.putfield 68, 3) := by decide +kernel
theorem dX9_keep_5 : decode cX9_keep 5 = .ok (.aload_n 0, 1) := by decide +kernel
theorem dX9_keep_6 : decode cX9_keep 6 = .ok (.getfield 95, 3) := by decide +kernel
theorem dX9_keep_9 : decode cX9_keep 9 = .ok (.iconst 2, 1) := by decide +kernel
theorem dX9_keep_10 : decode cX9_keep 10 = .ok (.if_icmp .ne 6, 3) := by decide +kernel
theorem dX9_keep_13 : decode cX9_keep 13 = .ok (.bipush (-3), 2) := by decide +kernel
theorem dX9_keep_15 : decode cX9_keep 15 = .ok (.ireturn, 1) := by decide +kernel
theorem dX9_keep_16 : decode cX9_keep 16 = .ok (.iconst 0, 1) := by decide +kernel
theorem dX9_keep_17 : decode cX9_keep 17 = .ok (.istore_n 1, 1) := by decide +kernel
theorem dX9_keep_18 : decode cX9_keep 18 = .ok (.iload_n 1, 1) := by decide +kernel
theorem dX9_keep_19 : decode cX9_keep 19 = .ok (.bipush 46, 2) := by decide +kernel
theorem dX9_keep_21 : decode cX9_keep 21 = .ok (.if_icmp .ge 29, 3) := by decide +kernel
theorem dX9_keep_24 : decode cX9_keep 24 = .ok (.aload_n 0, 1) := by decide +kernel
theorem dX9_keep_25 : decode cX9_keep 25 = .ok (.getfield 28, 3) := by decide +kernel
theorem dX9_keep_28 : decode cX9_keep 28 = .ok (.bipush 46, 2) := by decide +kernel
theorem dX9_keep_30 : decode cX9_keep 30 = .ok (.aload_n 0, 1) := by decide +kernel
theorem dX9_keep_31 : decode cX9_keep 31 = .ok (.getfield 95, 3) := by decide +kernel
theorem dX9_keep_34 : decode cX9_keep 34 = .ok (.imul, 1) := by decide +kernel
theorem dX9_keep_35 : decode cX9_keep 35 = .ok (.iload_n 1, 1) := by decide +kernel
theorem dX9_keep_36 : decode cX9_keep 36 = .ok (.iadd, 1) := by decide +kernel
theorem dX9_keep_37 : decode cX9_keep 37 = .ok (.aload_n 0, 1) := by decide +kernel
theorem dX9_keep_38 : decode cX9_keep 38 = .ok (.getfield 19, 3) := by decide +kernel
theorem dX9_keep_41 : decode cX9_keep 41 = .ok (.iload_n 1, 1) := by decide +kernel
theorem dX9_keep_42 : decode cX9_keep 42 = .ok (.iaload, 1) := by decide +kernel
theorem dX9_keep_43 : decode cX9_keep 43 = .ok (.iastore, 1) := by decide +kernel
theorem dX9_keep_44 : decode cX9_keep 44 = .ok (.iinc 1 1, 3) := by decide +kernel
theorem dX9_keep_47 : decode cX9_keep 47 = .ok (.goto (-29), 3) := by decide +kernel
theorem dX9_keep_50 : decode cX9_keep 50 = .ok (.aload_n 0, 1) := by decide +kernel
theorem dX9_keep_51 : decode cX9_keep 51 = .ok (.dup, 1) := by decide +kernel
theorem dX9_keep_52 : decode cX9_keep 52 = .ok (.getfield 95, 3) := by decide +kernel
theorem dX9_keep_55 : decode cX9_keep 55 = .ok (.iconst 1, 1) := by decide +kernel
theorem dX9_keep_56 : decode cX9_keep 56 = .ok (.iadd, 1) := by decide +kernel
theorem dX9_keep_57 : decode cX9_keep 57 = .ok (.putfield 95, 3) := by decide +kernel
theorem dX9_keep_60 : decode cX9_keep 60 = .ok (.aload_n 0, 1) := by decide +kernel
theorem dX9_keep_61 : decode cX9_keep 61 = .ok (.getfield 95, 3) := by decide +kernel
theorem dX9_keep_64 : decode cX9_keep 64 = .ok (.ireturn, 1) := by decide +kernel
theorem dX9_back_0 : decode cX9_back 0 = .ok (.aload_n 0, 1) := by decide +kernel
theorem dX9_back_1 : decode cX9_back 1 = .ok (.iconst 0, 1) := by decide +kernel
theorem dX9_back_2 : decode cX9_back 2 = .ok (.putfield 68, 3) := by decide +kernel
theorem dX9_back_5 : decode cX9_back 5 = .ok (.aload_n 0, 1) := by decide +kernel
theorem dX9_back_6 : decode cX9_back 6 = .ok (.getfield 95, 3) := by decide +kernel
theorem dX9_back_9 : decode cX9_back 9 = .ok (.ifCond .ne 6, 3) := by decide +kernel
theorem dX9_back_12 : decode cX9_back 12 = .ok (.bipush (-2), 2) := by decide +kernel
theorem dX9_back_14 : decode cX9_back 14 = .ok (.ireturn, 1) := by decide +kernel
theorem dX9_back_15 : decode cX9_back 15 = .ok (.aload_n 0, 1) := by decide +kernel
theorem dX9_back_16 : decode cX9_back 16 = .ok (.dup, 1) := by decide +kernel
theorem dX9_back_17 : decode cX9_back 17 = .ok (.getfield 95, 3) := by decide +kernel
theorem dX9_back_20 : decode cX9_back 20 = .ok (.iconst 1, 1) := by decide +kernel
theorem dX9_back_21 : decode cX9_back 21 = .ok (.isub, 1) := by decide +kernel
theorem dX9_back_22 : decode cX9_back 22 = .ok (.putfield 95, 3) := by decide +kernel
theorem dX9_back_25 : decode cX9_back 25 = .ok (.iconst 0, 1) := by decide +kernel
theorem dX9_back_26 : decode cX9_back 26 = .ok (.istore_n 1, 1) := by decide +kernel
theorem dX9_back_27 : decode cX9_back 27 = .ok (.iload_n 1, 1) := by decide +kernel
theorem dX9_back_28 : decode cX9_back 28 = .ok (.bipush 46, 2) := by decide +kernel
theorem dX9_back_30 : decode cX9_back 30 = .ok (.if_icmp .ge 29, 3) := by decide +kernel
theorem dX9_back_33 : decode cX9_back 33 = .ok (.aload_n 0, 1) := by decide +kernel
theorem dX9_back_34 : decode cX9_back 34 = .ok (.getfield 19, 3) := by decide +kernel
theorem dX9_back_37 : decode cX9_back 37 = .ok (.iload_n 1, 1) := by decide +kernel
theorem dX9_back_38 : decode cX9_back 38 = .ok (.aload_n 0, 1) := by decide +kernel
theorem dX9_back_39 : decode cX9_back 39 = .ok (.getfield 28, 3) := by decide +kernel
theorem dX9_back_42 : decode cX9_back 42 = .ok (.bipush 46, 2) := by decide +kernel
theorem dX9_back_44 : decode cX9_back 44 = .ok (.aload_n 0, 1) := by decide +kernel
theorem dX9_back_45 : decode cX9_back 45 = .ok (.getfield 95, 3) := by decide +kernel
theorem dX9_back_48 : decode cX9_back 48 = .ok (.imul, 1) := by decide +kernel
theorem dX9_back_49 : decode cX9_back 49 = .ok (.iload_n 1, 1) := by decide +kernel
theorem dX9_back_50 : decode cX9_back 50 = .ok (.iadd, 1) := by decide +kernel
theorem dX9_back_51 : decode cX9_back 51 = .ok (.iaload, 1) := by decide +kernel
theorem dX9_back_52 : decode cX9_back 52 = .ok (.iastore, 1) := by decide +kernel
theorem dX9_back_53 : decode cX9_back 53 = .ok (.iinc 1 1, 3) := by decide +kernel
theorem dX9_back_56 : decode cX9_back 56 = .ok (.goto (-29), 3) := by decide +kernel
theorem dX9_back_59 : decode cX9_back 59 = .ok (.aload_n 0, 1) := by decide +kernel
theorem dX9_back_60 : decode cX9_back 60 = .ok (.iconst 0, 1) := by decide +kernel
theorem dX9_back_61 : decode cX9_back 61 = .ok (.putfield 92, 3) := by decide +kernel
theorem dX9_back_64 : decode cX9_back 64 = .ok (.aload_n 0, 1) := by decide +kernel
theorem dX9_back_65 : decode cX9_back 65 = .ok (.getfield 95, 3) := by decide +kernel
theorem dX9_back_68 : decode cX9_back 68 = .ok (.ireturn, 1) := by decide +kernel
theorem dX9_count_0 : decode cX9_count 0 = .ok (.aload_n 0, 1) := by decide +kernel
theorem dX9_count_1 : decode cX9_count 1 = .ok (.iconst 0, 1) := by decide +kernel
theorem dX9_count_2 : decode cX9_count 2 = .ok (.putfield 68, 3) := by decide +kernel
theorem dX9_count_5 : decode cX9_count 5 = .ok (.iload_n 1, 1) := by decide +kernel
theorem dX9_count_6 : decode cX9_count 6 = .ok (.ifCond .ne 10, 3) := by decide +kernel
theorem dX9_count_9 : decode cX9_count 9 = .ok (.aload_n 0, 1) := by decide +kernel
theorem dX9_count_10 : decode cX9_count 10 = .ok (.getfield 58, 3) := by decide +kernel
theorem dX9_count_13 : decode cX9_count 13 = .ok (.goto 83, 3) := by decide +kernel
theorem dX9_count_16 : decode cX9_count 16 = .ok (.iload_n 1, 1) := by decide +kernel
theorem dX9_count_17 : decode cX9_count 17 = .ok (.iconst 1, 1) := by decide +kernel
theorem dX9_count_18 : decode cX9_count 18 = .ok (.if_icmp .ne 13, 3) := by decide +kernel
theorem dX9_count_21 : decode cX9_count 21 = .ok (.aload_n 0, 1) := by decide +kernel
theorem dX9_count_22 : decode cX9_count 22 = .ok (.getfield 19, 3) := by decide +kernel
theorem dX9_count_25 : decode cX9_count 25 = .ok (.bipush 12, 2) := by decide +kernel
theorem dX9_count_27 : decode cX9_count 27 = .ok (.iaload, 1) := by decide +kernel
theorem dX9_count_28 : decode cX9_count 28 = .ok (.goto 68, 3) := by decide +kernel
theorem dX9_count_31 : decode cX9_count 31 = .ok (.iload_n 1, 1) := by decide +kernel
theorem dX9_count_32 : decode cX9_count 32 = .ok (.iconst 2, 1) := by decide +kernel
theorem dX9_count_33 : decode cX9_count 33 = .ok (.if_icmp .ne 10, 3) := by decide +kernel
theorem dX9_count_36 : decode cX9_count 36 = .ok (.aload_n 0, 1) := by decide +kernel
theorem dX9_count_37 : decode cX9_count 37 = .ok (.getfield 98, 3) := by decide +kernel
theorem dX9_count_40 : decode cX9_count 40 = .ok (.goto 56, 3) := by decide +kernel
theorem dX9_count_43 : decode cX9_count 43 = .ok (.iload_n 1, 1) := by decide +kernel
theorem dX9_count_44 : decode cX9_count 44 = .ok (.iconst 3, 1) := by decide +kernel
theorem dX9_count_45 : decode cX9_count 45 = .ok (.if_icmp .ne 10, 3) := by decide +kernel
theorem dX9_count_48 : decode cX9_count 48 = .ok (.aload_n 0, 1) := by decide +kernel
theorem dX9_count_49 : decode cX9_count 49 = .ok (.getfield 92, 3) := by decide +kernel
theorem dX9_count_52 : decode cX9_count 52 = .ok (.goto 44, 3) := by decide +kernel
theorem dX9_count_55 : decode cX9_count 55 = .ok (.iload_n 1, 1) := by decide +kernel
theorem dX9_count_56 : decode cX9_count 56 = .ok (.iconst 4, 1) := by decide +kernel
theorem dX9_count_57 : decode cX9_count 57 = .ok (.if_icmp .ne 10, 3) := by decide +kernel
theorem dX9_count_60 : decode cX9_count 60 = .ok (.aload_n 0, 1) := by decide +kernel
theorem dX9_count_61 : decode cX9_count 61 = .ok (.getfield 95, 3) := by decide +kernel
theorem dX9_count_64 : decode cX9_count 64 = .ok (.goto 32, 3) := by decide +kernel
theorem dX9_count_67 : decode cX9_count 67 = .ok (.iload_n 1, 1) := by decide +kernel
theorem dX9_count_68 : decode cX9_count 68 = .ok (.iconst 5, 1) := by decide +kernel
theorem dX9_count_69 : decode cX9_count 69 = .ok (.if_icmp .ne 10, 3) := by decide +kernel
theorem dX9_count_72 : decode cX9_count 72 = .ok (.aload_n 0, 1) := by decide +kernel
theorem dX9_count_73 : decode cX9_count 73 = .ok (.getfield 75, 3) := by decide +kernel
theorem dX9_count_76 : decode cX9_count 76 = .ok (.goto 20, 3) := by decide +kernel
theorem dX9_count_79 : decode cX9_count 79 = .ok (.iload_n 1, 1) := by decide +kernel
theorem dX9_count_80 : decode cX9_count 80 = .ok (.bipush 6, 2) := by decide +kernel
theorem dX9_count_82 : decode cX9_count 82 = .ok (.if_icmp .ne 13, 3) := by decide +kernel
theorem dX9_count_85 : decode cX9_count 85 = .ok (.aload_n 0, 1) := by decide +kernel
theorem dX9_count_86 : decode cX9_count 86 = .ok (.getfield 19, 3) := by decide +kernel
theorem dX9_count_89 : decode cX9_count 89 = .ok (.bipush 45, 2) := by decide +kernel
theorem dX9_count_91 : decode cX9_count 91 = .ok (.iaload, 1) := by decide +kernel
theorem dX9_count_92 : decode cX9_count 92 = .ok (.goto 4, 3) := by decide +kernel
theorem dX9_count_95 : decode cX9_count 95 = .ok (.iconst (-1), 1) := by decide +kernel
theorem dX9_count_96 : decode cX9_count 96 = .ok (.ireturn, 1) := by decide +kernel
theorem dJ9_max_7cf53_0 : decode cJ9_max_7cf53 0 = .ok (.iload_n 0, 1) := by decide +kernel
theorem dJ9_max_7cf53_1 : decode cJ9_max_7cf53 1 = .ok (.iload_n 1, 1) := by decide +kernel
theorem dJ9_max_7cf53_2 : decode cJ9_max_7cf53 2 = .ok (.if_icmp .lt 7, 3) := by decide +kernel
theorem dJ9_max_7cf53_5 : decode cJ9_max_7cf53 5 = .ok (.iload_n 0, 1) := by decide +kernel
theorem dJ9_max_7cf53_6 : decode cJ9_max_7cf53 6 = .ok (.goto 4, 3) := by decide +kernel
theorem dJ9_max_7cf53_9 : decode cJ9_max_7cf53 9 = .ok (.iload_n 1, 1) := by decide +kernel
theorem dJ9_max_7cf53_10 : decode cJ9_max_7cf53 10 = .ok (.ireturn, 1) := by decide +kernel
theorem dJ9_min_7cf53_0 : decode cJ9_min_7cf53 0 = .ok (.iload_n 0, 1) := by decide +kernel
theorem dJ9_min_7cf53_1 : decode cJ9_min_7cf53 1 = .ok (.iload_n 1, 1) := by decide +kernel
theorem dJ9_min_7cf53_2 : decode cJ9_min_7cf53 2 = .ok (.if_icmp .gt 7, 3) := by decide +kernel
theorem dJ9_min_7cf53_5 : decode cJ9_min_7cf53 5 = .ok (.iload_n 0, 1) := by decide +kernel
theorem dJ9_min_7cf53_6 : decode cJ9_min_7cf53 6 = .ok (.goto 4, 3) := by decide +kernel
theorem dJ9_min_7cf53_9 : decode cJ9_min_7cf53 9 = .ok (.iload_n 1, 1) := by decide +kernel
theorem dJ9_min_7cf53_10 : decode cJ9_min_7cf53 10 = .ok (.ireturn, 1) := by decide +kernel
theorem dL_law_0 : decode cL_law 0 = .ok (.new 7, 3) := by decide +kernel
theorem dL_law_3 : decode cL_law 3 = .ok (.dup, 1) := by decide +kernel
theorem dL_law_4 : decode cL_law 4 = .ok (.invokespecial 9, 3) := by decide +kernel
theorem dL_law_7 : decode cL_law 7 = .ok (.astore_n 1, 1) := by decide +kernel
theorem dL_law_8 : decode cL_law 8 = .ok (.new 10, 3) := by decide +kernel
theorem dL_law_11 : decode cL_law 11 = .ok (.dup, 1) := by decide +kernel
theorem dL_law_12 : decode cL_law 12 = .ok (.invokespecial 12, 3) := by decide +kernel
theorem dL_law_15 : decode cL_law 15 = .ok (.astore_n 2, 1) := by decide +kernel
theorem dL_law_16 : decode cL_law 16 = .ok (.iconst 0, 1) := by decide +kernel
theorem dL_law_17 : decode cL_law 17 = .ok (.istore_n 3, 1) := by decide +kernel
theorem dL_law_18 : decode cL_law 18 = .ok (.iload_n 3, 1) := by decide +kernel
theorem dL_law_19 : decode cL_law 19 = .ok (.aload_n 0, 1) := by decide +kernel
theorem dL_law_20 : decode cL_law 20 = .ok (.arraylength, 1) := by decide +kernel
theorem dL_law_21 : decode cL_law 21 = .ok (.iconst 5, 1) := by decide +kernel
theorem dL_law_22 : decode cL_law 22 = .ok (.isub, 1) := by decide +kernel
theorem dL_law_23 : decode cL_law 23 = .ok (.if_icmp .gt 902, 3) := by decide +kernel
theorem dL_law_26 : decode cL_law 26 = .ok (.aload_n 0, 1) := by decide +kernel
theorem dL_law_27 : decode cL_law 27 = .ok (.iload_n 3, 1) := by decide +kernel
theorem dL_law_28 : decode cL_law 28 = .ok (.iaload, 1) := by decide +kernel
theorem dL_law_29 : decode cL_law 29 = .ok (.bipush 31, 2) := by decide +kernel
theorem dL_law_31 : decode cL_law 31 = .ok (.iand, 1) := by decide +kernel
theorem dL_law_32 : decode cL_law 32 = .ok (.tableswitch 887 0 24 #[116, 179, 192, 205, 218, 251, 284, 337, 390, 403, 416, 439, 482, 551, 564, 597, 630, 643, 676, 709, 742, 795, 838, 851, 864], 116) := by decide +kernel
theorem dL_law_148 : decode cL_law 148 = .ok (.aload_n 1, 1) := by decide +kernel
theorem dL_law_149 : decode cL_law 149 = .ok (.aload_n 0, 1) := by decide +kernel
theorem dL_law_150 : decode cL_law 150 = .ok (.iload_n 3, 1) := by decide +kernel
theorem dL_law_151 : decode cL_law 151 = .ok (.iconst 1, 1) := by decide +kernel
theorem dL_law_152 : decode cL_law 152 = .ok (.iadd, 1) := by decide +kernel
theorem dL_law_153 : decode cL_law 153 = .ok (.iaload, 1) := by decide +kernel
theorem dL_law_154 : decode cL_law 154 = .ok (.aload_n 0, 1) := by decide +kernel
theorem dL_law_155 : decode cL_law 155 = .ok (.iload_n 3, 1) := by decide +kernel
theorem dL_law_156 : decode cL_law 156 = .ok (.iconst 2, 1) := by decide +kernel
theorem dL_law_157 : decode cL_law 157 = .ok (.iadd, 1) := by decide +kernel
theorem dL_law_158 : decode cL_law 158 = .ok (.iaload, 1) := by decide +kernel
theorem dL_law_159 : decode cL_law 159 = .ok (.i2l, 1) := by decide +kernel
theorem dL_law_160 : decode cL_law 160 = .ok (.bipush 32, 2) := by decide +kernel
theorem dL_law_162 : decode cL_law 162 = .ok (.lshl, 1) := by decide +kernel
theorem dL_law_163 : decode cL_law 163 = .ok (.aload_n 0, 1) := by decide +kernel
theorem dL_law_164 : decode cL_law 164 = .ok (.iload_n 3, 1) := by decide +kernel
theorem dL_law_165 : decode cL_law 165 = .ok (.iconst 3, 1) := by decide +kernel
theorem dL_law_166 : decode cL_law 166 = .ok (.iadd, 1) := by decide +kernel
theorem dL_law_167 : decode cL_law 167 = .ok (.iaload, 1) := by decide +kernel
theorem dL_law_168 : decode cL_law 168 = .ok (.i2l, 1) := by decide +kernel
theorem dL_law_169 : decode cL_law 169 = .ok (.ldc2_w 13, 3) := by decide +kernel
theorem dL_law_172 : decode cL_law 172 = .ok (.land, 1) := by decide +kernel
theorem dL_law_173 : decode cL_law 173 = .ok (.lor, 1) := by decide +kernel
theorem dL_law_174 : decode cL_law 174 = .ok (.invokevirtual 15, 3) := by decide +kernel
theorem dL_law_177 : decode cL_law 177 = .ok (.aload_n 2, 1) := by decide +kernel
theorem dL_law_178 : decode cL_law 178 = .ok (.aload_n 0, 1) := by decide +kernel
theorem dL_law_179 : decode cL_law 179 = .ok (.iload_n 3, 1) := by decide +kernel
theorem dL_law_180 : decode cL_law 180 = .ok (.iconst 1, 1) := by decide +kernel
theorem dL_law_181 : decode cL_law 181 = .ok (.iadd, 1) := by decide +kernel
theorem dL_law_182 : decode cL_law 182 = .ok (.iaload, 1) := by decide +kernel
theorem dL_law_183 : decode cL_law 183 = .ok (.aload_n 0, 1) := by decide +kernel
theorem dL_law_184 : decode cL_law 184 = .ok (.iload_n 3, 1) := by decide +kernel
theorem dL_law_185 : decode cL_law 185 = .ok (.iconst 2, 1) := by decide +kernel
theorem dL_law_186 : decode cL_law 186 = .ok (.iadd, 1) := by decide +kernel
theorem dL_law_187 : decode cL_law 187 = .ok (.iaload, 1) := by decide +kernel
theorem dL_law_188 : decode cL_law 188 = .ok (.i2l, 1) := by decide +kernel
theorem dL_law_189 : decode cL_law 189 = .ok (.bipush 32, 2) := by decide +kernel
theorem dL_law_191 : decode cL_law 191 = .ok (.lshl, 1) := by decide +kernel
theorem dL_law_192 : decode cL_law 192 = .ok (.aload_n 0, 1) := by decide +kernel
theorem dL_law_193 : decode cL_law 193 = .ok (.iload_n 3, 1) := by decide +kernel
theorem dL_law_194 : decode cL_law 194 = .ok (.iconst 3, 1) := by decide +kernel
theorem dL_law_195 : decode cL_law 195 = .ok (.iadd, 1) := by decide +kernel
theorem dL_law_196 : decode cL_law 196 = .ok (.iaload, 1) := by decide +kernel
theorem dL_law_197 : decode cL_law 197 = .ok (.i2l, 1) := by decide +kernel
theorem dL_law_198 : decode cL_law 198 = .ok (.ldc2_w 13, 3) := by decide +kernel
theorem dL_law_201 : decode cL_law 201 = .ok (.land, 1) := by decide +kernel
theorem dL_law_202 : decode cL_law 202 = .ok (.lor, 1) := by decide +kernel
theorem dL_law_203 : decode cL_law 203 = .ok (.invokevirtual 19, 3) := by decide +kernel
theorem dL_law_206 : decode cL_law 206 = .ok (.if_icmp .eq 713, 3) := by decide +kernel
theorem dL_law_209 : decode cL_law 209 = .ok (.iconst 0, 1) := by decide +kernel
theorem dL_law_210 : decode cL_law 210 = .ok (.ireturn, 1) := by decide +kernel
theorem dL_law_211 : decode cL_law 211 = .ok (.aload_n 1, 1) := by decide +kernel
theorem dL_law_212 : decode cL_law 212 = .ok (.invokevirtual 20, 3) := by decide +kernel
theorem dL_law_215 : decode cL_law 215 = .ok (.aload_n 2, 1) := by decide +kernel
theorem dL_law_216 : decode cL_law 216 = .ok (.invokevirtual 24, 3) := by decide +kernel
theorem dL_law_219 : decode cL_law 219 = .ok (.if_icmp .eq 700, 3) := by decide +kernel
theorem dL_law_222 : decode cL_law 222 = .ok (.iconst 0, 1) := by decide +kernel
theorem dL_law_223 : decode cL_law 223 = .ok (.ireturn, 1) := by decide +kernel
theorem dL_law_224 : decode cL_law 224 = .ok (.aload_n 1, 1) := by decide +kernel
theorem dL_law_225 : decode cL_law 225 = .ok (.invokevirtual 25, 3) := by decide +kernel
theorem dL_law_228 : decode cL_law 228 = .ok (.aload_n 2, 1) := by decide +kernel
theorem dL_law_229 : decode cL_law 229 = .ok (.invokevirtual 28, 3) := by decide +kernel
theorem dL_law_232 : decode cL_law 232 = .ok (.if_icmp .eq 687, 3) := by decide +kernel
theorem dL_law_235 : decode cL_law 235 = .ok (.iconst 0, 1) := by decide +kernel
theorem dL_law_236 : decode cL_law 236 = .ok (.ireturn, 1) := by decide +kernel
theorem dL_law_237 : decode cL_law 237 = .ok (.aload_n 1, 1) := by decide +kernel
theorem dL_law_238 : decode cL_law 238 = .ok (.invokevirtual 29, 3) := by decide +kernel
theorem dL_law_241 : decode cL_law 241 = .ok (.aload_n 2, 1) := by decide +kernel
theorem dL_law_242 : decode cL_law 242 = .ok (.invokevirtual 32, 3) := by decide +kernel
theorem dL_law_245 : decode cL_law 245 = .ok (.if_icmp .eq 674, 3) := by decide +kernel
theorem dL_law_248 : decode cL_law 248 = .ok (.iconst 0, 1) := by decide +kernel
theorem dL_law_249 : decode cL_law 249 = .ok (.ireturn, 1) := by decide +kernel
theorem dL_law_250 : decode cL_law 250 = .ok (.aload_n 1, 1) := by decide +kernel
theorem dL_law_251 : decode cL_law 251 = .ok (.aload_n 0, 1) := by decide +kernel
theorem dL_law_252 : decode cL_law 252 = .ok (.iload_n 3, 1) := by decide +kernel
theorem dL_law_253 : decode cL_law 253 = .ok (.iconst 1, 1) := by decide +kernel
theorem dL_law_254 : decode cL_law 254 = .ok (.iadd, 1) := by decide +kernel
theorem dL_law_255 : decode cL_law 255 = .ok (.iaload, 1) := by decide +kernel
theorem dL_law_256 : decode cL_law 256 = .ok (.aload_n 0, 1) := by decide +kernel
theorem dL_law_257 : decode cL_law 257 = .ok (.iload_n 3, 1) := by decide +kernel
theorem dL_law_258 : decode cL_law 258 = .ok (.iconst 2, 1) := by decide +kernel
theorem dL_law_259 : decode cL_law 259 = .ok (.iadd, 1) := by decide +kernel
theorem dL_law_260 : decode cL_law 260 = .ok (.iaload, 1) := by decide +kernel
theorem dL_law_261 : decode cL_law 261 = .ok (.invokevirtual 33, 3) := by decide +kernel
theorem dL_law_264 : decode cL_law 264 = .ok (.aload_n 2, 1) := by decide +kernel
theorem dL_law_265 : decode cL_law 265 = .ok (.aload_n 0, 1) := by decide +kernel
theorem dL_law_266 : decode cL_law 266 = .ok (.iload_n 3, 1) := by decide +kernel
theorem dL_law_267 : decode cL_law 267 = .ok (.iconst 1, 1) := by decide +kernel
theorem dL_law_268 : decode cL_law 268 = .ok (.iadd, 1) := by decide +kernel
theorem dL_law_269 : decode cL_law 269 = .ok (.iaload, 1) := by decide +kernel
theorem dL_law_270 : decode cL_law 270 = .ok (.aload_n 0, 1) := by decide +kernel
theorem dL_law_271 : decode cL_law 271 = .ok (.iload_n 3, 1) := by decide +kernel
theorem dL_law_272 : decode cL_law 272 = .ok (.iconst 2, 1) := by decide +kernel
theorem dL_law_273 : decode cL_law 273 = .ok (.iadd, 1) := by decide +kernel
theorem dL_law_274 : decode cL_law 274 = .ok (.iaload, 1) := by decide +kernel
theorem dL_law_275 : decode cL_law 275 = .ok (.invokevirtual 37, 3) := by decide +kernel
theorem dL_law_278 : decode cL_law 278 = .ok (.if_icmp .eq 641, 3) := by decide +kernel
theorem dL_law_281 : decode cL_law 281 = .ok (.iconst 0, 1) := by decide +kernel
theorem dL_law_282 : decode cL_law 282 = .ok (.ireturn, 1) := by decide +kernel
theorem dL_law_283 : decode cL_law 283 = .ok (.aload_n 1, 1) := by decide +kernel
theorem dL_law_284 : decode cL_law 284 = .ok (.aload_n 0, 1) := by decide +kernel
theorem dL_law_285 : decode cL_law 285 = .ok (.iload_n 3, 1) := by decide +kernel
theorem dL_law_286 : decode cL_law 286 = .ok (.iconst 1, 1) := by decide +kernel
theorem dL_law_287 : decode cL_law 287 = .ok (.iadd, 1) := by decide +kernel
theorem dL_law_288 : decode cL_law 288 = .ok (.iaload, 1) := by decide +kernel
theorem dL_law_289 : decode cL_law 289 = .ok (.aload_n 0, 1) := by decide +kernel
theorem dL_law_290 : decode cL_law 290 = .ok (.iload_n 3, 1) := by decide +kernel
theorem dL_law_291 : decode cL_law 291 = .ok (.iconst 2, 1) := by decide +kernel
theorem dL_law_292 : decode cL_law 292 = .ok (.iadd, 1) := by decide +kernel
theorem dL_law_293 : decode cL_law 293 = .ok (.iaload, 1) := by decide +kernel
theorem dL_law_294 : decode cL_law 294 = .ok (.invokevirtual 38, 3) := by decide +kernel
theorem dL_law_297 : decode cL_law 297 = .ok (.aload_n 2, 1) := by decide +kernel
theorem dL_law_298 : decode cL_law 298 = .ok (.aload_n 0, 1) := by decide +kernel
theorem dL_law_299 : decode cL_law 299 = .ok (.iload_n 3, 1) := by decide +kernel
theorem dL_law_300 : decode cL_law 300 = .ok (.iconst 1, 1) := by decide +kernel
theorem dL_law_301 : decode cL_law 301 = .ok (.iadd, 1) := by decide +kernel
theorem dL_law_302 : decode cL_law 302 = .ok (.iaload, 1) := by decide +kernel
theorem dL_law_303 : decode cL_law 303 = .ok (.aload_n 0, 1) := by decide +kernel
theorem dL_law_304 : decode cL_law 304 = .ok (.iload_n 3, 1) := by decide +kernel
theorem dL_law_305 : decode cL_law 305 = .ok (.iconst 2, 1) := by decide +kernel
theorem dL_law_306 : decode cL_law 306 = .ok (.iadd, 1) := by decide +kernel
theorem dL_law_307 : decode cL_law 307 = .ok (.iaload, 1) := by decide +kernel
theorem dL_law_308 : decode cL_law 308 = .ok (.invokevirtual 41, 3) := by decide +kernel
theorem dL_law_311 : decode cL_law 311 = .ok (.if_icmp .eq 608, 3) := by decide +kernel
theorem dL_law_314 : decode cL_law 314 = .ok (.iconst 0, 1) := by decide +kernel
theorem dL_law_315 : decode cL_law 315 = .ok (.ireturn, 1) := by decide +kernel
theorem dL_law_316 : decode cL_law 316 = .ok (.aload_n 1, 1) := by decide +kernel
theorem dL_law_317 : decode cL_law 317 = .ok (.aload_n 0, 1) := by decide +kernel
theorem dL_law_318 : decode cL_law 318 = .ok (.iload_n 3, 1) := by decide +kernel
theorem dL_law_319 : decode cL_law 319 = .ok (.iconst 1, 1) := by decide +kernel
theorem dL_law_320 : decode cL_law 320 = .ok (.iadd, 1) := by decide +kernel
theorem dL_law_321 : decode cL_law 321 = .ok (.iaload, 1) := by decide +kernel
theorem dL_law_322 : decode cL_law 322 = .ok (.aload_n 0, 1) := by decide +kernel
theorem dL_law_323 : decode cL_law 323 = .ok (.iload_n 3, 1) := by decide +kernel
theorem dL_law_324 : decode cL_law 324 = .ok (.iconst 2, 1) := by decide +kernel
theorem dL_law_325 : decode cL_law 325 = .ok (.iadd, 1) := by decide +kernel
theorem dL_law_326 : decode cL_law 326 = .ok (.iaload, 1) := by decide +kernel
theorem dL_law_327 : decode cL_law 327 = .ok (.aload_n 0, 1) := by decide +kernel
theorem dL_law_328 : decode cL_law 328 = .ok (.iload_n 3, 1) := by decide +kernel
theorem dL_law_329 : decode cL_law 329 = .ok (.iconst 3, 1) := by decide +kernel
theorem dL_law_330 : decode cL_law 330 = .ok (.iadd, 1) := by decide +kernel
theorem dL_law_331 : decode cL_law 331 = .ok (.iaload, 1) := by decide +kernel
theorem dL_law_332 : decode cL_law 332 = .ok (.aload_n 0, 1) := by decide +kernel
theorem dL_law_333 : decode cL_law 333 = .ok (.iload_n 3, 1) := by decide +kernel
theorem dL_law_334 : decode cL_law 334 = .ok (.iconst 4, 1) := by decide +kernel
theorem dL_law_335 : decode cL_law 335 = .ok (.iadd, 1) := by decide +kernel
theorem dL_law_336 : decode cL_law 336 = .ok (.iaload, 1) := by decide +kernel
theorem dL_law_337 : decode cL_law 337 = .ok (.invokevirtual 42, 3) := by decide +kernel
theorem dL_law_340 : decode cL_law 340 = .ok (.aload_n 2, 1) := by decide +kernel
theorem dL_law_341 : decode cL_law 341 = .ok (.aload_n 0, 1) := by decide +kernel
theorem dL_law_342 : decode cL_law 342 = .ok (.iload_n 3, 1) := by decide +kernel
theorem dL_law_343 : decode cL_law 343 = .ok (.iconst 1, 1) := by decide +kernel
theorem dL_law_344 : decode cL_law 344 = .ok (.iadd, 1) := by decide +kernel
theorem dL_law_345 : decode cL_law 345 = .ok (.iaload, 1) := by decide +kernel
theorem dL_law_346 : decode cL_law 346 = .ok (.aload_n 0, 1) := by decide +kernel
theorem dL_law_347 : decode cL_law 347 = .ok (.iload_n 3, 1) := by decide +kernel
theorem dL_law_348 : decode cL_law 348 = .ok (.iconst 2, 1) := by decide +kernel
theorem dL_law_349 : decode cL_law 349 = .ok (.iadd, 1) := by decide +kernel
theorem dL_law_350 : decode cL_law 350 = .ok (.iaload, 1) := by decide +kernel
theorem dL_law_351 : decode cL_law 351 = .ok (.aload_n 0, 1) := by decide +kernel
theorem dL_law_352 : decode cL_law 352 = .ok (.iload_n 3, 1) := by decide +kernel
theorem dL_law_353 : decode cL_law 353 = .ok (.iconst 3, 1) := by decide +kernel
theorem dL_law_354 : decode cL_law 354 = .ok (.iadd, 1) := by decide +kernel
theorem dL_law_355 : decode cL_law 355 = .ok (.iaload, 1) := by decide +kernel
theorem dL_law_356 : decode cL_law 356 = .ok (.aload_n 0, 1) := by decide +kernel
theorem dL_law_357 : decode cL_law 357 = .ok (.iload_n 3, 1) := by decide +kernel
theorem dL_law_358 : decode cL_law 358 = .ok (.iconst 4, 1) := by decide +kernel
theorem dL_law_359 : decode cL_law 359 = .ok (.iadd, 1) := by decide +kernel
theorem dL_law_360 : decode cL_law 360 = .ok (.iaload, 1) := by decide +kernel
theorem dL_law_361 : decode cL_law 361 = .ok (.invokevirtual 46, 3) := by decide +kernel
theorem dL_law_364 : decode cL_law 364 = .ok (.if_icmp .eq 555, 3) := by decide +kernel
theorem dL_law_367 : decode cL_law 367 = .ok (.iconst 0, 1) := by decide +kernel
theorem dL_law_368 : decode cL_law 368 = .ok (.ireturn, 1) := by decide +kernel
theorem dL_law_369 : decode cL_law 369 = .ok (.aload_n 1, 1) := by decide +kernel
theorem dL_law_370 : decode cL_law 370 = .ok (.aload_n 0, 1) := by decide +kernel
theorem dL_law_371 : decode cL_law 371 = .ok (.iload_n 3, 1) := by decide +kernel
theorem dL_law_372 : decode cL_law 372 = .ok (.iconst 1, 1) := by decide +kernel
theorem dL_law_373 : decode cL_law 373 = .ok (.iadd, 1) := by decide +kernel
theorem dL_law_374 : decode cL_law 374 = .ok (.iaload, 1) := by decide +kernel
theorem dL_law_375 : decode cL_law 375 = .ok (.aload_n 0, 1) := by decide +kernel
theorem dL_law_376 : decode cL_law 376 = .ok (.iload_n 3, 1) := by decide +kernel
theorem dL_law_377 : decode cL_law 377 = .ok (.iconst 2, 1) := by decide +kernel
theorem dL_law_378 : decode cL_law 378 = .ok (.iadd, 1) := by decide +kernel
theorem dL_law_379 : decode cL_law 379 = .ok (.iaload, 1) := by decide +kernel
theorem dL_law_380 : decode cL_law 380 = .ok (.aload_n 0, 1) := by decide +kernel
theorem dL_law_381 : decode cL_law 381 = .ok (.iload_n 3, 1) := by decide +kernel
theorem dL_law_382 : decode cL_law 382 = .ok (.iconst 3, 1) := by decide +kernel
theorem dL_law_383 : decode cL_law 383 = .ok (.iadd, 1) := by decide +kernel
theorem dL_law_384 : decode cL_law 384 = .ok (.iaload, 1) := by decide +kernel
theorem dL_law_385 : decode cL_law 385 = .ok (.aload_n 0, 1) := by decide +kernel
theorem dL_law_386 : decode cL_law 386 = .ok (.iload_n 3, 1) := by decide +kernel
theorem dL_law_387 : decode cL_law 387 = .ok (.iconst 4, 1) := by decide +kernel
theorem dL_law_388 : decode cL_law 388 = .ok (.iadd, 1) := by decide +kernel
theorem dL_law_389 : decode cL_law 389 = .ok (.iaload, 1) := by decide +kernel
theorem dL_law_390 : decode cL_law 390 = .ok (.invokevirtual 47, 3) := by decide +kernel
theorem dL_law_393 : decode cL_law 393 = .ok (.aload_n 2, 1) := by decide +kernel
theorem dL_law_394 : decode cL_law 394 = .ok (.aload_n 0, 1) := by decide +kernel
theorem dL_law_395 : decode cL_law 395 = .ok (.iload_n 3, 1) := by decide +kernel
theorem dL_law_396 : decode cL_law 396 = .ok (.iconst 1, 1) := by decide +kernel
theorem dL_law_397 : decode cL_law 397 = .ok (.iadd, 1) := by decide +kernel
theorem dL_law_398 : decode cL_law 398 = .ok (.iaload, 1) := by decide +kernel
theorem dL_law_399 : decode cL_law 399 = .ok (.aload_n 0, 1) := by decide +kernel
theorem dL_law_400 : decode cL_law 400 = .ok (.iload_n 3, 1) := by decide +kernel
theorem dL_law_401 : decode cL_law 401 = .ok (.iconst 2, 1) := by decide +kernel
theorem dL_law_402 : decode cL_law 402 = .ok (.iadd, 1) := by decide +kernel
theorem dL_law_403 : decode cL_law 403 = .ok (.iaload, 1) := by decide +kernel
theorem dL_law_404 : decode cL_law 404 = .ok (.aload_n 0, 1) := by decide +kernel
theorem dL_law_405 : decode cL_law 405 = .ok (.iload_n 3, 1) := by decide +kernel
theorem dL_law_406 : decode cL_law 406 = .ok (.iconst 3, 1) := by decide +kernel
theorem dL_law_407 : decode cL_law 407 = .ok (.iadd, 1) := by decide +kernel
theorem dL_law_408 : decode cL_law 408 = .ok (.iaload, 1) := by decide +kernel
theorem dL_law_409 : decode cL_law 409 = .ok (.aload_n 0, 1) := by decide +kernel
theorem dL_law_410 : decode cL_law 410 = .ok (.iload_n 3, 1) := by decide +kernel
theorem dL_law_411 : decode cL_law 411 = .ok (.iconst 4, 1) := by decide +kernel
theorem dL_law_412 : decode cL_law 412 = .ok (.iadd, 1) := by decide +kernel
theorem dL_law_413 : decode cL_law 413 = .ok (.iaload, 1) := by decide +kernel
theorem dL_law_414 : decode cL_law 414 = .ok (.invokevirtual 50, 3) := by decide +kernel
theorem dL_law_417 : decode cL_law 417 = .ok (.if_icmp .eq 502, 3) := by decide +kernel
theorem dL_law_420 : decode cL_law 420 = .ok (.iconst 0, 1) := by decide +kernel
theorem dL_law_421 : decode cL_law 421 = .ok (.ireturn, 1) := by decide +kernel
theorem dL_law_422 : decode cL_law 422 = .ok (.aload_n 1, 1) := by decide +kernel
theorem dL_law_423 : decode cL_law 423 = .ok (.invokevirtual 51, 3) := by decide +kernel
theorem dL_law_426 : decode cL_law 426 = .ok (.aload_n 2, 1) := by decide +kernel
theorem dL_law_427 : decode cL_law 427 = .ok (.invokevirtual 54, 3) := by decide +kernel
theorem dL_law_430 : decode cL_law 430 = .ok (.if_icmp .eq 489, 3) := by decide +kernel
theorem dL_law_433 : decode cL_law 433 = .ok (.iconst 0, 1) := by decide +kernel
theorem dL_law_434 : decode cL_law 434 = .ok (.ireturn, 1) := by decide +kernel
theorem dL_law_435 : decode cL_law 435 = .ok (.aload_n 1, 1) := by decide +kernel
theorem dL_law_436 : decode cL_law 436 = .ok (.invokevirtual 55, 3) := by decide +kernel
theorem dL_law_439 : decode cL_law 439 = .ok (.aload_n 2, 1) := by decide +kernel
theorem dL_law_440 : decode cL_law 440 = .ok (.invokevirtual 58, 3) := by decide +kernel
theorem dL_law_443 : decode cL_law 443 = .ok (.if_icmp .eq 476, 3) := by decide +kernel
theorem dL_law_446 : decode cL_law 446 = .ok (.iconst 0, 1) := by decide +kernel
theorem dL_law_447 : decode cL_law 447 = .ok (.ireturn, 1) := by decide +kernel
theorem dL_law_448 : decode cL_law 448 = .ok (.aload_n 1, 1) := by decide +kernel
theorem dL_law_449 : decode cL_law 449 = .ok (.aload_n 0, 1) := by decide +kernel
theorem dL_law_450 : decode cL_law 450 = .ok (.iload_n 3, 1) := by decide +kernel
theorem dL_law_451 : decode cL_law 451 = .ok (.iconst 1, 1) := by decide +kernel
theorem dL_law_452 : decode cL_law 452 = .ok (.iadd, 1) := by decide +kernel
theorem dL_law_453 : decode cL_law 453 = .ok (.iaload, 1) := by decide +kernel
theorem dL_law_454 : decode cL_law 454 = .ok (.invokevirtual 59, 3) := by decide +kernel
theorem dL_law_457 : decode cL_law 457 = .ok (.aload_n 2, 1) := by decide +kernel
theorem dL_law_458 : decode cL_law 458 = .ok (.aload_n 0, 1) := by decide +kernel
theorem dL_law_459 : decode cL_law 459 = .ok (.iload_n 3, 1) := by decide +kernel
theorem dL_law_460 : decode cL_law 460 = .ok (.iconst 1, 1) := by decide +kernel
theorem dL_law_461 : decode cL_law 461 = .ok (.iadd, 1) := by decide +kernel
theorem dL_law_462 : decode cL_law 462 = .ok (.iaload, 1) := by decide +kernel
theorem dL_law_463 : decode cL_law 463 = .ok (.invokevirtual 63, 3) := by decide +kernel
theorem dL_law_466 : decode cL_law 466 = .ok (.if_icmp .eq 453, 3) := by decide +kernel
theorem dL_law_469 : decode cL_law 469 = .ok (.iconst 0, 1) := by decide +kernel
theorem dL_law_470 : decode cL_law 470 = .ok (.ireturn, 1) := by decide +kernel
theorem dL_law_471 : decode cL_law 471 = .ok (.aload_n 1, 1) := by decide +kernel
theorem dL_law_472 : decode cL_law 472 = .ok (.aload_n 0, 1) := by decide +kernel
theorem dL_law_473 : decode cL_law 473 = .ok (.iload_n 3, 1) := by decide +kernel
theorem dL_law_474 : decode cL_law 474 = .ok (.iconst 1, 1) := by decide +kernel
theorem dL_law_475 : decode cL_law 475 = .ok (.iadd, 1) := by decide +kernel
theorem dL_law_476 : decode cL_law 476 = .ok (.iaload, 1) := by decide +kernel
theorem dL_law_477 : decode cL_law 477 = .ok (.aload_n 0, 1) := by decide +kernel
theorem dL_law_478 : decode cL_law 478 = .ok (.iload_n 3, 1) := by decide +kernel
theorem dL_law_479 : decode cL_law 479 = .ok (.iconst 2, 1) := by decide +kernel
theorem dL_law_480 : decode cL_law 480 = .ok (.iadd, 1) := by decide +kernel
theorem dL_law_481 : decode cL_law 481 = .ok (.iaload, 1) := by decide +kernel
theorem dL_law_482 : decode cL_law 482 = .ok (.aload_n 0, 1) := by decide +kernel
theorem dL_law_483 : decode cL_law 483 = .ok (.iload_n 3, 1) := by decide +kernel
theorem dL_law_484 : decode cL_law 484 = .ok (.iconst 3, 1) := by decide +kernel
theorem dL_law_485 : decode cL_law 485 = .ok (.iadd, 1) := by decide +kernel
theorem dL_law_486 : decode cL_law 486 = .ok (.iaload, 1) := by decide +kernel
theorem dL_law_487 : decode cL_law 487 = .ok (.invokevirtual 64, 3) := by decide +kernel
theorem dL_law_490 : decode cL_law 490 = .ok (.aload_n 2, 1) := by decide +kernel
theorem dL_law_491 : decode cL_law 491 = .ok (.aload_n 0, 1) := by decide +kernel
theorem dL_law_492 : decode cL_law 492 = .ok (.iload_n 3, 1) := by decide +kernel
theorem dL_law_493 : decode cL_law 493 = .ok (.iconst 1, 1) := by decide +kernel
theorem dL_law_494 : decode cL_law 494 = .ok (.iadd, 1) := by decide +kernel
theorem dL_law_495 : decode cL_law 495 = .ok (.iaload, 1) := by decide +kernel
theorem dL_law_496 : decode cL_law 496 = .ok (.aload_n 0, 1) := by decide +kernel
theorem dL_law_497 : decode cL_law 497 = .ok (.iload_n 3, 1) := by decide +kernel
theorem dL_law_498 : decode cL_law 498 = .ok (.iconst 2, 1) := by decide +kernel
theorem dL_law_499 : decode cL_law 499 = .ok (.iadd, 1) := by decide +kernel
theorem dL_law_500 : decode cL_law 500 = .ok (.iaload, 1) := by decide +kernel
theorem dL_law_501 : decode cL_law 501 = .ok (.aload_n 0, 1) := by decide +kernel
theorem dL_law_502 : decode cL_law 502 = .ok (.iload_n 3, 1) := by decide +kernel
theorem dL_law_503 : decode cL_law 503 = .ok (.iconst 3, 1) := by decide +kernel
theorem dL_law_504 : decode cL_law 504 = .ok (.iadd, 1) := by decide +kernel
theorem dL_law_505 : decode cL_law 505 = .ok (.iaload, 1) := by decide +kernel
theorem dL_law_506 : decode cL_law 506 = .ok (.invokevirtual 68, 3) := by decide +kernel
theorem dL_law_509 : decode cL_law 509 = .ok (.if_icmp .eq 410, 3) := by decide +kernel
theorem dL_law_512 : decode cL_law 512 = .ok (.iconst 0, 1) := by decide +kernel
theorem dL_law_513 : decode cL_law 513 = .ok (.ireturn, 1) := by decide +kernel
theorem dL_law_514 : decode cL_law 514 = .ok (.aload_n 1, 1) := by decide +kernel
theorem dL_law_515 : decode cL_law 515 = .ok (.aload_n 0, 1) := by decide +kernel
theorem dL_law_516 : decode cL_law 516 = .ok (.iload_n 3, 1) := by decide +kernel
theorem dL_law_517 : decode cL_law 517 = .ok (.iconst 1, 1) := by decide +kernel
theorem dL_law_518 : decode cL_law 518 = .ok (.iadd, 1) := by decide +kernel
theorem dL_law_519 : decode cL_law 519 = .ok (.iaload, 1) := by decide +kernel
theorem dL_law_520 : decode cL_law 520 = .ok (.aload_n 0, 1) := by decide +kernel
theorem dL_law_521 : decode cL_law 521 = .ok (.iload_n 3, 1) := by decide +kernel
theorem dL_law_522 : decode cL_law 522 = .ok (.iconst 2, 1) := by decide +kernel
theorem dL_law_523 : decode cL_law 523 = .ok (.iadd, 1) := by decide +kernel
theorem dL_law_524 : decode cL_law 524 = .ok (.iaload, 1) := by decide +kernel
theorem dL_law_525 : decode cL_law 525 = .ok (.aload_n 0, 1) := by decide +kernel
theorem dL_law_526 : decode cL_law 526 = .ok (.iload_n 3, 1) := by decide +kernel
theorem dL_law_527 : decode cL_law 527 = .ok (.iconst 3, 1) := by decide +kernel
theorem dL_law_528 : decode cL_law 528 = .ok (.iadd, 1) := by decide +kernel
theorem dL_law_529 : decode cL_law 529 = .ok (.iaload, 1) := by decide +kernel
theorem dL_law_530 : decode cL_law 530 = .ok (.aload_n 0, 1) := by decide +kernel
theorem dL_law_531 : decode cL_law 531 = .ok (.iload_n 3, 1) := by decide +kernel
theorem dL_law_532 : decode cL_law 532 = .ok (.iconst 4, 1) := by decide +kernel
theorem dL_law_533 : decode cL_law 533 = .ok (.iadd, 1) := by decide +kernel
theorem dL_law_534 : decode cL_law 534 = .ok (.iaload, 1) := by decide +kernel
theorem dL_law_535 : decode cL_law 535 = .ok (.ifCond .eq 7, 3) := by decide +kernel
theorem dL_law_538 : decode cL_law 538 = .ok (.iconst 1, 1) := by decide +kernel
theorem dL_law_539 : decode cL_law 539 = .ok (.goto 4, 3) := by decide +kernel
theorem dL_law_542 : decode cL_law 542 = .ok (.iconst 0, 1) := by decide +kernel
theorem dL_law_543 : decode cL_law 543 = .ok (.invokevirtual 69, 3) := by decide +kernel
theorem dL_law_546 : decode cL_law 546 = .ok (.aload_n 2, 1) := by decide +kernel
theorem dL_law_547 : decode cL_law 547 = .ok (.aload_n 0, 1) := by decide +kernel
theorem dL_law_548 : decode cL_law 548 = .ok (.iload_n 3, 1) := by decide +kernel
theorem dL_law_549 : decode cL_law 549 = .ok (.iconst 1, 1) := by decide +kernel
theorem dL_law_550 : decode cL_law 550 = .ok (.iadd, 1) := by decide +kernel
theorem dL_law_551 : decode cL_law 551 = .ok (.iaload, 1) := by decide +kernel
theorem dL_law_552 : decode cL_law 552 = .ok (.aload_n 0, 1) := by decide +kernel
theorem dL_law_553 : decode cL_law 553 = .ok (.iload_n 3, 1) := by decide +kernel
theorem dL_law_554 : decode cL_law 554 = .ok (.iconst 2, 1) := by decide +kernel
theorem dL_law_555 : decode cL_law 555 = .ok (.iadd, 1) := by decide +kernel
theorem dL_law_556 : decode cL_law 556 = .ok (.iaload, 1) := by decide +kernel
theorem dL_law_557 : decode cL_law 557 = .ok (.aload_n 0, 1) := by decide +kernel
theorem dL_law_558 : decode cL_law 558 = .ok (.iload_n 3, 1) := by decide +kernel
theorem dL_law_559 : decode cL_law 559 = .ok (.iconst 3, 1) := by decide +kernel
theorem dL_law_560 : decode cL_law 560 = .ok (.iadd, 1) := by decide +kernel
theorem dL_law_561 : decode cL_law 561 = .ok (.iaload, 1) := by decide +kernel
theorem dL_law_562 : decode cL_law 562 = .ok (.aload_n 0, 1) := by decide +kernel
theorem dL_law_563 : decode cL_law 563 = .ok (.iload_n 3, 1) := by decide +kernel
theorem dL_law_564 : decode cL_law 564 = .ok (.iconst 4, 1) := by decide +kernel
theorem dL_law_565 : decode cL_law 565 = .ok (.iadd, 1) := by decide +kernel
theorem dL_law_566 : decode cL_law 566 = .ok (.iaload, 1) := by decide +kernel
theorem dL_law_567 : decode cL_law 567 = .ok (.ifCond .eq 7, 3) := by decide +kernel
theorem dL_law_570 : decode cL_law 570 = .ok (.iconst 1, 1) := by decide +kernel
theorem dL_law_571 : decode cL_law 571 = .ok (.goto 4, 3) := by decide +kernel
theorem dL_law_574 : decode cL_law 574 = .ok (.iconst 0, 1) := by decide +kernel
theorem dL_law_575 : decode cL_law 575 = .ok (.invokevirtual 73, 3) := by decide +kernel
theorem dL_law_578 : decode cL_law 578 = .ok (.if_icmp .eq 341, 3) := by decide +kernel
theorem dL_law_581 : decode cL_law 581 = .ok (.iconst 0, 1) := by decide +kernel
theorem dL_law_582 : decode cL_law 582 = .ok (.ireturn, 1) := by decide +kernel
theorem dL_law_583 : decode cL_law 583 = .ok (.aload_n 1, 1) := by decide +kernel
theorem dL_law_584 : decode cL_law 584 = .ok (.invokevirtual 74, 3) := by decide +kernel
theorem dL_law_587 : decode cL_law 587 = .ok (.aload_n 2, 1) := by decide +kernel
theorem dL_law_588 : decode cL_law 588 = .ok (.invokevirtual 77, 3) := by decide +kernel
theorem dL_law_591 : decode cL_law 591 = .ok (.if_icmp .eq 328, 3) := by decide +kernel
theorem dL_law_594 : decode cL_law 594 = .ok (.iconst 0, 1) := by decide +kernel
theorem dL_law_595 : decode cL_law 595 = .ok (.ireturn, 1) := by decide +kernel
theorem dL_law_596 : decode cL_law 596 = .ok (.aload_n 1, 1) := by decide +kernel
theorem dL_law_597 : decode cL_law 597 = .ok (.aload_n 0, 1) := by decide +kernel
theorem dL_law_598 : decode cL_law 598 = .ok (.iload_n 3, 1) := by decide +kernel
theorem dL_law_599 : decode cL_law 599 = .ok (.iconst 1, 1) := by decide +kernel
theorem dL_law_600 : decode cL_law 600 = .ok (.iadd, 1) := by decide +kernel
theorem dL_law_601 : decode cL_law 601 = .ok (.iaload, 1) := by decide +kernel
theorem dL_law_602 : decode cL_law 602 = .ok (.aload_n 0, 1) := by decide +kernel
theorem dL_law_603 : decode cL_law 603 = .ok (.iload_n 3, 1) := by decide +kernel
theorem dL_law_604 : decode cL_law 604 = .ok (.iconst 2, 1) := by decide +kernel
theorem dL_law_605 : decode cL_law 605 = .ok (.iadd, 1) := by decide +kernel
theorem dL_law_606 : decode cL_law 606 = .ok (.iaload, 1) := by decide +kernel
theorem dL_law_607 : decode cL_law 607 = .ok (.invokevirtual 78, 3) := by decide +kernel
theorem dL_law_610 : decode cL_law 610 = .ok (.aload_n 2, 1) := by decide +kernel
theorem dL_law_611 : decode cL_law 611 = .ok (.aload_n 0, 1) := by decide +kernel
theorem dL_law_612 : decode cL_law 612 = .ok (.iload_n 3, 1) := by decide +kernel
theorem dL_law_613 : decode cL_law 613 = .ok (.iconst 1, 1) := by decide +kernel
theorem dL_law_614 : decode cL_law 614 = .ok (.iadd, 1) := by decide +kernel
theorem dL_law_615 : decode cL_law 615 = .ok (.iaload, 1) := by decide +kernel
theorem dL_law_616 : decode cL_law 616 = .ok (.aload_n 0, 1) := by decide +kernel
theorem dL_law_617 : decode cL_law 617 = .ok (.iload_n 3, 1) := by decide +kernel
theorem dL_law_618 : decode cL_law 618 = .ok (.iconst 2, 1) := by decide +kernel
theorem dL_law_619 : decode cL_law 619 = .ok (.iadd, 1) := by decide +kernel
theorem dL_law_620 : decode cL_law 620 = .ok (.iaload, 1) := by decide +kernel
theorem dL_law_621 : decode cL_law 621 = .ok (.invokevirtual 81, 3) := by decide +kernel
theorem dL_law_624 : decode cL_law 624 = .ok (.if_icmp .eq 295, 3) := by decide +kernel
theorem dL_law_627 : decode cL_law 627 = .ok (.iconst 0, 1) := by decide +kernel
theorem dL_law_628 : decode cL_law 628 = .ok (.ireturn, 1) := by decide +kernel
theorem dL_law_629 : decode cL_law 629 = .ok (.aload_n 1, 1) := by decide +kernel
theorem dL_law_630 : decode cL_law 630 = .ok (.aload_n 0, 1) := by decide +kernel
theorem dL_law_631 : decode cL_law 631 = .ok (.iload_n 3, 1) := by decide +kernel
theorem dL_law_632 : decode cL_law 632 = .ok (.iconst 1, 1) := by decide +kernel
theorem dL_law_633 : decode cL_law 633 = .ok (.iadd, 1) := by decide +kernel
theorem dL_law_634 : decode cL_law 634 = .ok (.iaload, 1) := by decide +kernel
theorem dL_law_635 : decode cL_law 635 = .ok (.aload_n 0, 1) := by decide +kernel
theorem dL_law_636 : decode cL_law 636 = .ok (.iload_n 3, 1) := by decide +kernel
theorem dL_law_637 : decode cL_law 637 = .ok (.iconst 2, 1) := by decide +kernel
theorem dL_law_638 : decode cL_law 638 = .ok (.iadd, 1) := by decide +kernel
theorem dL_law_639 : decode cL_law 639 = .ok (.iaload, 1) := by decide +kernel
theorem dL_law_640 : decode cL_law 640 = .ok (.invokevirtual 82, 3) := by decide +kernel
theorem dL_law_643 : decode cL_law 643 = .ok (.aload_n 2, 1) := by decide +kernel
theorem dL_law_644 : decode cL_law 644 = .ok (.aload_n 0, 1) := by decide +kernel
theorem dL_law_645 : decode cL_law 645 = .ok (.iload_n 3, 1) := by decide +kernel
theorem dL_law_646 : decode cL_law 646 = .ok (.iconst 1, 1) := by decide +kernel
theorem dL_law_647 : decode cL_law 647 = .ok (.iadd, 1) := by decide +kernel
theorem dL_law_648 : decode cL_law 648 = .ok (.iaload, 1) := by decide +kernel
theorem dL_law_649 : decode cL_law 649 = .ok (.aload_n 0, 1) := by decide +kernel
theorem dL_law_650 : decode cL_law 650 = .ok (.iload_n 3, 1) := by decide +kernel
theorem dL_law_651 : decode cL_law 651 = .ok (.iconst 2, 1) := by decide +kernel
theorem dL_law_652 : decode cL_law 652 = .ok (.iadd, 1) := by decide +kernel
theorem dL_law_653 : decode cL_law 653 = .ok (.iaload, 1) := by decide +kernel
theorem dL_law_654 : decode cL_law 654 = .ok (.invokevirtual 85, 3) := by decide +kernel
theorem dL_law_657 : decode cL_law 657 = .ok (.if_icmp .eq 262, 3) := by decide +kernel
theorem dL_law_660 : decode cL_law 660 = .ok (.iconst 0, 1) := by decide +kernel
theorem dL_law_661 : decode cL_law 661 = .ok (.ireturn, 1) := by decide +kernel
theorem dL_law_662 : decode cL_law 662 = .ok (.aload_n 1, 1) := by decide +kernel
theorem dL_law_663 : decode cL_law 663 = .ok (.invokevirtual 86, 3) := by decide +kernel
theorem dL_law_666 : decode cL_law 666 = .ok (.aload_n 2, 1) := by decide +kernel
theorem dL_law_667 : decode cL_law 667 = .ok (.invokevirtual 89, 3) := by decide +kernel
theorem dL_law_670 : decode cL_law 670 = .ok (.if_icmp .eq 249, 3) := by decide +kernel
theorem dL_law_673 : decode cL_law 673 = .ok (.iconst 0, 1) := by decide +kernel
theorem dL_law_674 : decode cL_law 674 = .ok (.ireturn, 1) := by decide +kernel
theorem dL_law_675 : decode cL_law 675 = .ok (.aload_n 1, 1) := by decide +kernel
theorem dL_law_676 : decode cL_law 676 = .ok (.aload_n 0, 1) := by decide +kernel
theorem dL_law_677 : decode cL_law 677 = .ok (.iload_n 3, 1) := by decide +kernel
theorem dL_law_678 : decode cL_law 678 = .ok (.iconst 1, 1) := by decide +kernel
theorem dL_law_679 : decode cL_law 679 = .ok (.iadd, 1) := by decide +kernel
theorem dL_law_680 : decode cL_law 680 = .ok (.iaload, 1) := by decide +kernel
theorem dL_law_681 : decode cL_law 681 = .ok (.aload_n 0, 1) := by decide +kernel
theorem dL_law_682 : decode cL_law 682 = .ok (.iload_n 3, 1) := by decide +kernel
theorem dL_law_683 : decode cL_law 683 = .ok (.iconst 2, 1) := by decide +kernel
theorem dL_law_684 : decode cL_law 684 = .ok (.iadd, 1) := by decide +kernel
theorem dL_law_685 : decode cL_law 685 = .ok (.iaload, 1) := by decide +kernel
theorem dL_law_686 : decode cL_law 686 = .ok (.invokevirtual 90, 3) := by decide +kernel
theorem dL_law_689 : decode cL_law 689 = .ok (.aload_n 2, 1) := by decide +kernel
theorem dL_law_690 : decode cL_law 690 = .ok (.aload_n 0, 1) := by decide +kernel
theorem dL_law_691 : decode cL_law 691 = .ok (.iload_n 3, 1) := by decide +kernel
theorem dL_law_692 : decode cL_law 692 = .ok (.iconst 1, 1) := by decide +kernel
theorem dL_law_693 : decode cL_law 693 = .ok (.iadd, 1) := by decide +kernel
theorem dL_law_694 : decode cL_law 694 = .ok (.iaload, 1) := by decide +kernel
theorem dL_law_695 : decode cL_law 695 = .ok (.aload_n 0, 1) := by decide +kernel
theorem dL_law_696 : decode cL_law 696 = .ok (.iload_n 3, 1) := by decide +kernel
theorem dL_law_697 : decode cL_law 697 = .ok (.iconst 2, 1) := by decide +kernel
theorem dL_law_698 : decode cL_law 698 = .ok (.iadd, 1) := by decide +kernel
theorem dL_law_699 : decode cL_law 699 = .ok (.iaload, 1) := by decide +kernel
theorem dL_law_700 : decode cL_law 700 = .ok (.invokevirtual 93, 3) := by decide +kernel
theorem dL_law_703 : decode cL_law 703 = .ok (.if_icmp .eq 216, 3) := by decide +kernel
theorem dL_law_706 : decode cL_law 706 = .ok (.iconst 0, 1) := by decide +kernel
theorem dL_law_707 : decode cL_law 707 = .ok (.ireturn, 1) := by decide +kernel
theorem dL_law_708 : decode cL_law 708 = .ok (.aload_n 1, 1) := by decide +kernel
theorem dL_law_709 : decode cL_law 709 = .ok (.aload_n 0, 1) := by decide +kernel
theorem dL_law_710 : decode cL_law 710 = .ok (.iload_n 3, 1) := by decide +kernel
theorem dL_law_711 : decode cL_law 711 = .ok (.iconst 1, 1) := by decide +kernel
theorem dL_law_712 : decode cL_law 712 = .ok (.iadd, 1) := by decide +kernel
theorem dL_law_713 : decode cL_law 713 = .ok (.iaload, 1) := by decide +kernel
theorem dL_law_714 : decode cL_law 714 = .ok (.aload_n 0, 1) := by decide +kernel
theorem dL_law_715 : decode cL_law 715 = .ok (.iload_n 3, 1) := by decide +kernel
theorem dL_law_716 : decode cL_law 716 = .ok (.iconst 2, 1) := by decide +kernel
theorem dL_law_717 : decode cL_law 717 = .ok (.iadd, 1) := by decide +kernel
theorem dL_law_718 : decode cL_law 718 = .ok (.iaload, 1) := by decide +kernel
theorem dL_law_719 : decode cL_law 719 = .ok (.invokevirtual 94, 3) := by decide +kernel
theorem dL_law_722 : decode cL_law 722 = .ok (.aload_n 2, 1) := by decide +kernel
theorem dL_law_723 : decode cL_law 723 = .ok (.aload_n 0, 1) := by decide +kernel
theorem dL_law_724 : decode cL_law 724 = .ok (.iload_n 3, 1) := by decide +kernel
theorem dL_law_725 : decode cL_law 725 = .ok (.iconst 1, 1) := by decide +kernel
theorem dL_law_726 : decode cL_law 726 = .ok (.iadd, 1) := by decide +kernel
theorem dL_law_727 : decode cL_law 727 = .ok (.iaload, 1) := by decide +kernel
theorem dL_law_728 : decode cL_law 728 = .ok (.aload_n 0, 1) := by decide +kernel
theorem dL_law_729 : decode cL_law 729 = .ok (.iload_n 3, 1) := by decide +kernel
theorem dL_law_730 : decode cL_law 730 = .ok (.iconst 2, 1) := by decide +kernel
theorem dL_law_731 : decode cL_law 731 = .ok (.iadd, 1) := by decide +kernel
theorem dL_law_732 : decode cL_law 732 = .ok (.iaload, 1) := by decide +kernel
theorem dL_law_733 : decode cL_law 733 = .ok (.invokevirtual 97, 3) := by decide +kernel
theorem dL_law_736 : decode cL_law 736 = .ok (.if_icmp .eq 183, 3) := by decide +kernel
theorem dL_law_739 : decode cL_law 739 = .ok (.iconst 0, 1) := by decide +kernel
theorem dL_law_740 : decode cL_law 740 = .ok (.ireturn, 1) := by decide +kernel
theorem dL_law_741 : decode cL_law 741 = .ok (.aload_n 1, 1) := by decide +kernel
theorem dL_law_742 : decode cL_law 742 = .ok (.aload_n 0, 1) := by decide +kernel
theorem dL_law_743 : decode cL_law 743 = .ok (.iload_n 3, 1) := by decide +kernel
theorem dL_law_744 : decode cL_law 744 = .ok (.iconst 1, 1) := by decide +kernel
theorem dL_law_745 : decode cL_law 745 = .ok (.iadd, 1) := by decide +kernel
theorem dL_law_746 : decode cL_law 746 = .ok (.iaload, 1) := by decide +kernel
theorem dL_law_747 : decode cL_law 747 = .ok (.aload_n 0, 1) := by decide +kernel
theorem dL_law_748 : decode cL_law 748 = .ok (.iload_n 3, 1) := by decide +kernel
theorem dL_law_749 : decode cL_law 749 = .ok (.iconst 2, 1) := by decide +kernel
theorem dL_law_750 : decode cL_law 750 = .ok (.iadd, 1) := by decide +kernel
theorem dL_law_751 : decode cL_law 751 = .ok (.iaload, 1) := by decide +kernel
theorem dL_law_752 : decode cL_law 752 = .ok (.invokevirtual 98, 3) := by decide +kernel
theorem dL_law_755 : decode cL_law 755 = .ok (.aload_n 2, 1) := by decide +kernel
theorem dL_law_756 : decode cL_law 756 = .ok (.aload_n 0, 1) := by decide +kernel
theorem dL_law_757 : decode cL_law 757 = .ok (.iload_n 3, 1) := by decide +kernel
theorem dL_law_758 : decode cL_law 758 = .ok (.iconst 1, 1) := by decide +kernel
theorem dL_law_759 : decode cL_law 759 = .ok (.iadd, 1) := by decide +kernel
theorem dL_law_760 : decode cL_law 760 = .ok (.iaload, 1) := by decide +kernel
theorem dL_law_761 : decode cL_law 761 = .ok (.aload_n 0, 1) := by decide +kernel
theorem dL_law_762 : decode cL_law 762 = .ok (.iload_n 3, 1) := by decide +kernel
theorem dL_law_763 : decode cL_law 763 = .ok (.iconst 2, 1) := by decide +kernel
theorem dL_law_764 : decode cL_law 764 = .ok (.iadd, 1) := by decide +kernel
theorem dL_law_765 : decode cL_law 765 = .ok (.iaload, 1) := by decide +kernel
theorem dL_law_766 : decode cL_law 766 = .ok (.invokevirtual 101, 3) := by decide +kernel
theorem dL_law_769 : decode cL_law 769 = .ok (.if_icmp .eq 150, 3) := by decide +kernel
theorem dL_law_772 : decode cL_law 772 = .ok (.iconst 0, 1) := by decide +kernel
theorem dL_law_773 : decode cL_law 773 = .ok (.ireturn, 1) := by decide +kernel
theorem dL_law_774 : decode cL_law 774 = .ok (.aload_n 1, 1) := by decide +kernel
theorem dL_law_775 : decode cL_law 775 = .ok (.aload_n 0, 1) := by decide +kernel
theorem dL_law_776 : decode cL_law 776 = .ok (.iload_n 3, 1) := by decide +kernel
theorem dL_law_777 : decode cL_law 777 = .ok (.iconst 1, 1) := by decide +kernel
theorem dL_law_778 : decode cL_law 778 = .ok (.iadd, 1) := by decide +kernel
theorem dL_law_779 : decode cL_law 779 = .ok (.iaload, 1) := by decide +kernel
theorem dL_law_780 : decode cL_law 780 = .ok (.aload_n 0, 1) := by decide +kernel
theorem dL_law_781 : decode cL_law 781 = .ok (.iload_n 3, 1) := by decide +kernel
theorem dL_law_782 : decode cL_law 782 = .ok (.iconst 2, 1) := by decide +kernel
theorem dL_law_783 : decode cL_law 783 = .ok (.iadd, 1) := by decide +kernel
theorem dL_law_784 : decode cL_law 784 = .ok (.iaload, 1) := by decide +kernel
theorem dL_law_785 : decode cL_law 785 = .ok (.aload_n 0, 1) := by decide +kernel
theorem dL_law_786 : decode cL_law 786 = .ok (.iload_n 3, 1) := by decide +kernel
theorem dL_law_787 : decode cL_law 787 = .ok (.iconst 3, 1) := by decide +kernel
theorem dL_law_788 : decode cL_law 788 = .ok (.iadd, 1) := by decide +kernel
theorem dL_law_789 : decode cL_law 789 = .ok (.iaload, 1) := by decide +kernel
theorem dL_law_790 : decode cL_law 790 = .ok (.aload_n 0, 1) := by decide +kernel
theorem dL_law_791 : decode cL_law 791 = .ok (.iload_n 3, 1) := by decide +kernel
theorem dL_law_792 : decode cL_law 792 = .ok (.iconst 4, 1) := by decide +kernel
theorem dL_law_793 : decode cL_law 793 = .ok (.iadd, 1) := by decide +kernel
theorem dL_law_794 : decode cL_law 794 = .ok (.iaload, 1) := by decide +kernel
theorem dL_law_795 : decode cL_law 795 = .ok (.invokevirtual 102, 3) := by decide +kernel
theorem dL_law_798 : decode cL_law 798 = .ok (.aload_n 2, 1) := by decide +kernel
theorem dL_law_799 : decode cL_law 799 = .ok (.aload_n 0, 1) := by decide +kernel
theorem dL_law_800 : decode cL_law 800 = .ok (.iload_n 3, 1) := by decide +kernel
theorem dL_law_801 : decode cL_law 801 = .ok (.iconst 1, 1) := by decide +kernel
theorem dL_law_802 : decode cL_law 802 = .ok (.iadd, 1) := by decide +kernel
theorem dL_law_803 : decode cL_law 803 = .ok (.iaload, 1) := by decide +kernel
theorem dL_law_804 : decode cL_law 804 = .ok (.aload_n 0, 1) := by decide +kernel
theorem dL_law_805 : decode cL_law 805 = .ok (.iload_n 3, 1) := by decide +kernel
theorem dL_law_806 : decode cL_law 806 = .ok (.iconst 2, 1) := by decide +kernel
theorem dL_law_807 : decode cL_law 807 = .ok (.iadd, 1) := by decide +kernel
theorem dL_law_808 : decode cL_law 808 = .ok (.iaload, 1) := by decide +kernel
theorem dL_law_809 : decode cL_law 809 = .ok (.aload_n 0, 1) := by decide +kernel
theorem dL_law_810 : decode cL_law 810 = .ok (.iload_n 3, 1) := by decide +kernel
theorem dL_law_811 : decode cL_law 811 = .ok (.iconst 3, 1) := by decide +kernel
theorem dL_law_812 : decode cL_law 812 = .ok (.iadd, 1) := by decide +kernel
theorem dL_law_813 : decode cL_law 813 = .ok (.iaload, 1) := by decide +kernel
theorem dL_law_814 : decode cL_law 814 = .ok (.aload_n 0, 1) := by decide +kernel
theorem dL_law_815 : decode cL_law 815 = .ok (.iload_n 3, 1) := by decide +kernel
theorem dL_law_816 : decode cL_law 816 = .ok (.iconst 4, 1) := by decide +kernel
theorem dL_law_817 : decode cL_law 817 = .ok (.iadd, 1) := by decide +kernel
theorem dL_law_818 : decode cL_law 818 = .ok (.iaload, 1) := by decide +kernel
theorem dL_law_819 : decode cL_law 819 = .ok (.invokevirtual 105, 3) := by decide +kernel
theorem dL_law_822 : decode cL_law 822 = .ok (.if_icmp .eq 97, 3) := by decide +kernel
theorem dL_law_825 : decode cL_law 825 = .ok (.iconst 0, 1) := by decide +kernel
theorem dL_law_826 : decode cL_law 826 = .ok (.ireturn, 1) := by decide +kernel
theorem dL_law_827 : decode cL_law 827 = .ok (.aload_n 1, 1) := by decide +kernel
theorem dL_law_828 : decode cL_law 828 = .ok (.aload_n 0, 1) := by decide +kernel
theorem dL_law_829 : decode cL_law 829 = .ok (.iload_n 3, 1) := by decide +kernel
theorem dL_law_830 : decode cL_law 830 = .ok (.iconst 1, 1) := by decide +kernel
theorem dL_law_831 : decode cL_law 831 = .ok (.iadd, 1) := by decide +kernel
theorem dL_law_832 : decode cL_law 832 = .ok (.iaload, 1) := by decide +kernel
theorem dL_law_833 : decode cL_law 833 = .ok (.aload_n 0, 1) := by decide +kernel
theorem dL_law_834 : decode cL_law 834 = .ok (.iload_n 3, 1) := by decide +kernel
theorem dL_law_835 : decode cL_law 835 = .ok (.iconst 2, 1) := by decide +kernel
theorem dL_law_836 : decode cL_law 836 = .ok (.iadd, 1) := by decide +kernel
theorem dL_law_837 : decode cL_law 837 = .ok (.iaload, 1) := by decide +kernel
theorem dL_law_838 : decode cL_law 838 = .ok (.aload_n 0, 1) := by decide +kernel
theorem dL_law_839 : decode cL_law 839 = .ok (.iload_n 3, 1) := by decide +kernel
theorem dL_law_840 : decode cL_law 840 = .ok (.iconst 3, 1) := by decide +kernel
theorem dL_law_841 : decode cL_law 841 = .ok (.iadd, 1) := by decide +kernel
theorem dL_law_842 : decode cL_law 842 = .ok (.iaload, 1) := by decide +kernel
theorem dL_law_843 : decode cL_law 843 = .ok (.invokevirtual 106, 3) := by decide +kernel
theorem dL_law_846 : decode cL_law 846 = .ok (.aload_n 2, 1) := by decide +kernel
theorem dL_law_847 : decode cL_law 847 = .ok (.aload_n 0, 1) := by decide +kernel
theorem dL_law_848 : decode cL_law 848 = .ok (.iload_n 3, 1) := by decide +kernel
theorem dL_law_849 : decode cL_law 849 = .ok (.iconst 1, 1) := by decide +kernel
theorem dL_law_850 : decode cL_law 850 = .ok (.iadd, 1) := by decide +kernel
theorem dL_law_851 : decode cL_law 851 = .ok (.iaload, 1) := by decide +kernel
theorem dL_law_852 : decode cL_law 852 = .ok (.aload_n 0, 1) := by decide +kernel
theorem dL_law_853 : decode cL_law 853 = .ok (.iload_n 3, 1) := by decide +kernel
theorem dL_law_854 : decode cL_law 854 = .ok (.iconst 2, 1) := by decide +kernel
theorem dL_law_855 : decode cL_law 855 = .ok (.iadd, 1) := by decide +kernel
theorem dL_law_856 : decode cL_law 856 = .ok (.iaload, 1) := by decide +kernel
theorem dL_law_857 : decode cL_law 857 = .ok (.aload_n 0, 1) := by decide +kernel
theorem dL_law_858 : decode cL_law 858 = .ok (.iload_n 3, 1) := by decide +kernel
theorem dL_law_859 : decode cL_law 859 = .ok (.iconst 3, 1) := by decide +kernel
theorem dL_law_860 : decode cL_law 860 = .ok (.iadd, 1) := by decide +kernel
theorem dL_law_861 : decode cL_law 861 = .ok (.iaload, 1) := by decide +kernel
theorem dL_law_862 : decode cL_law 862 = .ok (.invokevirtual 109, 3) := by decide +kernel
theorem dL_law_865 : decode cL_law 865 = .ok (.if_icmp .eq 54, 3) := by decide +kernel
theorem dL_law_868 : decode cL_law 868 = .ok (.iconst 0, 1) := by decide +kernel
theorem dL_law_869 : decode cL_law 869 = .ok (.ireturn, 1) := by decide +kernel
theorem dL_law_870 : decode cL_law 870 = .ok (.aload_n 1, 1) := by decide +kernel
theorem dL_law_871 : decode cL_law 871 = .ok (.invokevirtual 110, 3) := by decide +kernel
theorem dL_law_874 : decode cL_law 874 = .ok (.aload_n 2, 1) := by decide +kernel
theorem dL_law_875 : decode cL_law 875 = .ok (.invokevirtual 113, 3) := by decide +kernel
theorem dL_law_878 : decode cL_law 878 = .ok (.if_icmp .eq 41, 3) := by decide +kernel
theorem dL_law_881 : decode cL_law 881 = .ok (.iconst 0, 1) := by decide +kernel
theorem dL_law_882 : decode cL_law 882 = .ok (.ireturn, 1) := by decide +kernel
theorem dL_law_883 : decode cL_law 883 = .ok (.aload_n 1, 1) := by decide +kernel
theorem dL_law_884 : decode cL_law 884 = .ok (.invokevirtual 114, 3) := by decide +kernel
theorem dL_law_887 : decode cL_law 887 = .ok (.aload_n 2, 1) := by decide +kernel
theorem dL_law_888 : decode cL_law 888 = .ok (.invokevirtual 117, 3) := by decide +kernel
theorem dL_law_891 : decode cL_law 891 = .ok (.if_icmp .eq 28, 3) := by decide +kernel
theorem dL_law_894 : decode cL_law 894 = .ok (.iconst 0, 1) := by decide +kernel
theorem dL_law_895 : decode cL_law 895 = .ok (.ireturn, 1) := by decide +kernel
theorem dL_law_896 : decode cL_law 896 = .ok (.aload_n 1, 1) := by decide +kernel
theorem dL_law_897 : decode cL_law 897 = .ok (.aload_n 0, 1) := by decide +kernel
theorem dL_law_898 : decode cL_law 898 = .ok (.iload_n 3, 1) := by decide +kernel
theorem dL_law_899 : decode cL_law 899 = .ok (.iconst 1, 1) := by decide +kernel
theorem dL_law_900 : decode cL_law 900 = .ok (.iadd, 1) := by decide +kernel
theorem dL_law_901 : decode cL_law 901 = .ok (.iaload, 1) := by decide +kernel
theorem dL_law_902 : decode cL_law 902 = .ok (.invokevirtual 118, 3) := by decide +kernel
theorem dL_law_905 : decode cL_law 905 = .ok (.aload_n 2, 1) := by decide +kernel
theorem dL_law_906 : decode cL_law 906 = .ok (.aload_n 0, 1) := by decide +kernel
theorem dL_law_907 : decode cL_law 907 = .ok (.iload_n 3, 1) := by decide +kernel
theorem dL_law_908 : decode cL_law 908 = .ok (.iconst 1, 1) := by decide +kernel
theorem dL_law_909 : decode cL_law 909 = .ok (.iadd, 1) := by decide +kernel
theorem dL_law_910 : decode cL_law 910 = .ok (.iaload, 1) := by decide +kernel
theorem dL_law_911 : decode cL_law 911 = .ok (.invokevirtual 121, 3) := by decide +kernel
theorem dL_law_914 : decode cL_law 914 = .ok (.if_icmp .eq 5, 3) := by decide +kernel
theorem dL_law_917 : decode cL_law 917 = .ok (.iconst 0, 1) := by decide +kernel
theorem dL_law_918 : decode cL_law 918 = .ok (.ireturn, 1) := by decide +kernel
theorem dL_law_919 : decode cL_law 919 = .ok (.iinc 3 5, 3) := by decide +kernel
theorem dL_law_922 : decode cL_law 922 = .ok (.goto (-904), 3) := by decide +kernel
theorem dL_law_925 : decode cL_law 925 = .ok (.iconst 1, 1) := by decide +kernel
theorem dL_law_926 : decode cL_law 926 = .ok (.ireturn, 1) := by decide +kernel
end
section
/-! the small machine: its values, its state, the methods and the links of the constant pool -/
abbrev zV : Type := Int ⊕ Int ⊕ Nat ⊕ Nat
abbrev zG : Type := Nat × Nat × (Nat → Nat × Nat) × (Nat → Int → Nat)
abbrev zH : Type := Nat → Int → Int
/-- a method: class, name, bytes, locals, answer, level -/
abbrev zM : Type := Nat × MethodName × ByteArray × Nat × Option FieldType × Nat
def qX0_addLoan : zM := (0, yX0_addLoan, cX0_addLoan, 5, none, 1)
def qX0_copyFrom : zM := (0, yX0_copyFrom, cX0_copyFrom, 2, none, 1)
def qX0_init : zM := (0, yX0_init, cX0_init, 2, none, 1)
def qX0_isDue : zM := (0, yX0_isDue, cX0_isDue, 2, (some .boolean), 1)
def qX0_lostByAll : zM := (0, yX0_lostByAll, cX0_lostByAll, 3, (some .int), 1)
def qX0_markLoans : zM := (0, yX0_markLoans, cX0_markLoans, 2, none, 1)
def qX0_open : zM := (0, yX0_open, cX0_open, 2, none, 1)
def qX0_owedToAll : zM := (0, yX0_owedToAll, cX0_owedToAll, 4, (some .int), 1)
def qX0_weeksToNextDue : zM := (0, yX0_weeksToNextDue, cX0_weeksToNextDue, 4, (some .int), 1)
def qX1_addToGreatestRest : zM := (1, yX1_addToGreatestRest, cX1_addToGreatestRest, 3, none, 1)
def qX1_init : zM := (1, yX1_init, cX1_init, 1, none, 1)
def qX2_init : zM := (2, yX2_init, cX2_init, 1, none, 1)
def qX2_isPlaced : zM := (2, yX2_isPlaced, cX2_isPlaced, 4, (some .boolean), 1)
def qX2_readFrom : zM := (2, yX2_readFrom, cX2_readFrom, 4, none, 1)
def qX3_moveLowestUp : zM := (3, yX3_moveLowestUp, cX3_moveLowestUp, 3, none, 1)
def qX4_clear : zM := (4, yX4_clear, cX4_clear, 1, none, 1)
def qX4_copyFrom : zM := (4, yX4_copyFrom, cX4_copyFrom, 2, none, 1)
def qX4_init : zM := (4, yX4_init, cX4_init, 1, none, 1)
def qX4_interestOn : zM := (4, yX4_interestOn, cX4_interestOn, 2, (some .int), 1)
def qX5_append : zM := (5, yX5_append, cX5_append, 5, none, 1)
def qX5_init : zM := (5, yX5_init, cX5_init, 1, none, 1)
def qX6_add : zM := (6, yX6_add, cX6_add, 4, none, 1)
def qX6_greatest : zM := (6, yX6_greatest, cX6_greatest, 4, (some .int), 1)
def qX6_init : zM := (6, yX6_init, cX6_init, 1, none, 1)
def qX6_least : zM := (6, yX6_least, cX6_least, 4, (some .int), 1)
def qX6_untrueOf : zM := (6, yX6_untrueOf, cX6_untrueOf, 5, (some .int), 1)
def qX7_firstDeadEarlierThan : zM := (7, yX7_firstDeadEarlierThan, cX7_firstDeadEarlierThan, 6, (some .int), 1)
def qX7_loansPaidLessThan : zM := (7, yX7_loansPaidLessThan, cX7_loansPaidLessThan, 4, (some .int), 1)
def qX8_count : zM := (8, yX8_count, cX8_count, 2, (some .int), 1)
def qX8_draw : zM := (8, yX8_draw, cX8_draw, 5, (some .int), 1)
def qX8_forget : zM := (8, yX8_forget, cX8_forget, 2, (some .int), 1)
def qX8_wipe : zM := (8, yX8_wipe, cX8_wipe, 2, (some .int), 1)
def qX8_within : zM := (8, yX8_within, cX8_within, 3, (some .boolean), 1)
def qX9_aside : zM := (9, yX9_aside, cX9_aside, 3, none, 1)
def qX9_back : zM := (9, yX9_back, cX9_back, 2, (some .int), 1)
def qX9_begins : zM := (9, yX9_begins, cX9_begins, 2, none, 1)
def qX9_byteAt : zM := (9, yX9_byteAt, cX9_byteAt, 2, (some .int), 1)
def qX9_count : zM := (9, yX9_count, cX9_count, 2, (some .int), 1)
def qX9_draw : zM := (9, yX9_draw, cX9_draw, 5, (some .int), 1)
def qX9_drops : zM := (9, yX9_drops, cX9_drops, 4, none, 1)
def qX9_dueNow : zM := (9, yX9_dueNow, cX9_dueNow, 6, (some .int), 1)
def qX9_dueOf : zM := (9, yX9_dueOf, cX9_dueOf, 2, (some .int), 1)
def qX9_findsRing : zM := (9, yX9_findsRing, cX9_findsRing, 8, (some .boolean), 1)
def qX9_forget : zM := (9, yX9_forget, cX9_forget, 2, (some .int), 1)
def qX9_in : zM := (9, yX9_in, cX9_in, 3, (some .boolean), 1)
def qX9_isSo : zM := (9, yX9_isSo, cX9_isSo, 4, (some .boolean), 1)
def qX9_keep : zM := (9, yX9_keep, cX9_keep, 2, (some .int), 1)
def qX9_lends : zM := (9, yX9_lends, cX9_lends, 6, none, 1)
def qX9_lesser : zM := (9, yX9_lesser, cX9_lesser, 2, (some .int), 1)
def qX9_living : zM := (9, yX9_living, cX9_living, 3, (some .int), 1)
def qX9_notes : zM := (9, yX9_notes, cX9_notes, 2, none, 1)
def qX9_owesAll : zM := (9, yX9_owesAll, cX9_owesAll, 4, (some .int), 1)
def qX9_shares : zM := (9, yX9_shares, cX9_shares, 6, (some .boolean), 1)
def qX9_undo : zM := (9, yX9_undo, cX9_undo, 2, (some .int), 1)
def qX9_wipe : zM := (9, yX9_wipe, cX9_wipe, 2, (some .int), 1)
def qX0_dropThoseDue : zM := (0, yX0_dropThoseDue, cX0_dropThoseDue, 3, none, 2)
def qX0_dueOn : zM := (0, yX0_dueOn, cX0_dueOn, 2, (some .int), 2)
def qX0_greatestDue : zM := (0, yX0_greatestDue, cX0_greatestDue, 3, (some .int), 2)
def qX0_isAlive : zM := (0, yX0_isAlive, cX0_isAlive, 2, (some .boolean), 2)
def qX2_clear : zM := (2, yX2_clear, cX2_clear, 4, (some .int), 2)
def qX3_init : zM := (3, yX3_init, cX3_init, 4, none, 2)
def qX3_put : zM := (3, yX3_put, cX3_put, 2, none, 2)
def qX3_takeInto : zM := (3, yX3_takeInto, cX3_takeInto, 2, (some .int), 2)
def qX4_addPerson : zM := (4, yX4_addPerson, cX4_addPerson, 2, (some .boolean), 2)
def qX5_readItem : zM := (5, yX5_readItem, cX5_readItem, 3, (some .boolean), 2)
def qX6_bestDue : zM := (6, yX6_bestDue, cX6_bestDue, 11, (some .int), 2)
def qX7_init : zM := (7, yX7_init, cX7_init, 2, none, 2)
def qX8_bribed : zM := (8, yX8_bribed, cX8_bribed, 1, (some .int), 2)
def qX8_isLoanOf : zM := (8, yX8_isLoanOf, cX8_isLoanOf, 2, (some .boolean), 2)
def qX8_isPerson : zM := (8, yX8_isPerson, cX8_isPerson, 2, (some .boolean), 2)
def qX8_loan : zM := (8, yX8_loan, cX8_loan, 3, (some .int), 2)
def qX8_write : zM := (8, yX8_write, cX8_write, 4, (some .int), 2)
def qX9_bribed : zM := (9, yX9_bribed, cX9_bribed, 3, (some .int), 2)
def qX9_burned : zM := (9, yX9_burned, cX9_burned, 12, (some .int), 2)
def qX9_clears : zM := (9, yX9_clears, cX9_clears, 6, (some .int), 2)
def qX9_gives : zM := (9, yX9_gives, cX9_gives, 5, (some .int), 2)
def qX9_init : zM := (9, yX9_init, cX9_init, 1, none, 2)
def qX9_isPerson : zM := (9, yX9_isPerson, cX9_isPerson, 2, (some .boolean), 2)
def qX9_isSpan : zM := (9, yX9_isSpan, cX9_isSpan, 1, (some .boolean), 2)
def qX9_isWell : zM := (9, yX9_isWell, cX9_isWell, 3, (some .boolean), 2)
def qX9_loan : zM := (9, yX9_loan, cX9_loan, 3, (some .int), 2)
def qX9_says : zM := (9, yX9_says, cX9_says, 7, (some .boolean), 2)
def qX9_spans : zM := (9, yX9_spans, cX9_spans, 5, none, 2)
def qX9_write : zM := (9, yX9_write, cX9_write, 5, (some .int), 2)
def qX0_dueFrom : zM := (0, yX0_dueFrom, cX0_dueFrom, 5, (some .int), 3)
def qX0_give : zM := (0, yX0_give, cX0_give, 5, (some .int), 3)
def qX0_isFit : zM := (0, yX0_isFit, cX0_isFit, 5, (some .boolean), 3)
def qX0_living : zM := (0, yX0_living, cX0_living, 3, (some .int), 3)
def qX0_lowestOther : zM := (0, yX0_lowestOther, cX0_lowestOther, 4, (some .int), 3)
def qX1_share : zM := (1, yX1_share, cX1_share, 6, none, 3)
def qX1_takeAllOfOne : zM := (1, yX1_takeAllOfOne, cX1_takeAllOfOne, 3, (some .boolean), 3)
def qX4_accept : zM := (4, yX4_accept, cX4_accept, 3, (some .boolean), 3)
def qX7_noteDeaths : zM := (7, yX7_noteDeaths, cX7_noteDeaths, 3, none, 3)
def qX7_start : zM := (7, yX7_start, cX7_start, 3, none, 3)
def qX8_ask : zM := (8, yX8_ask, cX8_ask, 3, (some .int), 3)
def qX8_back : zM := (8, yX8_back, cX8_back, 2, (some .int), 3)
def qX8_init : zM := (8, yX8_init, cX8_init, 1, none, 3)
def qX8_keep : zM := (8, yX8_keep, cX8_keep, 1, (some .int), 3)
def qX8_person : zM := (8, yX8_person, cX8_person, 3, (some .int), 3)
def qX8_span : zM := (8, yX8_span, cX8_span, 5, (some .int), 3)
def qX8_tell : zM := (8, yX8_tell, cX8_tell, 5, (some .int), 3)
def qX8_undo : zM := (8, yX8_undo, cX8_undo, 1, (some .int), 3)
def qX9_ask : zM := (9, yX9_ask, cX9_ask, 10, (some .int), 3)
def qX9_child : zM := (9, yX9_child, cX9_child, 3, (some .int), 3)
def qX9_cleared : zM := (9, yX9_cleared, cX9_cleared, 5, (some .int), 3)
def qX9_faultOf : zM := (9, yX9_faultOf, cX9_faultOf, 5, (some .int), 3)
def qX9_mayAsk : zM := (9, yX9_mayAsk, cX9_mayAsk, 5, (some .boolean), 3)
def qX9_pays : zM := (9, yX9_pays, cX9_pays, 8, none, 3)
def qX9_person : zM := (9, yX9_person, cX9_person, 3, (some .int), 3)
def qX9_span : zM := (9, yX9_span, cX9_span, 3, (some .int), 3)
def qX9_tell : zM := (9, yX9_tell, cX9_tell, 5, (some .int), 3)
def qX0_isGranted : zM := (0, yX0_isGranted, cX0_isGranted, 5, (some .boolean), 4)
def qX0_pay : zM := (0, yX0_pay, cX0_pay, 6, none, 4)
def qX4_readFrom : zM := (4, yX4_readFrom, cX4_readFrom, 3, (some .int), 4)
def qX7_startWithout : zM := (7, yX7_startWithout, cX7_startWithout, 3, none, 4)
def qX8_child : zM := (8, yX8_child, cX8_child, 3, (some .int), 4)
def qX9_fault : zM := (9, yX9_fault, cX9_fault, 1, (some .int), 4)
def qX9_goes : zM := (9, yX9_goes, cX9_goes, 2, none, 4)
def qX9_lay : zM := (9, yX9_lay, cX9_lay, 2, (some .int), 4)
def qX9_lend : zM := (9, yX9_lend, cX9_lend, 5, (some .int), 4)
def qX9_notary : zM := (9, yX9_notary, cX9_notary, 5, (some .int), 4)
def qX0_hindrance : zM := (0, yX0_hindrance, cX0_hindrance, 5, (some .int), 5)
def qX0_payThoseDue : zM := (0, yX0_payThoseDue, cX0_payThoseDue, 3, none, 5)
def qX8_fault : zM := (8, yX8_fault, cX8_fault, 1, (some .int), 5)
def qX8_lay : zM := (8, yX8_lay, cX8_lay, 1, (some .int), 5)
def qX8_notary : zM := (8, yX8_notary, cX8_notary, 5, (some .int), 5)
def qX9_dies : zM := (9, yX9_dies, cX9_dies, 3, (some .int), 5)
def qX9_drawn : zM := (9, yX9_drawn, cX9_drawn, 9, (some .int), 5)
def qX9_run : zM := (9, yX9_run, cX9_run, 5, (some .int), 5)
def qX9_runs : zM := (9, yX9_runs, cX9_runs, 3, none, 5)
def qX9_week : zM := (9, yX9_week, cX9_week, 1, (some .int), 5)
def qX0_pass : zM := (0, yX0_pass, cX0_pass, 3, none, 6)
def qX8_lend : zM := (8, yX8_lend, cX8_lend, 6, (some .int), 6)
def qX8_lendByDraw : zM := (8, yX8_lendByDraw, cX8_lendByDraw, 9, none, 6)
def qX9_falls : zM := (9, yX9_falls, cX9_falls, 8, (some .int), 6)
def qX7_advance : zM := (7, yX7_advance, cX7_advance, 4, none, 7)
def qX8_rowsOf : zM := (8, yX8_rowsOf, cX8_rowsOf, 6, (some .int), 7)
def qX8_week : zM := (8, yX8_week, cX8_week, 1, (some .int), 7)
def qX8_dies : zM := (8, yX8_dies, cX8_dies, 2, (some .int), 8)
def qX8_drawn : zM := (8, yX8_drawn, cX8_drawn, 5, (some .int), 8)
def qX8_falls : zM := (8, yX8_falls, cX8_falls, 3, (some .int), 8)
def qX8_numberOfFirstRow : zM := (8, yX8_numberOfFirstRow, cX8_numberOfFirstRow, 7, (some .int), 8)
def qX8_run : zM := (8, yX8_run, cX8_run, 4, (some .int), 8)
def qX8_burned : zM := (8, yX8_burned, cX8_burned, 6, (some .int), 9)
def qX2_closes : zM := (2, yX2_closes, cX2_closes, 5, (some .boolean), 10)
def qX2_findShortest : zM := (2, yX2_findShortest, cX2_findShortest, 3, (some .int), 11)
def qX2_clearAll : zM := (2, yX2_clearAll, cX2_clearAll, 4, (some .int), 12)
def qX8_cleared : zM := (8, yX8_cleared, cX8_cleared, 5, (some .int), 13)
def qL_law : zM := (10, yL_law, cL_law, 4, (some .boolean), 14)
def zfd0 : List (Nat × Nat × Nat) := [(9, 0, 1), (15, 0, 2), (18, 0, 3), (21, 0, 4), (24, 0, 5), (27, 0, 6), (30, 0, 7), (33, 0, 8), (36, 0, 0), (40, 4, 1), (46, 4, 0), (49, 0, 9), (52, 0, 10), (73, 4, 4), (108, 4, 3)]
def zfd1 : List (Nat × Nat × Nat) := [(9, 1, 0), (15, 1, 1), (24, 0, 1)]
def zfd2 : List (Nat × Nat × Nat) := [(11, 2, 0), (16, 2, 1), (20, 0, 0), (26, 4, 1), (32, 2, 2), (33, 0, 9), (36, 0, 4), (39, 0, 3), (42, 0, 5)]
def zfd3 : List (Nat × Nat × Nat) := [(17, 3, 0), (26, 3, 1)]
def zfd4 : List (Nat × Nat × Nat) := [(9, 4, 0), (15, 4, 1), (19, 4, 2), (22, 4, 3), (25, 4, 4), (37, 5, 1), (46, 5, 2), (49, 5, 3), (56, 5, 4)]
def zfd5 : List (Nat × Nat × Nat) := [(9, 5, 0), (15, 5, 1), (23, 5, 2), (26, 5, 3), (29, 5, 4)]
def zfd6 : List (Nat × Nat × Nat) := [(9, 6, 0), (15, 6, 1), (18, 6, 2), (22, 6, 3), (43, 4, 0)]
def zfd7 : List (Nat × Nat × Nat) := [(9, 7, 1), (20, 7, 0), (31, 7, 2), (43, 0, 1), (63, 0, 8)]
def zfd8 : List (Nat × Nat × Nat) := [(10, 8, 0), (19, 8, 1), (23, 8, 2), (31, 8, 3), (38, 8, 4), (42, 8, 5), (50, 8, 6), (54, 8, 7), (60, 8, 8), (67, 8, 9), (74, 8, 10), (92, 5, 1), (104, 4, 1), (110, 6, 3), (113, 3, 1), (117, 0, 1), (121, 0, 2), (128, 0, 9), (131, 0, 3), (134, 0, 4), (137, 0, 5), (140, 0, 6), (180, 7, 1), (184, 7, 0), (215, 2, 0), (230, 1, 0), (257, 0, 10)]
def zfd9 : List (Nat × Nat × Nat) := [(7, 9, 1), (13, 9, 3), (16, 9, 5), (19, 9, 9), (22, 9, 10), (25, 9, 11), (28, 9, 13), (31, 9, 15), (34, 9, 17), (37, 9, 18), (40, 9, 19), (43, 9, 20), (46, 9, 21), (49, 9, 22), (52, 9, 23), (55, 9, 26), (58, 9, 4), (62, 9, 6), (68, 9, 0), (75, 9, 2), (92, 9, 12), (95, 9, 14), (98, 9, 16), (101, 9, 7), (104, 9, 8), (163, 9, 24), (166, 9, 25)]
def zfd10 : List (Nat × Nat × Nat) := []
def zfd (c i : Nat) : Option (Nat × Nat) := ([zfd0, zfd1, zfd2, zfd3, zfd4, zfd5, zfd6, zfd7, zfd8, zfd9, zfd10].getD c []).lookup i
def zmt0 : List (Nat × Nat × zM × Nat) := [(61, 2, qX8_within, 3), (65, 0, qX0_isAlive, 2), (69, 2, qX8_isLoanOf, 2), (76, 0, qX0_dueFrom, 3), (80, 0, qX0_dueOn, 2), (84, 0, qX0_isFit, 5), (88, 0, qX0_isGranted, 5), (91, 0, qX4_interestOn, 2), (102, 0, qX0_payThoseDue, 1), (105, 0, qX0_dropThoseDue, 1), (111, 0, qX0_greatestDue, 1), (115, 0, qX0_pay, 2), (119, 0, qX0_isDue, 2), (122, 0, qX0_give, 4), (126, 0, qX0_lowestOther, 3)]
def zmt1 : List (Nat × Nat × zM × Nat) := [(18, 0, qX0_isAlive, 2), (27, 0, qX1_addToGreatestRest, 1)]
def zmt2 : List (Nat × Nat × zM × Nat) := [(45, 0, qX2_findShortest, 1), (49, 0, qX2_clear, 2), (53, 0, qX2_closes, 3), (57, 2, qX8_within, 3), (61, 0, qX2_isPlaced, 3)]
def zmt3 : List (Nat × Nat × zM × Nat) := [(23, 3, qX0_init, 2), (30, 0, qX3_moveLowestUp, 1), (33, 0, qX0_copyFrom, 2), (37, 2, qX8_within, 3)]
def zmt4 : List (Nat × Nat × zM × Nat) := [(34, 0, qX4_clear, 1), (42, 0, qX5_readItem, 2), (52, 0, qX4_accept, 3), (65, 0, qX4_addPerson, 2), (68, 2, qX8_within, 3)]
def zmt5 : List (Nat × Nat × zM × Nat) := [(19, 2, qX8_within, 3)]
def zmt6 : List (Nat × Nat × zM × Nat) := [(35, 0, qX6_least, 2), (39, 0, qX6_greatest, 2)]
def zmt7 : List (Nat × Nat × zM × Nat) := [(17, 3, qX0_init, 2), (24, 0, qX0_copyFrom, 2), (28, 0, qX0_markLoans, 1), (35, 0, qX0_isAlive, 2), (40, 0, qX7_start, 2), (46, 0, qX0_weeksToNextDue, 2), (56, 0, qX7_noteDeaths, 2), (60, 0, qX0_pass, 2)]
def zmt8 : List (Nat × Nat × zM × Nat) := [(9, 4, qX5_init, 1), (18, 4, qX4_init, 1), (28, 3, qX0_init, 2), (37, 3, qX7_init, 2), (47, 3, qX3_init, 3), (59, 4, qX6_init, 1), (66, 4, qX2_init, 1), (73, 4, qX1_init, 1), (78, 0, qX4_clear, 1), (81, 0, qX4_addPerson, 2), (85, 0, qX0_open, 1), (88, 1, qX8_within, 3), (96, 0, qX5_append, 3), (100, 0, qX4_readFrom, 2), (107, 0, qX4_copyFrom, 2), (114, 0, qX8_isPerson, 2), (124, 0, qX0_owedToAll, 2), (143, 0, qX0_isFit, 5), (147, 0, qX0_isGranted, 5), (150, 0, qX0_hindrance, 5), (154, 0, qX3_put, 2), (158, 0, qX0_addLoan, 5), (162, 0, qX0_pass, 2), (166, 0, qX0_living, 1), (170, 0, qX3_takeInto, 2), (174, 0, qX7_start, 2), (177, 0, qX7_advance, 2), (185, 1, qX8_isLoanOf, 2), (189, 0, qX4_interestOn, 2), (192, 0, qX6_add, 4), (196, 0, qX6_least, 2), (199, 0, qX6_greatest, 2), (202, 0, qX6_bestDue, 3), (206, 0, qX6_untrueOf, 2), (210, 0, qX2_readFrom, 2), (212, 0, qX2_clearAll, 1), (219, 0, qX0_isAlive, 2), (222, 0, qX1_share, 3), (226, 0, qX1_takeAllOfOne, 2), (233, 0, qX7_startWithout, 3), (236, 0, qX7_loansPaidLessThan, 2), (240, 0, qX7_firstDeadEarlierThan, 3), (244, 1, qX8_rowsOf, 4), (247, 1, qX8_numberOfFirstRow, 4), (250, 0, qX8_lendByDraw, 4), (254, 0, qX0_lostByAll, 1), (260, 1, qX8_draw, 3)]
def zmt9 : List (Nat × Nat × zM × Nat) := [(65, 0, qX9_begins, 1), (71, 1, qX9_in, 3), (80, 0, qX9_byteAt, 2), (84, 0, qX9_isWell, 3), (88, 0, qX9_faultOf, 1), (107, 0, qX9_isPerson, 2), (111, 0, qX9_owesAll, 2), (114, 1, qX9_isSpan, 1), (117, 0, qX9_dueOf, 2), (120, 0, qX9_mayAsk, 5), (124, 0, qX9_says, 5), (127, 0, qX9_notes, 1), (130, 0, qX9_lends, 5), (134, 1, qX9_lesser, 2), (138, 0, qX9_gives, 4), (142, 0, qX9_dueNow, 2), (146, 0, qX9_pays, 2), (150, 0, qX9_drops, 2), (153, 0, qX9_goes, 1), (156, 0, qX9_living, 1), (159, 0, qX9_aside, 2), (169, 0, qX9_isSo, 3), (172, 0, qX9_spans, 2), (175, 0, qX9_findsRing, 2), (178, 0, qX9_clears, 1), (181, 0, qX9_shares, 2), (184, 0, qX9_runs, 1), (195, 1, qX9_draw, 3)]
def zmt10 : List (Nat × Nat × zM × Nat) := [(9, 3, qX8_init, 1), (12, 3, qX9_init, 1), (15, 0, qX8_write, 3), (19, 0, qX9_write, 3), (20, 0, qX8_wipe, 1), (24, 0, qX9_wipe, 1), (25, 0, qX8_fault, 1), (28, 0, qX9_fault, 1), (29, 0, qX8_lay, 1), (32, 0, qX9_lay, 1), (33, 0, qX8_person, 3), (37, 0, qX9_person, 3), (38, 0, qX8_loan, 3), (41, 0, qX9_loan, 3), (42, 0, qX8_notary, 5), (46, 0, qX9_notary, 5), (47, 0, qX8_lend, 5), (50, 0, qX9_lend, 5), (51, 0, qX8_week, 1), (54, 0, qX9_week, 1), (55, 0, qX8_undo, 1), (58, 0, qX9_undo, 1), (59, 0, qX8_dies, 2), (63, 0, qX9_dies, 2), (64, 0, qX8_run, 4), (68, 0, qX9_run, 4), (69, 0, qX8_tell, 5), (73, 0, qX9_tell, 5), (74, 0, qX8_forget, 1), (77, 0, qX9_forget, 1), (78, 0, qX8_span, 3), (81, 0, qX9_span, 3), (82, 0, qX8_ask, 3), (85, 0, qX9_ask, 3), (86, 0, qX8_bribed, 1), (89, 0, qX9_bribed, 1), (90, 0, qX8_cleared, 3), (93, 0, qX9_cleared, 3), (94, 0, qX8_child, 3), (97, 0, qX9_child, 3), (98, 0, qX8_falls, 3), (101, 0, qX9_falls, 3), (102, 0, qX8_burned, 5), (105, 0, qX9_burned, 5), (106, 0, qX8_drawn, 4), (109, 0, qX9_drawn, 4), (110, 0, qX8_keep, 1), (113, 0, qX9_keep, 1), (114, 0, qX8_back, 1), (117, 0, qX9_back, 1), (118, 0, qX8_count, 2), (121, 0, qX9_count, 2)]
def zmt (c i : Nat) : Option (Nat × zM × Nat) := ([zmt0, zmt1, zmt2, zmt3, zmt4, zmt5, zmt6, zmt7, zmt8, zmt9, zmt10].getD c []).lookup i
def zbt0 : List (Nat × Nat) := [(3, 3), (55, 2), (94, 1), (99, 0)]
def zbt1 : List (Nat × Nat) := [(3, 3)]
def zbt2 : List (Nat × Nat) := [(3, 3), (65, 1)]
def zbt3 : List (Nat × Nat) := [(3, 3), (9, 0)]
def zbt4 : List (Nat × Nat) := [(3, 3), (28, 2), (59, 0)]
def zbt5 : List (Nat × Nat) := [(3, 3)]
def zbt6 : List (Nat × Nat) := [(3, 3), (26, 0), (32, 1)]
def zbt7 : List (Nat × Nat) := [(3, 3), (50, 0)]
def zbt8 : List (Nat × Nat) := [(1, 3)]
def zbt9 : List (Nat × Nat) := [(1, 3)]
def zbt10 : List (Nat × Nat) := []
def zbt (c i : Nat) : Option (Nat) := ([zbt0, zbt1, zbt2, zbt3, zbt4, zbt5, zbt6, zbt7, zbt8, zbt9, zbt10].getD c []).lookup i
def zct0 : List (Nat × Nat) := []
def zct1 : List (Nat × Nat) := []
def zct2 : List (Nat × Nat) := [(9, 200)]
def zct3 : List (Nat × Nat) := [(15, 0)]
def zct4 : List (Nat × Nat) := []
def zct5 : List (Nat × Nat) := []
def zct6 : List (Nat × Nat) := []
def zct7 : List (Nat × Nat) := [(15, 0)]
def zct8 : List (Nat × Nat) := [(7, 5), (16, 4), (26, 0), (35, 7), (45, 3), (57, 6), (64, 2), (71, 1)]
def zct9 : List (Nat × Nat) := []
def zct10 : List (Nat × Nat) := [(7, 8), (10, 9)]
def zct (c i : Nat) : Option (Nat) := ([zct0, zct1, zct2, zct3, zct4, zct5, zct6, zct7, zct8, zct9, zct10].getD c []).lookup i
def zki0 : List (Nat × Int) := []
def zki1 : List (Nat × Int) := []
def zki2 : List (Nat × Int) := [(64, 1000000)]
def zki3 : List (Nat × Int) := []
def zki4 : List (Nat × Int) := []
def zki5 : List (Nat × Int) := []
def zki6 : List (Nat × Int) := [(42, 1000000)]
def zki7 : List (Nat × Int) := [(39, 1000000)]
def zki8 : List (Nat × Int) := [(183, 1000000)]
def zki9 : List (Nat × Int) := []
def zki10 : List (Nat × Int) := []
def zki (c i : Nat) : Option (Int) := ([zki0, zki1, zki2, zki3, zki4, zki5, zki6, zki7, zki8, zki9, zki10].getD c []).lookup i
def zkl0 : List (Nat × Int) := []
def zkl1 : List (Nat × Int) := []
def zkl2 : List (Nat × Int) := []
def zkl3 : List (Nat × Int) := []
def zkl4 : List (Nat × Int) := []
def zkl5 : List (Nat × Int) := []
def zkl6 : List (Nat × Int) := []
def zkl7 : List (Nat × Int) := []
def zkl8 : List (Nat × Int) := [(264, 7919), (266, 6151), (268, 3571), (270, 65521)]
def zkl9 : List (Nat × Int) := [(78, 255), (187, 7919), (189, 6151), (191, 3571), (193, 65521)]
def zkl10 : List (Nat × Int) := [(13, 4294967295)]
def zkl (c i : Nat) : Option (Int) := ([zkl0, zkl1, zkl2, zkl3, zkl4, zkl5, zkl6, zkl7, zkl8, zkl9, zkl10].getD c []).lookup i
def zNN (c : Nat) : Nat := [11, 2, 3, 2, 5, 5, 4, 3, 11, 27].getD c 0
def zrf (c k : Nat) : Bool := ([[true, true, true, true, true, true, true, true, true, false, false], [true, true], [true, true, false], [true, false], [true, false, false, false, false], [true, false, false, false, false], [true, true, true, false], [true, true, false], [true, true, true, true, true, true, true, true, true, true, true], [false, true, false, true, false, true, false, false, false, true, true, true, false, true, false, true, false, true, true, true, true, true, true, true, false, false, true]].getD c []).getD k false
end
section
/-! what the tables say of the classes and of the links -/
def zTB : List Cond := lw_tbl.filter goodWord
theorem zTB_of {w : Cond} (h : w ∈ lw_tbl) (g : goodWord w = true) : w ∈ zTB := List.mem_filter.mpr ⟨h, g⟩
def zcn (c : Nat) : String := [RX0, RX1, RX2, RX3, RX4, RX5, RX6, RX7, RX8, RX9, RL].getD c ""
def zT (c : Nat) : u_T := [TX0, TX1, TX2, TX3, TX4, TX5, TX6, TX7, TX8, TX9].getD c TX0
def zty (c : Nat) : Nat → FieldType := [tyX0, tyX1, tyX2, tyX3, tyX4, tyX5, tyX6, tyX7, tyX8, tyX9].getD c tyX0
def zc10 (P : Nat → Prop) : Prop := P 0 ∧ P 1 ∧ P 2 ∧ P 3 ∧ P 4 ∧ P 5 ∧ P 6 ∧ P 7 ∧ P 8 ∧ P 9
theorem zc10_of {P : Nat → Prop} (h : zc10 P) {c : Nat} (hc : c < 10) : P c := by
  obtain ⟨h0, h1, h2, h3, h4, h5, h6, h7, h8, h9⟩ := h
  rcases (show c = 0 ∨ c = 1 ∨ c = 2 ∨ c = 3 ∨ c = 4 ∨ c = 5 ∨ c = 6 ∨ c = 7 ∨ c = 8 ∨ c = 9 by omega) with rfl | rfl | rfl | rfl | rfl | rfl | rfl | rfl | rfl | rfl <;> assumption
theorem zk_cl {c : Nat} (hc : c < 10) : vwCl[c]? = some (zcn c, zT c, zNN c) := zc10_of (P := fun c => vwCl[c]? = some (zcn c, zT c, zNN c)) ⟨rfl, rfl, rfl, rfl, rfl, rfl, rfl, rfl, rfl, rfl⟩ hc
theorem zk_pd {c : Nat} (hc : c < 10) : ∀ k, k < zNN c → parseFieldDescriptor (zT c k).2.2.1 = some (zty c k) := zc10_of (P := fun c => ∀ k, k < zNN c → parseFieldDescriptor (zT c k).2.2.1 = some (zty c k)) ⟨tyX0_ok, tyX1_ok, tyX2_ok, tyX3_ok, tyX4_ok, tyX5_ok, tyX6_ok, tyX7_ok, tyX8_ok, tyX9_ok⟩ hc
theorem zk_nm {c : Nat} (hc : c < 10) : ∀ a, a < zNN c → ∀ b, b < zNN c → a ≠ b → (zT c a).2.1 ≠ (zT c b).2.1 := zc10_of (P := fun c => ∀ a, a < zNN c → ∀ b, b < zNN c → a ≠ b → (zT c a).2.1 ≠ (zT c b).2.1) ⟨nmX0, nmX1, nmX2, nmX3, nmX4, nmX5, nmX6, nmX7, nmX8, nmX9⟩ hc
theorem zk_ow {c : Nat} (hc : c < 10) : ∀ k, k < zNN c → (zT c k).1 = zcn c ∧ (zT c k).2.2.2 = zrf c k := zc10_of (P := fun c => ∀ k, k < zNN c → (zT c k).1 = zcn c ∧ (zT c k).2.2.2 = zrf c k) ⟨by decide +kernel, by decide +kernel, by decide +kernel, by decide +kernel, by decide +kernel, by decide +kernel, by decide +kernel, by decide +kernel, by decide +kernel, by decide +kernel⟩ hc
/-- a reference, or an int -/
def zisr : FieldType → Bool
  | .object _ => true
  | .array _ => true
  | _ => false
theorem zk_ty {c : Nat} (hc : c < 10) : ∀ k, k < zNN c → (zrf c k = true → zisr (zty c k) = true) ∧ (zrf c k = false → zty c k = .int) := zc10_of (P := fun c => ∀ k, k < zNN c → (zrf c k = true → zisr (zty c k) = true) ∧ (zrf c k = false → zty c k = .int)) ⟨by decide +kernel, by decide +kernel, by decide +kernel, by decide +kernel, by decide +kernel, by decide +kernel, by decide +kernel, by decide +kernel, by decide +kernel, by decide +kernel⟩ hc
theorem zk_in1 : zc10 (fun c => ∀ w ∈ u_ws (zcn c) (zT c) (zNN c), w ∈ lw_tbl) := by
  refine ⟨?_, ?_, ?_, ?_, ?_, ?_, ?_, ?_, ?_, ?_⟩ <;> decide +kernel
theorem zk_in2 {c : Nat} (hc : c < 10) : ∀ w ∈ u_ws (zcn c) (zT c) (zNN c), w ∈ zTB := by
  intro w hw
  refine zTB_of (zc10_of zk_in1 hc w hw) ?_
  obtain ⟨k, -, rfl⟩ := List.mem_map.mp hw
  unfold u_lay
  split <;> rfl
theorem zk_mk1 : zc10 (fun c => Cond.instantiable (zcn c) (zNN c) ∈ lw_tbl ∧ Cond.initialized (zcn c) ∈ lw_tbl) := by
  refine ⟨?_, ?_, ?_, ?_, ?_, ?_, ?_, ?_, ?_, ?_⟩ <;> decide +kernel
theorem zk_mk {c : Nat} (hc : c < 10) : Cond.instantiable (zcn c) (zNN c) ∈ zTB ∧ Cond.initialized (zcn c) ∈ zTB := ⟨zTB_of (zc10_of zk_mk1 hc).1 rfl, zTB_of (zc10_of zk_mk1 hc).2 rfl⟩
theorem zlk_mem {α : Type} {l : List (Nat × α)} {i : Nat} {v : α} (h : l.lookup i = some v) : (i, v) ∈ l := by
  induction l with
  | nil => simp at h
  | cons a l ih =>
    rw [List.lookup_cons] at h
    by_cases e : i = a.1
    · subst e
      simp at h
      subst h
      exact List.mem_cons_self
    · have e2 : (i == a.1) = false := by simpa using e
      rw [e2] at h
      exact List.mem_cons_of_mem _ (ih h)
theorem zgd_mem {α : Type} (ls : List (List (Nat × α))) {c i : Nat} {v : α} (h : (ls.getD c []).lookup i = some v) : c < ls.length ∧ (i, v) ∈ ls.getD c [] := by
  refine ⟨?_, zlk_mem h⟩
  rcases Nat.lt_or_ge c ls.length with q | q
  · exact q
  · rw [List.getD_eq_getElem?_getD, List.getElem?_eq_none q] at h
    simp at h
def zfok (c : Nat) (e : Nat × Nat × Nat) : Prop := (e.2.1 < 10 ∧ e.2.2 < zNN e.2.1) ∧ Cond.fieldLink (zcn c) e.1 (zT e.2.1 e.2.2).1 (zT e.2.1 e.2.2).2.1 (zT e.2.1 e.2.2).2.2.1 ∈ lw_tbl
theorem zf_ok0 : ∀ e ∈ zfd0, (e.2.1 < 10 ∧ e.2.2 < zNN e.2.1) ∧ Cond.fieldLink (zcn 0) e.1 (zT e.2.1 e.2.2).1 (zT e.2.1 e.2.2).2.1 (zT e.2.1 e.2.2).2.2.1 ∈ lw_tbl := by decide +kernel
theorem zf_ok1 : ∀ e ∈ zfd1, (e.2.1 < 10 ∧ e.2.2 < zNN e.2.1) ∧ Cond.fieldLink (zcn 1) e.1 (zT e.2.1 e.2.2).1 (zT e.2.1 e.2.2).2.1 (zT e.2.1 e.2.2).2.2.1 ∈ lw_tbl := by decide +kernel
theorem zf_ok2 : ∀ e ∈ zfd2, (e.2.1 < 10 ∧ e.2.2 < zNN e.2.1) ∧ Cond.fieldLink (zcn 2) e.1 (zT e.2.1 e.2.2).1 (zT e.2.1 e.2.2).2.1 (zT e.2.1 e.2.2).2.2.1 ∈ lw_tbl := by decide +kernel
theorem zf_ok3 : ∀ e ∈ zfd3, (e.2.1 < 10 ∧ e.2.2 < zNN e.2.1) ∧ Cond.fieldLink (zcn 3) e.1 (zT e.2.1 e.2.2).1 (zT e.2.1 e.2.2).2.1 (zT e.2.1 e.2.2).2.2.1 ∈ lw_tbl := by decide +kernel
theorem zf_ok4 : ∀ e ∈ zfd4, (e.2.1 < 10 ∧ e.2.2 < zNN e.2.1) ∧ Cond.fieldLink (zcn 4) e.1 (zT e.2.1 e.2.2).1 (zT e.2.1 e.2.2).2.1 (zT e.2.1 e.2.2).2.2.1 ∈ lw_tbl := by decide +kernel
theorem zf_ok5 : ∀ e ∈ zfd5, (e.2.1 < 10 ∧ e.2.2 < zNN e.2.1) ∧ Cond.fieldLink (zcn 5) e.1 (zT e.2.1 e.2.2).1 (zT e.2.1 e.2.2).2.1 (zT e.2.1 e.2.2).2.2.1 ∈ lw_tbl := by decide +kernel
theorem zf_ok6 : ∀ e ∈ zfd6, (e.2.1 < 10 ∧ e.2.2 < zNN e.2.1) ∧ Cond.fieldLink (zcn 6) e.1 (zT e.2.1 e.2.2).1 (zT e.2.1 e.2.2).2.1 (zT e.2.1 e.2.2).2.2.1 ∈ lw_tbl := by decide +kernel
theorem zf_ok7 : ∀ e ∈ zfd7, (e.2.1 < 10 ∧ e.2.2 < zNN e.2.1) ∧ Cond.fieldLink (zcn 7) e.1 (zT e.2.1 e.2.2).1 (zT e.2.1 e.2.2).2.1 (zT e.2.1 e.2.2).2.2.1 ∈ lw_tbl := by decide +kernel
theorem zf_ok8 : ∀ e ∈ zfd8, (e.2.1 < 10 ∧ e.2.2 < zNN e.2.1) ∧ Cond.fieldLink (zcn 8) e.1 (zT e.2.1 e.2.2).1 (zT e.2.1 e.2.2).2.1 (zT e.2.1 e.2.2).2.2.1 ∈ lw_tbl := by decide +kernel
theorem zf_ok9 : ∀ e ∈ zfd9, (e.2.1 < 10 ∧ e.2.2 < zNN e.2.1) ∧ Cond.fieldLink (zcn 9) e.1 (zT e.2.1 e.2.2).1 (zT e.2.1 e.2.2).2.1 (zT e.2.1 e.2.2).2.2.1 ∈ lw_tbl := by decide +kernel
theorem zf_okA : ∀ e ∈ zfd10, (e.2.1 < 10 ∧ e.2.2 < zNN e.2.1) ∧ Cond.fieldLink (zcn 10) e.1 (zT e.2.1 e.2.2).1 (zT e.2.1 e.2.2).2.1 (zT e.2.1 e.2.2).2.2.1 ∈ lw_tbl := by decide +kernel
theorem zc11 {P : Nat → Prop} {c : Nat} (h : c < 11) (h0 : P 0) (h1 : P 1) (h2 : P 2) (h3 : P 3) (h4 : P 4) (h5 : P 5) (h6 : P 6) (h7 : P 7) (h8 : P 8) (h9 : P 9) (h10 : P 10) : P c := by
  rcases (show c = 0 ∨ c = 1 ∨ c = 2 ∨ c = 3 ∨ c = 4 ∨ c = 5 ∨ c = 6 ∨ c = 7 ∨ c = 8 ∨ c = 9 ∨ c = 10 by omega) with rfl | rfl | rfl | rfl | rfl | rfl | rfl | rfl | rfl | rfl | rfl <;> assumption
theorem zf_ok {c i ci k : Nat} (h : zfd c i = some (ci, k)) : (ci < 10 ∧ k < zNN ci) ∧ Cond.fieldLink (zcn c) i (zT ci k).1 (zT ci k).2.1 (zT ci k).2.2.1 ∈ zTB := by
  obtain ⟨hc, hm⟩ := zgd_mem _ h
  have := zc11 (P := fun c => ∀ e ∈ [zfd0, zfd1, zfd2, zfd3, zfd4, zfd5, zfd6, zfd7, zfd8, zfd9, zfd10].getD c [], zfok c e) (c := c) hc zf_ok0 zf_ok1 zf_ok2 zf_ok3 zf_ok4 zf_ok5 zf_ok6 zf_ok7 zf_ok8 zf_ok9 zf_okA (i, ci, k) hm
  exact ⟨this.1, zTB_of this.2 rfl⟩
end
section
/-! what the tables say of the calls, the constants, the classes that are made -/
def znst : List (String × Nat × MethodName × String) := [("YearsLent", 9, ⟨"YearsLent$Text", "<init>", "()V"⟩, "YearsLent"), ("YearsLent", 18, ⟨"YearsLent$Terms", "<init>", "()V"⟩, "YearsLent"), ("YearsLent", 59, ⟨"YearsLent$Told", "<init>", "()V"⟩, "YearsLent"), ("YearsLent", 66, ⟨"YearsLent$Rings", "<init>", "()V"⟩, "YearsLent"), ("YearsLent", 73, ⟨"YearsLent$Gifts", "<init>", "()V"⟩, "YearsLent"), ("YearsLent$Books", 61, ⟨"YearsLent", "within", "(III)Z"⟩, "YearsLent"), ("YearsLent$Books", 69, ⟨"YearsLent", "isLoanOf", "(II)Z"⟩, "YearsLent"), ("YearsLent$Rings", 57, ⟨"YearsLent", "within", "(III)Z"⟩, "YearsLent"), ("YearsLent$Shelf", 37, ⟨"YearsLent", "within", "(III)Z"⟩, "YearsLent"), ("YearsLent$Terms", 68, ⟨"YearsLent", "within", "(III)Z"⟩, "YearsLent"), ("YearsLent$Text", 19, ⟨"YearsLent", "within", "(III)Z"⟩, "YearsLent")]
theorem znst_ok : ∀ q ∈ znst, Cond.methodLinkNest q.1 q.2.1 q.2.2.1 q.2.2.2 ∈ lw_tbl := by decide +kernel
def zmta (c : Nat) : List (Nat × Nat × zM × Nat) := [zmt0, zmt1, zmt2, zmt3, zmt4, zmt5, zmt6, zmt7, zmt8, zmt9, zmt10].getD c []
set_option maxRecDepth 20000 in
theorem zwc_X0_addLoan : Cond.code yX0_addLoan cX0_addLoan 5 none ∈ lw_tbl := List.mem_of_getElem? (i := 438) (by decide +kernel)
set_option maxRecDepth 20000 in
theorem zwi_X0_addLoan : Cond.instanceMethod yX0_addLoan ∈ lw_tbl := List.mem_of_getElem? (i := 436) (by decide +kernel)
set_option maxRecDepth 20000 in
theorem zwe_X0_addLoan : Cond.selects yX0_addLoan.cls yX0_addLoan yX0_addLoan ∈ lw_tbl := List.mem_of_getElem? (i := 437) (by decide +kernel)
set_option maxRecDepth 20000 in
theorem zwc_X0_copyFrom : Cond.code yX0_copyFrom cX0_copyFrom 2 none ∈ lw_tbl := List.mem_of_getElem? (i := 433) (by decide +kernel)
set_option maxRecDepth 20000 in
theorem zwi_X0_copyFrom : Cond.instanceMethod yX0_copyFrom ∈ lw_tbl := List.mem_of_getElem? (i := 431) (by decide +kernel)
set_option maxRecDepth 20000 in
theorem zwe_X0_copyFrom : Cond.selects yX0_copyFrom.cls yX0_copyFrom yX0_copyFrom ∈ lw_tbl := List.mem_of_getElem? (i := 432) (by decide +kernel)
set_option maxRecDepth 20000 in
theorem zwc_X0_dropThoseDue : Cond.code yX0_dropThoseDue cX0_dropThoseDue 3 none ∈ lw_tbl := List.mem_of_getElem? (i := 478) (by decide +kernel)
set_option maxRecDepth 20000 in
theorem zwi_X0_dropThoseDue : Cond.instanceMethod yX0_dropThoseDue ∈ lw_tbl := List.mem_of_getElem? (i := 477) (by decide +kernel)
set_option maxRecDepth 20000 in
theorem zwe_X0_dropThoseDue : Cond.selects yX0_dropThoseDue.cls yX0_dropThoseDue yX0_dropThoseDue ∈ lw_tbl := List.mem_of_getElem? (i := 11) (by decide +kernel)
set_option maxRecDepth 20000 in
theorem zwc_X0_dueFrom : Cond.code yX0_dueFrom cX0_dueFrom 5 (some .int) ∈ lw_tbl := List.mem_of_getElem? (i := 403) (by decide +kernel)
set_option maxRecDepth 20000 in
theorem zwi_X0_dueFrom : Cond.instanceMethod yX0_dueFrom ∈ lw_tbl := List.mem_of_getElem? (i := 402) (by decide +kernel)
set_option maxRecDepth 20000 in
theorem zwe_X0_dueFrom : Cond.selects yX0_dueFrom.cls yX0_dueFrom yX0_dueFrom ∈ lw_tbl := List.mem_of_getElem? (i := 2) (by decide +kernel)
set_option maxRecDepth 20000 in
theorem zwc_X0_dueOn : Cond.code yX0_dueOn cX0_dueOn 2 (some .int) ∈ lw_tbl := List.mem_of_getElem? (i := 407) (by decide +kernel)
set_option maxRecDepth 20000 in
theorem zwi_X0_dueOn : Cond.instanceMethod yX0_dueOn ∈ lw_tbl := List.mem_of_getElem? (i := 406) (by decide +kernel)
set_option maxRecDepth 20000 in
theorem zwe_X0_dueOn : Cond.selects yX0_dueOn.cls yX0_dueOn yX0_dueOn ∈ lw_tbl := List.mem_of_getElem? (i := 3) (by decide +kernel)
set_option maxRecDepth 20000 in
theorem zwc_X0_give : Cond.code yX0_give cX0_give 5 (some .int) ∈ lw_tbl := List.mem_of_getElem? (i := 467) (by decide +kernel)
set_option maxRecDepth 20000 in
theorem zwi_X0_give : Cond.instanceMethod yX0_give ∈ lw_tbl := List.mem_of_getElem? (i := 466) (by decide +kernel)
set_option maxRecDepth 20000 in
theorem zwe_X0_give : Cond.selects yX0_give.cls yX0_give yX0_give ∈ lw_tbl := List.mem_of_getElem? (i := 9) (by decide +kernel)
set_option maxRecDepth 20000 in
theorem zwc_X0_greatestDue : Cond.code yX0_greatestDue cX0_greatestDue 3 (some .int) ∈ lw_tbl := List.mem_of_getElem? (i := 455) (by decide +kernel)
set_option maxRecDepth 20000 in
theorem zwi_X0_greatestDue : Cond.instanceMethod yX0_greatestDue ∈ lw_tbl := List.mem_of_getElem? (i := 454) (by decide +kernel)
set_option maxRecDepth 20000 in
theorem zwe_X0_greatestDue : Cond.selects yX0_greatestDue.cls yX0_greatestDue yX0_greatestDue ∈ lw_tbl := List.mem_of_getElem? (i := 6) (by decide +kernel)
set_option maxRecDepth 20000 in
theorem zwc_X0_hindrance : Cond.code yX0_hindrance cX0_hindrance 5 (some .int) ∈ lw_tbl := List.mem_of_getElem? (i := 419) (by decide +kernel)
set_option maxRecDepth 20000 in
theorem zwi_X0_hindrance : Cond.instanceMethod yX0_hindrance ∈ lw_tbl := List.mem_of_getElem? (i := 417) (by decide +kernel)
set_option maxRecDepth 20000 in
theorem zwe_X0_hindrance : Cond.selects yX0_hindrance.cls yX0_hindrance yX0_hindrance ∈ lw_tbl := List.mem_of_getElem? (i := 418) (by decide +kernel)
set_option maxRecDepth 20000 in
theorem zwc_X0_init : Cond.code yX0_init cX0_init 2 none ∈ lw_tbl := List.mem_of_getElem? (i := 125) (by decide +kernel)
set_option maxRecDepth 20000 in
theorem zwi_X0_init : Cond.instanceMethod yX0_init ∈ lw_tbl := List.mem_of_getElem? (i := 124) (by decide +kernel)
set_option maxRecDepth 20000 in
theorem zwc_X0_isAlive : Cond.code yX0_isAlive cX0_isAlive 2 (some .boolean) ∈ lw_tbl := List.mem_of_getElem? (i := 391) (by decide +kernel)
set_option maxRecDepth 20000 in
theorem zwi_X0_isAlive : Cond.instanceMethod yX0_isAlive ∈ lw_tbl := List.mem_of_getElem? (i := 389) (by decide +kernel)
set_option maxRecDepth 20000 in
theorem zwe_X0_isAlive : Cond.selects yX0_isAlive.cls yX0_isAlive yX0_isAlive ∈ lw_tbl := List.mem_of_getElem? (i := 390) (by decide +kernel)
set_option maxRecDepth 20000 in
theorem zwc_X0_isDue : Cond.code yX0_isDue cX0_isDue 2 (some .boolean) ∈ lw_tbl := List.mem_of_getElem? (i := 459) (by decide +kernel)
set_option maxRecDepth 20000 in
theorem zwi_X0_isDue : Cond.instanceMethod yX0_isDue ∈ lw_tbl := List.mem_of_getElem? (i := 458) (by decide +kernel)
set_option maxRecDepth 20000 in
theorem zwe_X0_isDue : Cond.selects yX0_isDue.cls yX0_isDue yX0_isDue ∈ lw_tbl := List.mem_of_getElem? (i := 7) (by decide +kernel)
set_option maxRecDepth 20000 in
theorem zwc_X0_isFit : Cond.code yX0_isFit cX0_isFit 5 (some .boolean) ∈ lw_tbl := List.mem_of_getElem? (i := 387) (by decide +kernel)
set_option maxRecDepth 20000 in
theorem zwi_X0_isFit : Cond.instanceMethod yX0_isFit ∈ lw_tbl := List.mem_of_getElem? (i := 385) (by decide +kernel)
set_option maxRecDepth 20000 in
theorem zwe_X0_isFit : Cond.selects yX0_isFit.cls yX0_isFit yX0_isFit ∈ lw_tbl := List.mem_of_getElem? (i := 386) (by decide +kernel)
set_option maxRecDepth 20000 in
theorem zwc_X0_isGranted : Cond.code yX0_isGranted cX0_isGranted 5 (some .boolean) ∈ lw_tbl := List.mem_of_getElem? (i := 399) (by decide +kernel)
set_option maxRecDepth 20000 in
theorem zwi_X0_isGranted : Cond.instanceMethod yX0_isGranted ∈ lw_tbl := List.mem_of_getElem? (i := 397) (by decide +kernel)
set_option maxRecDepth 20000 in
theorem zwe_X0_isGranted : Cond.selects yX0_isGranted.cls yX0_isGranted yX0_isGranted ∈ lw_tbl := List.mem_of_getElem? (i := 398) (by decide +kernel)
set_option maxRecDepth 20000 in
theorem zwc_X0_living : Cond.code yX0_living cX0_living 3 (some .int) ∈ lw_tbl := List.mem_of_getElem? (i := 482) (by decide +kernel)
set_option maxRecDepth 20000 in
theorem zwi_X0_living : Cond.instanceMethod yX0_living ∈ lw_tbl := List.mem_of_getElem? (i := 480) (by decide +kernel)
set_option maxRecDepth 20000 in
theorem zwe_X0_living : Cond.selects yX0_living.cls yX0_living yX0_living ∈ lw_tbl := List.mem_of_getElem? (i := 481) (by decide +kernel)
set_option maxRecDepth 20000 in
theorem zwc_X0_lostByAll : Cond.code yX0_lostByAll cX0_lostByAll 3 (some .int) ∈ lw_tbl := List.mem_of_getElem? (i := 667) (by decide +kernel)
set_option maxRecDepth 20000 in
theorem zwi_X0_lostByAll : Cond.instanceMethod yX0_lostByAll ∈ lw_tbl := List.mem_of_getElem? (i := 665) (by decide +kernel)
set_option maxRecDepth 20000 in
theorem zwe_X0_lostByAll : Cond.selects yX0_lostByAll.cls yX0_lostByAll yX0_lostByAll ∈ lw_tbl := List.mem_of_getElem? (i := 666) (by decide +kernel)
set_option maxRecDepth 20000 in
theorem zwc_X0_lowestOther : Cond.code yX0_lowestOther cX0_lowestOther 4 (some .int) ∈ lw_tbl := List.mem_of_getElem? (i := 474) (by decide +kernel)
set_option maxRecDepth 20000 in
theorem zwi_X0_lowestOther : Cond.instanceMethod yX0_lowestOther ∈ lw_tbl := List.mem_of_getElem? (i := 473) (by decide +kernel)
set_option maxRecDepth 20000 in
theorem zwe_X0_lowestOther : Cond.selects yX0_lowestOther.cls yX0_lowestOther yX0_lowestOther ∈ lw_tbl := List.mem_of_getElem? (i := 10) (by decide +kernel)
set_option maxRecDepth 20000 in
theorem zwc_X0_markLoans : Cond.code yX0_markLoans cX0_markLoans 2 none ∈ lw_tbl := List.mem_of_getElem? (i := 504) (by decide +kernel)
set_option maxRecDepth 20000 in
theorem zwi_X0_markLoans : Cond.instanceMethod yX0_markLoans ∈ lw_tbl := List.mem_of_getElem? (i := 502) (by decide +kernel)
set_option maxRecDepth 20000 in
theorem zwe_X0_markLoans : Cond.selects yX0_markLoans.cls yX0_markLoans yX0_markLoans ∈ lw_tbl := List.mem_of_getElem? (i := 503) (by decide +kernel)
set_option maxRecDepth 20000 in
theorem zwc_X0_open : Cond.code yX0_open cX0_open 2 none ∈ lw_tbl := List.mem_of_getElem? (i := 285) (by decide +kernel)
set_option maxRecDepth 20000 in
theorem zwi_X0_open : Cond.instanceMethod yX0_open ∈ lw_tbl := List.mem_of_getElem? (i := 283) (by decide +kernel)
set_option maxRecDepth 20000 in
theorem zwe_X0_open : Cond.selects yX0_open.cls yX0_open yX0_open ∈ lw_tbl := List.mem_of_getElem? (i := 284) (by decide +kernel)
set_option maxRecDepth 20000 in
theorem zwc_X0_owedToAll : Cond.code yX0_owedToAll cX0_owedToAll 4 (some .int) ∈ lw_tbl := List.mem_of_getElem? (i := 375) (by decide +kernel)
set_option maxRecDepth 20000 in
theorem zwi_X0_owedToAll : Cond.instanceMethod yX0_owedToAll ∈ lw_tbl := List.mem_of_getElem? (i := 373) (by decide +kernel)
set_option maxRecDepth 20000 in
theorem zwe_X0_owedToAll : Cond.selects yX0_owedToAll.cls yX0_owedToAll yX0_owedToAll ∈ lw_tbl := List.mem_of_getElem? (i := 374) (by decide +kernel)
set_option maxRecDepth 20000 in
theorem zwc_X0_pass : Cond.code yX0_pass cX0_pass 3 none ∈ lw_tbl := List.mem_of_getElem? (i := 446) (by decide +kernel)
set_option maxRecDepth 20000 in
theorem zwi_X0_pass : Cond.instanceMethod yX0_pass ∈ lw_tbl := List.mem_of_getElem? (i := 444) (by decide +kernel)
set_option maxRecDepth 20000 in
theorem zwe_X0_pass : Cond.selects yX0_pass.cls yX0_pass yX0_pass ∈ lw_tbl := List.mem_of_getElem? (i := 445) (by decide +kernel)
set_option maxRecDepth 20000 in
theorem zwc_X0_pay : Cond.code yX0_pay cX0_pay 6 none ∈ lw_tbl := List.mem_of_getElem? (i := 463) (by decide +kernel)
set_option maxRecDepth 20000 in
theorem zwi_X0_pay : Cond.instanceMethod yX0_pay ∈ lw_tbl := List.mem_of_getElem? (i := 462) (by decide +kernel)
set_option maxRecDepth 20000 in
theorem zwe_X0_pay : Cond.selects yX0_pay.cls yX0_pay yX0_pay ∈ lw_tbl := List.mem_of_getElem? (i := 8) (by decide +kernel)
set_option maxRecDepth 20000 in
theorem zwc_X0_payThoseDue : Cond.code yX0_payThoseDue cX0_payThoseDue 3 none ∈ lw_tbl := List.mem_of_getElem? (i := 451) (by decide +kernel)
set_option maxRecDepth 20000 in
theorem zwi_X0_payThoseDue : Cond.instanceMethod yX0_payThoseDue ∈ lw_tbl := List.mem_of_getElem? (i := 450) (by decide +kernel)
set_option maxRecDepth 20000 in
theorem zwe_X0_payThoseDue : Cond.selects yX0_payThoseDue.cls yX0_payThoseDue yX0_payThoseDue ∈ lw_tbl := List.mem_of_getElem? (i := 5) (by decide +kernel)
set_option maxRecDepth 20000 in
theorem zwc_X0_weeksToNextDue : Cond.code yX0_weeksToNextDue cX0_weeksToNextDue 4 (some .int) ∈ lw_tbl := List.mem_of_getElem? (i := 514) (by decide +kernel)
set_option maxRecDepth 20000 in
theorem zwi_X0_weeksToNextDue : Cond.instanceMethod yX0_weeksToNextDue ∈ lw_tbl := List.mem_of_getElem? (i := 512) (by decide +kernel)
set_option maxRecDepth 20000 in
theorem zwe_X0_weeksToNextDue : Cond.selects yX0_weeksToNextDue.cls yX0_weeksToNextDue yX0_weeksToNextDue ∈ lw_tbl := List.mem_of_getElem? (i := 513) (by decide +kernel)
set_option maxRecDepth 20000 in
theorem zwc_X1_addToGreatestRest : Cond.code yX1_addToGreatestRest cX1_addToGreatestRest 3 none ∈ lw_tbl := List.mem_of_getElem? (i := 617) (by decide +kernel)
set_option maxRecDepth 20000 in
theorem zwi_X1_addToGreatestRest : Cond.instanceMethod yX1_addToGreatestRest ∈ lw_tbl := List.mem_of_getElem? (i := 616) (by decide +kernel)
set_option maxRecDepth 20000 in
theorem zwe_X1_addToGreatestRest : Cond.selects yX1_addToGreatestRest.cls yX1_addToGreatestRest yX1_addToGreatestRest ∈ lw_tbl := List.mem_of_getElem? (i := 17) (by decide +kernel)
set_option maxRecDepth 20000 in
theorem zwc_X1_init : Cond.code yX1_init cX1_init 1 none ∈ lw_tbl := List.mem_of_getElem? (i := 261) (by decide +kernel)
set_option maxRecDepth 20000 in
theorem zwi_X1_init : Cond.instanceMethod yX1_init ∈ lw_tbl := List.mem_of_getElem? (i := 260) (by decide +kernel)
set_option maxRecDepth 20000 in
theorem zwc_X1_share : Cond.code yX1_share cX1_share 6 none ∈ lw_tbl := List.mem_of_getElem? (i := 612) (by decide +kernel)
set_option maxRecDepth 20000 in
theorem zwi_X1_share : Cond.instanceMethod yX1_share ∈ lw_tbl := List.mem_of_getElem? (i := 610) (by decide +kernel)
set_option maxRecDepth 20000 in
theorem zwe_X1_share : Cond.selects yX1_share.cls yX1_share yX1_share ∈ lw_tbl := List.mem_of_getElem? (i := 611) (by decide +kernel)
set_option maxRecDepth 20000 in
theorem zwc_X1_takeAllOfOne : Cond.code yX1_takeAllOfOne cX1_takeAllOfOne 3 (some .boolean) ∈ lw_tbl := List.mem_of_getElem? (i := 621) (by decide +kernel)
set_option maxRecDepth 20000 in
theorem zwi_X1_takeAllOfOne : Cond.instanceMethod yX1_takeAllOfOne ∈ lw_tbl := List.mem_of_getElem? (i := 619) (by decide +kernel)
set_option maxRecDepth 20000 in
theorem zwe_X1_takeAllOfOne : Cond.selects yX1_takeAllOfOne.cls yX1_takeAllOfOne yX1_takeAllOfOne ∈ lw_tbl := List.mem_of_getElem? (i := 620) (by decide +kernel)
set_option maxRecDepth 20000 in
theorem zwc_X2_clear : Cond.code yX2_clear cX2_clear 4 (some .int) ∈ lw_tbl := List.mem_of_getElem? (i := 601) (by decide +kernel)
set_option maxRecDepth 20000 in
theorem zwi_X2_clear : Cond.instanceMethod yX2_clear ∈ lw_tbl := List.mem_of_getElem? (i := 600) (by decide +kernel)
set_option maxRecDepth 20000 in
theorem zwe_X2_clear : Cond.selects yX2_clear.cls yX2_clear yX2_clear ∈ lw_tbl := List.mem_of_getElem? (i := 16) (by decide +kernel)
set_option maxRecDepth 20000 in
theorem zwc_X2_clearAll : Cond.code yX2_clearAll cX2_clearAll 4 (some .int) ∈ lw_tbl := List.mem_of_getElem? (i := 584) (by decide +kernel)
set_option maxRecDepth 20000 in
theorem zwi_X2_clearAll : Cond.instanceMethod yX2_clearAll ∈ lw_tbl := List.mem_of_getElem? (i := 582) (by decide +kernel)
set_option maxRecDepth 20000 in
theorem zwe_X2_clearAll : Cond.selects yX2_clearAll.cls yX2_clearAll yX2_clearAll ∈ lw_tbl := List.mem_of_getElem? (i := 583) (by decide +kernel)
set_option maxRecDepth 20000 in
theorem zwc_X2_closes : Cond.code yX2_closes cX2_closes 5 (some .boolean) ∈ lw_tbl := List.mem_of_getElem? (i := 592) (by decide +kernel)
set_option maxRecDepth 20000 in
theorem zwi_X2_closes : Cond.instanceMethod yX2_closes ∈ lw_tbl := List.mem_of_getElem? (i := 591) (by decide +kernel)
set_option maxRecDepth 20000 in
theorem zwe_X2_closes : Cond.selects yX2_closes.cls yX2_closes yX2_closes ∈ lw_tbl := List.mem_of_getElem? (i := 14) (by decide +kernel)
set_option maxRecDepth 20000 in
theorem zwc_X2_findShortest : Cond.code yX2_findShortest cX2_findShortest 3 (some .int) ∈ lw_tbl := List.mem_of_getElem? (i := 588) (by decide +kernel)
set_option maxRecDepth 20000 in
theorem zwi_X2_findShortest : Cond.instanceMethod yX2_findShortest ∈ lw_tbl := List.mem_of_getElem? (i := 587) (by decide +kernel)
set_option maxRecDepth 20000 in
theorem zwe_X2_findShortest : Cond.selects yX2_findShortest.cls yX2_findShortest yX2_findShortest ∈ lw_tbl := List.mem_of_getElem? (i := 13) (by decide +kernel)
set_option maxRecDepth 20000 in
theorem zwc_X2_init : Cond.code yX2_init cX2_init 1 none ∈ lw_tbl := List.mem_of_getElem? (i := 242) (by decide +kernel)
set_option maxRecDepth 20000 in
theorem zwi_X2_init : Cond.instanceMethod yX2_init ∈ lw_tbl := List.mem_of_getElem? (i := 241) (by decide +kernel)
set_option maxRecDepth 20000 in
theorem zwc_X2_isPlaced : Cond.code yX2_isPlaced cX2_isPlaced 4 (some .boolean) ∈ lw_tbl := List.mem_of_getElem? (i := 597) (by decide +kernel)
set_option maxRecDepth 20000 in
theorem zwi_X2_isPlaced : Cond.instanceMethod yX2_isPlaced ∈ lw_tbl := List.mem_of_getElem? (i := 596) (by decide +kernel)
set_option maxRecDepth 20000 in
theorem zwe_X2_isPlaced : Cond.selects yX2_isPlaced.cls yX2_isPlaced yX2_isPlaced ∈ lw_tbl := List.mem_of_getElem? (i := 15) (by decide +kernel)
set_option maxRecDepth 20000 in
theorem zwc_X2_readFrom : Cond.code yX2_readFrom cX2_readFrom 4 none ∈ lw_tbl := List.mem_of_getElem? (i := 580) (by decide +kernel)
set_option maxRecDepth 20000 in
theorem zwi_X2_readFrom : Cond.instanceMethod yX2_readFrom ∈ lw_tbl := List.mem_of_getElem? (i := 578) (by decide +kernel)
set_option maxRecDepth 20000 in
theorem zwe_X2_readFrom : Cond.selects yX2_readFrom.cls yX2_readFrom yX2_readFrom ∈ lw_tbl := List.mem_of_getElem? (i := 579) (by decide +kernel)
set_option maxRecDepth 20000 in
theorem zwc_X3_init : Cond.code yX3_init cX3_init 4 none ∈ lw_tbl := List.mem_of_getElem? (i := 201) (by decide +kernel)
set_option maxRecDepth 20000 in
theorem zwi_X3_init : Cond.instanceMethod yX3_init ∈ lw_tbl := List.mem_of_getElem? (i := 200) (by decide +kernel)
set_option maxRecDepth 20000 in
theorem zwc_X3_moveLowestUp : Cond.code yX3_moveLowestUp cX3_moveLowestUp 3 none ∈ lw_tbl := List.mem_of_getElem? (i := 429) (by decide +kernel)
set_option maxRecDepth 20000 in
theorem zwi_X3_moveLowestUp : Cond.instanceMethod yX3_moveLowestUp ∈ lw_tbl := List.mem_of_getElem? (i := 428) (by decide +kernel)
set_option maxRecDepth 20000 in
theorem zwe_X3_moveLowestUp : Cond.selects yX3_moveLowestUp.cls yX3_moveLowestUp yX3_moveLowestUp ∈ lw_tbl := List.mem_of_getElem? (i := 4) (by decide +kernel)
set_option maxRecDepth 20000 in
theorem zwc_X3_put : Cond.code yX3_put cX3_put 2 none ∈ lw_tbl := List.mem_of_getElem? (i := 425) (by decide +kernel)
set_option maxRecDepth 20000 in
theorem zwi_X3_put : Cond.instanceMethod yX3_put ∈ lw_tbl := List.mem_of_getElem? (i := 423) (by decide +kernel)
set_option maxRecDepth 20000 in
theorem zwe_X3_put : Cond.selects yX3_put.cls yX3_put yX3_put ∈ lw_tbl := List.mem_of_getElem? (i := 424) (by decide +kernel)
set_option maxRecDepth 20000 in
theorem zwc_X3_takeInto : Cond.code yX3_takeInto cX3_takeInto 2 (some .int) ∈ lw_tbl := List.mem_of_getElem? (i := 490) (by decide +kernel)
set_option maxRecDepth 20000 in
theorem zwi_X3_takeInto : Cond.instanceMethod yX3_takeInto ∈ lw_tbl := List.mem_of_getElem? (i := 488) (by decide +kernel)
set_option maxRecDepth 20000 in
theorem zwe_X3_takeInto : Cond.selects yX3_takeInto.cls yX3_takeInto yX3_takeInto ∈ lw_tbl := List.mem_of_getElem? (i := 489) (by decide +kernel)
set_option maxRecDepth 20000 in
theorem zwc_X4_accept : Cond.code yX4_accept cX4_accept 3 (some .boolean) ∈ lw_tbl := List.mem_of_getElem? (i := 350) (by decide +kernel)
set_option maxRecDepth 20000 in
theorem zwi_X4_accept : Cond.instanceMethod yX4_accept ∈ lw_tbl := List.mem_of_getElem? (i := 349) (by decide +kernel)
set_option maxRecDepth 20000 in
theorem zwe_X4_accept : Cond.selects yX4_accept.cls yX4_accept yX4_accept ∈ lw_tbl := List.mem_of_getElem? (i := 0) (by decide +kernel)
set_option maxRecDepth 20000 in
theorem zwc_X4_addPerson : Cond.code yX4_addPerson cX4_addPerson 2 (some .boolean) ∈ lw_tbl := List.mem_of_getElem? (i := 278) (by decide +kernel)
set_option maxRecDepth 20000 in
theorem zwi_X4_addPerson : Cond.instanceMethod yX4_addPerson ∈ lw_tbl := List.mem_of_getElem? (i := 276) (by decide +kernel)
set_option maxRecDepth 20000 in
theorem zwe_X4_addPerson : Cond.selects yX4_addPerson.cls yX4_addPerson yX4_addPerson ∈ lw_tbl := List.mem_of_getElem? (i := 277) (by decide +kernel)
set_option maxRecDepth 20000 in
theorem zwc_X4_clear : Cond.code yX4_clear cX4_clear 1 none ∈ lw_tbl := List.mem_of_getElem? (i := 274) (by decide +kernel)
set_option maxRecDepth 20000 in
theorem zwi_X4_clear : Cond.instanceMethod yX4_clear ∈ lw_tbl := List.mem_of_getElem? (i := 272) (by decide +kernel)
set_option maxRecDepth 20000 in
theorem zwe_X4_clear : Cond.selects yX4_clear.cls yX4_clear yX4_clear ∈ lw_tbl := List.mem_of_getElem? (i := 273) (by decide +kernel)
set_option maxRecDepth 20000 in
theorem zwc_X4_copyFrom : Cond.code yX4_copyFrom cX4_copyFrom 2 none ∈ lw_tbl := List.mem_of_getElem? (i := 360) (by decide +kernel)
set_option maxRecDepth 20000 in
theorem zwi_X4_copyFrom : Cond.instanceMethod yX4_copyFrom ∈ lw_tbl := List.mem_of_getElem? (i := 358) (by decide +kernel)
set_option maxRecDepth 20000 in
theorem zwe_X4_copyFrom : Cond.selects yX4_copyFrom.cls yX4_copyFrom yX4_copyFrom ∈ lw_tbl := List.mem_of_getElem? (i := 359) (by decide +kernel)
set_option maxRecDepth 20000 in
theorem zwc_X4_init : Cond.code yX4_init cX4_init 1 none ∈ lw_tbl := List.mem_of_getElem? (i := 96) (by decide +kernel)
set_option maxRecDepth 20000 in
theorem zwi_X4_init : Cond.instanceMethod yX4_init ∈ lw_tbl := List.mem_of_getElem? (i := 95) (by decide +kernel)
set_option maxRecDepth 20000 in
theorem zwc_X4_interestOn : Cond.code yX4_interestOn cX4_interestOn 2 (some .int) ∈ lw_tbl := List.mem_of_getElem? (i := 411) (by decide +kernel)
set_option maxRecDepth 20000 in
theorem zwi_X4_interestOn : Cond.instanceMethod yX4_interestOn ∈ lw_tbl := List.mem_of_getElem? (i := 409) (by decide +kernel)
set_option maxRecDepth 20000 in
theorem zwe_X4_interestOn : Cond.selects yX4_interestOn.cls yX4_interestOn yX4_interestOn ∈ lw_tbl := List.mem_of_getElem? (i := 410) (by decide +kernel)
set_option maxRecDepth 20000 in
theorem zwc_X4_readFrom : Cond.code yX4_readFrom cX4_readFrom 3 (some .int) ∈ lw_tbl := List.mem_of_getElem? (i := 340) (by decide +kernel)
set_option maxRecDepth 20000 in
theorem zwi_X4_readFrom : Cond.instanceMethod yX4_readFrom ∈ lw_tbl := List.mem_of_getElem? (i := 338) (by decide +kernel)
set_option maxRecDepth 20000 in
theorem zwe_X4_readFrom : Cond.selects yX4_readFrom.cls yX4_readFrom yX4_readFrom ∈ lw_tbl := List.mem_of_getElem? (i := 339) (by decide +kernel)
set_option maxRecDepth 20000 in
theorem zwc_X5_append : Cond.code yX5_append cX5_append 5 none ∈ lw_tbl := List.mem_of_getElem? (i := 328) (by decide +kernel)
set_option maxRecDepth 20000 in
theorem zwi_X5_append : Cond.instanceMethod yX5_append ∈ lw_tbl := List.mem_of_getElem? (i := 326) (by decide +kernel)
set_option maxRecDepth 20000 in
theorem zwe_X5_append : Cond.selects yX5_append.cls yX5_append yX5_append ∈ lw_tbl := List.mem_of_getElem? (i := 327) (by decide +kernel)
set_option maxRecDepth 20000 in
theorem zwc_X5_init : Cond.code yX5_init cX5_init 1 none ∈ lw_tbl := List.mem_of_getElem? (i := 68) (by decide +kernel)
set_option maxRecDepth 20000 in
theorem zwi_X5_init : Cond.instanceMethod yX5_init ∈ lw_tbl := List.mem_of_getElem? (i := 67) (by decide +kernel)
set_option maxRecDepth 20000 in
theorem zwc_X5_readItem : Cond.code yX5_readItem cX5_readItem 3 (some .boolean) ∈ lw_tbl := List.mem_of_getElem? (i := 345) (by decide +kernel)
set_option maxRecDepth 20000 in
theorem zwi_X5_readItem : Cond.instanceMethod yX5_readItem ∈ lw_tbl := List.mem_of_getElem? (i := 343) (by decide +kernel)
set_option maxRecDepth 20000 in
theorem zwe_X5_readItem : Cond.selects yX5_readItem.cls yX5_readItem yX5_readItem ∈ lw_tbl := List.mem_of_getElem? (i := 344) (by decide +kernel)
set_option maxRecDepth 20000 in
theorem zwc_X6_add : Cond.code yX6_add cX6_add 4 none ∈ lw_tbl := List.mem_of_getElem? (i := 535) (by decide +kernel)
set_option maxRecDepth 20000 in
theorem zwi_X6_add : Cond.instanceMethod yX6_add ∈ lw_tbl := List.mem_of_getElem? (i := 533) (by decide +kernel)
set_option maxRecDepth 20000 in
theorem zwe_X6_add : Cond.selects yX6_add.cls yX6_add yX6_add ∈ lw_tbl := List.mem_of_getElem? (i := 534) (by decide +kernel)
set_option maxRecDepth 20000 in
theorem zwc_X6_bestDue : Cond.code yX6_bestDue cX6_bestDue 11 (some .int) ∈ lw_tbl := List.mem_of_getElem? (i := 561) (by decide +kernel)
set_option maxRecDepth 20000 in
theorem zwi_X6_bestDue : Cond.instanceMethod yX6_bestDue ∈ lw_tbl := List.mem_of_getElem? (i := 559) (by decide +kernel)
set_option maxRecDepth 20000 in
theorem zwe_X6_bestDue : Cond.selects yX6_bestDue.cls yX6_bestDue yX6_bestDue ∈ lw_tbl := List.mem_of_getElem? (i := 560) (by decide +kernel)
set_option maxRecDepth 20000 in
theorem zwc_X6_greatest : Cond.code yX6_greatest cX6_greatest 4 (some .int) ∈ lw_tbl := List.mem_of_getElem? (i := 552) (by decide +kernel)
set_option maxRecDepth 20000 in
theorem zwi_X6_greatest : Cond.instanceMethod yX6_greatest ∈ lw_tbl := List.mem_of_getElem? (i := 550) (by decide +kernel)
set_option maxRecDepth 20000 in
theorem zwe_X6_greatest : Cond.selects yX6_greatest.cls yX6_greatest yX6_greatest ∈ lw_tbl := List.mem_of_getElem? (i := 551) (by decide +kernel)
set_option maxRecDepth 20000 in
theorem zwc_X6_init : Cond.code yX6_init cX6_init 1 none ∈ lw_tbl := List.mem_of_getElem? (i := 221) (by decide +kernel)
set_option maxRecDepth 20000 in
theorem zwi_X6_init : Cond.instanceMethod yX6_init ∈ lw_tbl := List.mem_of_getElem? (i := 220) (by decide +kernel)
set_option maxRecDepth 20000 in
theorem zwc_X6_least : Cond.code yX6_least cX6_least 4 (some .int) ∈ lw_tbl := List.mem_of_getElem? (i := 547) (by decide +kernel)
set_option maxRecDepth 20000 in
theorem zwi_X6_least : Cond.instanceMethod yX6_least ∈ lw_tbl := List.mem_of_getElem? (i := 545) (by decide +kernel)
set_option maxRecDepth 20000 in
theorem zwe_X6_least : Cond.selects yX6_least.cls yX6_least yX6_least ∈ lw_tbl := List.mem_of_getElem? (i := 546) (by decide +kernel)
set_option maxRecDepth 20000 in
theorem zwc_X6_untrueOf : Cond.code yX6_untrueOf cX6_untrueOf 5 (some .int) ∈ lw_tbl := List.mem_of_getElem? (i := 572) (by decide +kernel)
set_option maxRecDepth 20000 in
theorem zwi_X6_untrueOf : Cond.instanceMethod yX6_untrueOf ∈ lw_tbl := List.mem_of_getElem? (i := 570) (by decide +kernel)
set_option maxRecDepth 20000 in
theorem zwe_X6_untrueOf : Cond.selects yX6_untrueOf.cls yX6_untrueOf yX6_untrueOf ∈ lw_tbl := List.mem_of_getElem? (i := 571) (by decide +kernel)
set_option maxRecDepth 20000 in
theorem zwc_X7_advance : Cond.code yX7_advance cX7_advance 4 none ∈ lw_tbl := List.mem_of_getElem? (i := 510) (by decide +kernel)
set_option maxRecDepth 20000 in
theorem zwi_X7_advance : Cond.instanceMethod yX7_advance ∈ lw_tbl := List.mem_of_getElem? (i := 508) (by decide +kernel)
set_option maxRecDepth 20000 in
theorem zwe_X7_advance : Cond.selects yX7_advance.cls yX7_advance yX7_advance ∈ lw_tbl := List.mem_of_getElem? (i := 509) (by decide +kernel)
set_option maxRecDepth 20000 in
theorem zwc_X7_firstDeadEarlierThan : Cond.code yX7_firstDeadEarlierThan cX7_firstDeadEarlierThan 6 (some .int) ∈ lw_tbl := List.mem_of_getElem? (i := 638) (by decide +kernel)
set_option maxRecDepth 20000 in
theorem zwi_X7_firstDeadEarlierThan : Cond.instanceMethod yX7_firstDeadEarlierThan ∈ lw_tbl := List.mem_of_getElem? (i := 636) (by decide +kernel)
set_option maxRecDepth 20000 in
theorem zwe_X7_firstDeadEarlierThan : Cond.selects yX7_firstDeadEarlierThan.cls yX7_firstDeadEarlierThan yX7_firstDeadEarlierThan ∈ lw_tbl := List.mem_of_getElem? (i := 637) (by decide +kernel)
set_option maxRecDepth 20000 in
theorem zwc_X7_init : Cond.code yX7_init cX7_init 2 none ∈ lw_tbl := List.mem_of_getElem? (i := 181) (by decide +kernel)
set_option maxRecDepth 20000 in
theorem zwi_X7_init : Cond.instanceMethod yX7_init ∈ lw_tbl := List.mem_of_getElem? (i := 180) (by decide +kernel)
set_option maxRecDepth 20000 in
theorem zwc_X7_loansPaidLessThan : Cond.code yX7_loansPaidLessThan cX7_loansPaidLessThan 4 (some .int) ∈ lw_tbl := List.mem_of_getElem? (i := 634) (by decide +kernel)
set_option maxRecDepth 20000 in
theorem zwi_X7_loansPaidLessThan : Cond.instanceMethod yX7_loansPaidLessThan ∈ lw_tbl := List.mem_of_getElem? (i := 632) (by decide +kernel)
set_option maxRecDepth 20000 in
theorem zwe_X7_loansPaidLessThan : Cond.selects yX7_loansPaidLessThan.cls yX7_loansPaidLessThan yX7_loansPaidLessThan ∈ lw_tbl := List.mem_of_getElem? (i := 633) (by decide +kernel)
set_option maxRecDepth 20000 in
theorem zwc_X7_noteDeaths : Cond.code yX7_noteDeaths cX7_noteDeaths 3 none ∈ lw_tbl := List.mem_of_getElem? (i := 519) (by decide +kernel)
set_option maxRecDepth 20000 in
theorem zwi_X7_noteDeaths : Cond.instanceMethod yX7_noteDeaths ∈ lw_tbl := List.mem_of_getElem? (i := 518) (by decide +kernel)
set_option maxRecDepth 20000 in
theorem zwe_X7_noteDeaths : Cond.selects yX7_noteDeaths.cls yX7_noteDeaths yX7_noteDeaths ∈ lw_tbl := List.mem_of_getElem? (i := 12) (by decide +kernel)
set_option maxRecDepth 20000 in
theorem zwc_X7_start : Cond.code yX7_start cX7_start 3 none ∈ lw_tbl := List.mem_of_getElem? (i := 499) (by decide +kernel)
set_option maxRecDepth 20000 in
theorem zwi_X7_start : Cond.instanceMethod yX7_start ∈ lw_tbl := List.mem_of_getElem? (i := 497) (by decide +kernel)
set_option maxRecDepth 20000 in
theorem zwe_X7_start : Cond.selects yX7_start.cls yX7_start yX7_start ∈ lw_tbl := List.mem_of_getElem? (i := 498) (by decide +kernel)
set_option maxRecDepth 20000 in
theorem zwc_X7_startWithout : Cond.code yX7_startWithout cX7_startWithout 3 none ∈ lw_tbl := List.mem_of_getElem? (i := 629) (by decide +kernel)
set_option maxRecDepth 20000 in
theorem zwi_X7_startWithout : Cond.instanceMethod yX7_startWithout ∈ lw_tbl := List.mem_of_getElem? (i := 627) (by decide +kernel)
set_option maxRecDepth 20000 in
theorem zwe_X7_startWithout : Cond.selects yX7_startWithout.cls yX7_startWithout yX7_startWithout ∈ lw_tbl := List.mem_of_getElem? (i := 628) (by decide +kernel)
set_option maxRecDepth 20000 in
theorem zwc_X8_ask : Cond.code yX8_ask cX8_ask 3 (some .int) ∈ lw_tbl := List.mem_of_getElem? (i := 557) (by decide +kernel)
set_option maxRecDepth 20000 in
theorem zwi_X8_ask : Cond.instanceMethod yX8_ask ∈ lw_tbl := List.mem_of_getElem? (i := 555) (by decide +kernel)
set_option maxRecDepth 20000 in
theorem zwe_X8_ask : Cond.selects yX8_ask.cls yX8_ask yX8_ask ∈ lw_tbl := List.mem_of_getElem? (i := 556) (by decide +kernel)
set_option maxRecDepth 20000 in
theorem zwc_X8_back : Cond.code yX8_back cX8_back 2 (some .int) ∈ lw_tbl := List.mem_of_getElem? (i := 675) (by decide +kernel)
set_option maxRecDepth 20000 in
theorem zwi_X8_back : Cond.instanceMethod yX8_back ∈ lw_tbl := List.mem_of_getElem? (i := 673) (by decide +kernel)
set_option maxRecDepth 20000 in
theorem zwe_X8_back : Cond.selects yX8_back.cls yX8_back yX8_back ∈ lw_tbl := List.mem_of_getElem? (i := 674) (by decide +kernel)
set_option maxRecDepth 20000 in
theorem zwc_X8_bribed : Cond.code yX8_bribed cX8_bribed 1 (some .int) ∈ lw_tbl := List.mem_of_getElem? (i := 568) (by decide +kernel)
set_option maxRecDepth 20000 in
theorem zwi_X8_bribed : Cond.instanceMethod yX8_bribed ∈ lw_tbl := List.mem_of_getElem? (i := 566) (by decide +kernel)
set_option maxRecDepth 20000 in
theorem zwe_X8_bribed : Cond.selects yX8_bribed.cls yX8_bribed yX8_bribed ∈ lw_tbl := List.mem_of_getElem? (i := 567) (by decide +kernel)
set_option maxRecDepth 20000 in
theorem zwc_X8_burned : Cond.code yX8_burned cX8_burned 6 (some .int) ∈ lw_tbl := List.mem_of_getElem? (i := 642) (by decide +kernel)
set_option maxRecDepth 20000 in
theorem zwi_X8_burned : Cond.instanceMethod yX8_burned ∈ lw_tbl := List.mem_of_getElem? (i := 640) (by decide +kernel)
set_option maxRecDepth 20000 in
theorem zwe_X8_burned : Cond.selects yX8_burned.cls yX8_burned yX8_burned ∈ lw_tbl := List.mem_of_getElem? (i := 641) (by decide +kernel)
set_option maxRecDepth 20000 in
theorem zwc_X8_child : Cond.code yX8_child cX8_child 3 (some .int) ∈ lw_tbl := List.mem_of_getElem? (i := 607) (by decide +kernel)
set_option maxRecDepth 20000 in
theorem zwi_X8_child : Cond.instanceMethod yX8_child ∈ lw_tbl := List.mem_of_getElem? (i := 605) (by decide +kernel)
set_option maxRecDepth 20000 in
theorem zwe_X8_child : Cond.selects yX8_child.cls yX8_child yX8_child ∈ lw_tbl := List.mem_of_getElem? (i := 606) (by decide +kernel)
set_option maxRecDepth 20000 in
theorem zwc_X8_cleared : Cond.code yX8_cleared cX8_cleared 5 (some .int) ∈ lw_tbl := List.mem_of_getElem? (i := 576) (by decide +kernel)
set_option maxRecDepth 20000 in
theorem zwi_X8_cleared : Cond.instanceMethod yX8_cleared ∈ lw_tbl := List.mem_of_getElem? (i := 574) (by decide +kernel)
set_option maxRecDepth 20000 in
theorem zwe_X8_cleared : Cond.selects yX8_cleared.cls yX8_cleared yX8_cleared ∈ lw_tbl := List.mem_of_getElem? (i := 575) (by decide +kernel)
set_option maxRecDepth 20000 in
theorem zwc_X8_count : Cond.code yX8_count cX8_count 2 (some .int) ∈ lw_tbl := List.mem_of_getElem? (i := 679) (by decide +kernel)
set_option maxRecDepth 20000 in
theorem zwi_X8_count : Cond.instanceMethod yX8_count ∈ lw_tbl := List.mem_of_getElem? (i := 677) (by decide +kernel)
set_option maxRecDepth 20000 in
theorem zwe_X8_count : Cond.selects yX8_count.cls yX8_count yX8_count ∈ lw_tbl := List.mem_of_getElem? (i := 678) (by decide +kernel)
set_option maxRecDepth 20000 in
theorem zwc_X8_dies : Cond.code yX8_dies cX8_dies 2 (some .int) ∈ lw_tbl := List.mem_of_getElem? (i := 495) (by decide +kernel)
set_option maxRecDepth 20000 in
theorem zwi_X8_dies : Cond.instanceMethod yX8_dies ∈ lw_tbl := List.mem_of_getElem? (i := 493) (by decide +kernel)
set_option maxRecDepth 20000 in
theorem zwe_X8_dies : Cond.selects yX8_dies.cls yX8_dies yX8_dies ∈ lw_tbl := List.mem_of_getElem? (i := 494) (by decide +kernel)
set_option maxRecDepth 20000 in
theorem zwc_X8_draw : Cond.code yX8_draw cX8_draw 5 (some .int) ∈ lw_tbl := List.mem_of_getElem? (i := 659) (by decide +kernel)
set_option maxRecDepth 20000 in
theorem zws_X8_draw : Cond.static yX8_draw ∈ lw_tbl := List.mem_of_getElem? (i := 658) (by decide +kernel)
set_option maxRecDepth 20000 in
theorem zwc_X8_drawn : Cond.code yX8_drawn cX8_drawn 5 (some .int) ∈ lw_tbl := List.mem_of_getElem? (i := 652) (by decide +kernel)
set_option maxRecDepth 20000 in
theorem zwi_X8_drawn : Cond.instanceMethod yX8_drawn ∈ lw_tbl := List.mem_of_getElem? (i := 650) (by decide +kernel)
set_option maxRecDepth 20000 in
theorem zwe_X8_drawn : Cond.selects yX8_drawn.cls yX8_drawn yX8_drawn ∈ lw_tbl := List.mem_of_getElem? (i := 651) (by decide +kernel)
set_option maxRecDepth 20000 in
theorem zwc_X8_falls : Cond.code yX8_falls cX8_falls 3 (some .int) ∈ lw_tbl := List.mem_of_getElem? (i := 625) (by decide +kernel)
set_option maxRecDepth 20000 in
theorem zwi_X8_falls : Cond.instanceMethod yX8_falls ∈ lw_tbl := List.mem_of_getElem? (i := 623) (by decide +kernel)
set_option maxRecDepth 20000 in
theorem zwe_X8_falls : Cond.selects yX8_falls.cls yX8_falls yX8_falls ∈ lw_tbl := List.mem_of_getElem? (i := 624) (by decide +kernel)
set_option maxRecDepth 20000 in
theorem zwc_X8_fault : Cond.code yX8_fault cX8_fault 1 (some .int) ∈ lw_tbl := List.mem_of_getElem? (i := 336) (by decide +kernel)
set_option maxRecDepth 20000 in
theorem zwi_X8_fault : Cond.instanceMethod yX8_fault ∈ lw_tbl := List.mem_of_getElem? (i := 334) (by decide +kernel)
set_option maxRecDepth 20000 in
theorem zwe_X8_fault : Cond.selects yX8_fault.cls yX8_fault yX8_fault ∈ lw_tbl := List.mem_of_getElem? (i := 335) (by decide +kernel)
set_option maxRecDepth 20000 in
theorem zwc_X8_forget : Cond.code yX8_forget cX8_forget 2 (some .int) ∈ lw_tbl := List.mem_of_getElem? (i := 539) (by decide +kernel)
set_option maxRecDepth 20000 in
theorem zwi_X8_forget : Cond.instanceMethod yX8_forget ∈ lw_tbl := List.mem_of_getElem? (i := 537) (by decide +kernel)
set_option maxRecDepth 20000 in
theorem zwe_X8_forget : Cond.selects yX8_forget.cls yX8_forget yX8_forget ∈ lw_tbl := List.mem_of_getElem? (i := 538) (by decide +kernel)
set_option maxRecDepth 20000 in
theorem zwc_X8_init : Cond.code yX8_init cX8_init 1 none ∈ lw_tbl := List.mem_of_getElem? (i := 60) (by decide +kernel)
set_option maxRecDepth 20000 in
theorem zwi_X8_init : Cond.instanceMethod yX8_init ∈ lw_tbl := List.mem_of_getElem? (i := 59) (by decide +kernel)
set_option maxRecDepth 20000 in
theorem zwc_X8_isLoanOf : Cond.code yX8_isLoanOf cX8_isLoanOf 2 (some .boolean) ∈ lw_tbl := List.mem_of_getElem? (i := 395) (by decide +kernel)
set_option maxRecDepth 20000 in
theorem zws_X8_isLoanOf : Cond.static yX8_isLoanOf ∈ lw_tbl := List.mem_of_getElem? (i := 394) (by decide +kernel)
set_option maxRecDepth 20000 in
theorem zwc_X8_isPerson : Cond.code yX8_isPerson cX8_isPerson 2 (some .boolean) ∈ lw_tbl := List.mem_of_getElem? (i := 371) (by decide +kernel)
set_option maxRecDepth 20000 in
theorem zwi_X8_isPerson : Cond.instanceMethod yX8_isPerson ∈ lw_tbl := List.mem_of_getElem? (i := 370) (by decide +kernel)
set_option maxRecDepth 20000 in
theorem zwe_X8_isPerson : Cond.selects yX8_isPerson.cls yX8_isPerson yX8_isPerson ∈ lw_tbl := List.mem_of_getElem? (i := 1) (by decide +kernel)
set_option maxRecDepth 20000 in
theorem zwc_X8_keep : Cond.code yX8_keep cX8_keep 1 (some .int) ∈ lw_tbl := List.mem_of_getElem? (i := 671) (by decide +kernel)
set_option maxRecDepth 20000 in
theorem zwi_X8_keep : Cond.instanceMethod yX8_keep ∈ lw_tbl := List.mem_of_getElem? (i := 669) (by decide +kernel)
set_option maxRecDepth 20000 in
theorem zwe_X8_keep : Cond.selects yX8_keep.cls yX8_keep yX8_keep ∈ lw_tbl := List.mem_of_getElem? (i := 670) (by decide +kernel)
set_option maxRecDepth 20000 in
theorem zwc_X8_lay : Cond.code yX8_lay cX8_lay 1 (some .int) ∈ lw_tbl := List.mem_of_getElem? (i := 356) (by decide +kernel)
set_option maxRecDepth 20000 in
theorem zwi_X8_lay : Cond.instanceMethod yX8_lay ∈ lw_tbl := List.mem_of_getElem? (i := 354) (by decide +kernel)
set_option maxRecDepth 20000 in
theorem zwe_X8_lay : Cond.selects yX8_lay.cls yX8_lay yX8_lay ∈ lw_tbl := List.mem_of_getElem? (i := 355) (by decide +kernel)
set_option maxRecDepth 20000 in
theorem zwc_X8_lend : Cond.code yX8_lend cX8_lend 6 (some .int) ∈ lw_tbl := List.mem_of_getElem? (i := 415) (by decide +kernel)
set_option maxRecDepth 20000 in
theorem zwi_X8_lend : Cond.instanceMethod yX8_lend ∈ lw_tbl := List.mem_of_getElem? (i := 413) (by decide +kernel)
set_option maxRecDepth 20000 in
theorem zwe_X8_lend : Cond.selects yX8_lend.cls yX8_lend yX8_lend ∈ lw_tbl := List.mem_of_getElem? (i := 414) (by decide +kernel)
set_option maxRecDepth 20000 in
theorem zwc_X8_lendByDraw : Cond.code yX8_lendByDraw cX8_lendByDraw 9 none ∈ lw_tbl := List.mem_of_getElem? (i := 656) (by decide +kernel)
set_option maxRecDepth 20000 in
theorem zwi_X8_lendByDraw : Cond.instanceMethod yX8_lendByDraw ∈ lw_tbl := List.mem_of_getElem? (i := 655) (by decide +kernel)
set_option maxRecDepth 20000 in
theorem zwe_X8_lendByDraw : Cond.selects yX8_lendByDraw.cls yX8_lendByDraw yX8_lendByDraw ∈ lw_tbl := List.mem_of_getElem? (i := 18) (by decide +kernel)
set_option maxRecDepth 20000 in
theorem zwc_X8_loan : Cond.code yX8_loan cX8_loan 3 (some .int) ∈ lw_tbl := List.mem_of_getElem? (i := 379) (by decide +kernel)
set_option maxRecDepth 20000 in
theorem zwi_X8_loan : Cond.instanceMethod yX8_loan ∈ lw_tbl := List.mem_of_getElem? (i := 377) (by decide +kernel)
set_option maxRecDepth 20000 in
theorem zwe_X8_loan : Cond.selects yX8_loan.cls yX8_loan yX8_loan ∈ lw_tbl := List.mem_of_getElem? (i := 378) (by decide +kernel)
set_option maxRecDepth 20000 in
theorem zwc_X8_notary : Cond.code yX8_notary cX8_notary 5 (some .int) ∈ lw_tbl := List.mem_of_getElem? (i := 383) (by decide +kernel)
set_option maxRecDepth 20000 in
theorem zwi_X8_notary : Cond.instanceMethod yX8_notary ∈ lw_tbl := List.mem_of_getElem? (i := 381) (by decide +kernel)
set_option maxRecDepth 20000 in
theorem zwe_X8_notary : Cond.selects yX8_notary.cls yX8_notary yX8_notary ∈ lw_tbl := List.mem_of_getElem? (i := 382) (by decide +kernel)
set_option maxRecDepth 20000 in
theorem zwc_X8_numberOfFirstRow : Cond.code yX8_numberOfFirstRow cX8_numberOfFirstRow 7 (some .int) ∈ lw_tbl := List.mem_of_getElem? (i := 648) (by decide +kernel)
set_option maxRecDepth 20000 in
theorem zws_X8_numberOfFirstRow : Cond.static yX8_numberOfFirstRow ∈ lw_tbl := List.mem_of_getElem? (i := 647) (by decide +kernel)
set_option maxRecDepth 20000 in
theorem zwc_X8_person : Cond.code yX8_person cX8_person 3 (some .int) ∈ lw_tbl := List.mem_of_getElem? (i := 367) (by decide +kernel)
set_option maxRecDepth 20000 in
theorem zwi_X8_person : Cond.instanceMethod yX8_person ∈ lw_tbl := List.mem_of_getElem? (i := 365) (by decide +kernel)
set_option maxRecDepth 20000 in
theorem zwe_X8_person : Cond.selects yX8_person.cls yX8_person yX8_person ∈ lw_tbl := List.mem_of_getElem? (i := 366) (by decide +kernel)
set_option maxRecDepth 20000 in
theorem zwc_X8_rowsOf : Cond.code yX8_rowsOf cX8_rowsOf 6 (some .int) ∈ lw_tbl := List.mem_of_getElem? (i := 645) (by decide +kernel)
set_option maxRecDepth 20000 in
theorem zws_X8_rowsOf : Cond.static yX8_rowsOf ∈ lw_tbl := List.mem_of_getElem? (i := 644) (by decide +kernel)
set_option maxRecDepth 20000 in
theorem zwc_X8_run : Cond.code yX8_run cX8_run 4 (some .int) ∈ lw_tbl := List.mem_of_getElem? (i := 525) (by decide +kernel)
set_option maxRecDepth 20000 in
theorem zwi_X8_run : Cond.instanceMethod yX8_run ∈ lw_tbl := List.mem_of_getElem? (i := 523) (by decide +kernel)
set_option maxRecDepth 20000 in
theorem zwe_X8_run : Cond.selects yX8_run.cls yX8_run yX8_run ∈ lw_tbl := List.mem_of_getElem? (i := 524) (by decide +kernel)
set_option maxRecDepth 20000 in
theorem zwc_X8_span : Cond.code yX8_span cX8_span 5 (some .int) ∈ lw_tbl := List.mem_of_getElem? (i := 543) (by decide +kernel)
set_option maxRecDepth 20000 in
theorem zwi_X8_span : Cond.instanceMethod yX8_span ∈ lw_tbl := List.mem_of_getElem? (i := 541) (by decide +kernel)
set_option maxRecDepth 20000 in
theorem zwe_X8_span : Cond.selects yX8_span.cls yX8_span yX8_span ∈ lw_tbl := List.mem_of_getElem? (i := 542) (by decide +kernel)
set_option maxRecDepth 20000 in
theorem zwc_X8_tell : Cond.code yX8_tell cX8_tell 5 (some .int) ∈ lw_tbl := List.mem_of_getElem? (i := 529) (by decide +kernel)
set_option maxRecDepth 20000 in
theorem zwi_X8_tell : Cond.instanceMethod yX8_tell ∈ lw_tbl := List.mem_of_getElem? (i := 527) (by decide +kernel)
set_option maxRecDepth 20000 in
theorem zwe_X8_tell : Cond.selects yX8_tell.cls yX8_tell yX8_tell ∈ lw_tbl := List.mem_of_getElem? (i := 528) (by decide +kernel)
set_option maxRecDepth 20000 in
theorem zwc_X8_undo : Cond.code yX8_undo cX8_undo 1 (some .int) ∈ lw_tbl := List.mem_of_getElem? (i := 486) (by decide +kernel)
set_option maxRecDepth 20000 in
theorem zwi_X8_undo : Cond.instanceMethod yX8_undo ∈ lw_tbl := List.mem_of_getElem? (i := 484) (by decide +kernel)
set_option maxRecDepth 20000 in
theorem zwe_X8_undo : Cond.selects yX8_undo.cls yX8_undo yX8_undo ∈ lw_tbl := List.mem_of_getElem? (i := 485) (by decide +kernel)
set_option maxRecDepth 20000 in
theorem zwc_X8_week : Cond.code yX8_week cX8_week 1 (some .int) ∈ lw_tbl := List.mem_of_getElem? (i := 442) (by decide +kernel)
set_option maxRecDepth 20000 in
theorem zwi_X8_week : Cond.instanceMethod yX8_week ∈ lw_tbl := List.mem_of_getElem? (i := 440) (by decide +kernel)
set_option maxRecDepth 20000 in
theorem zwe_X8_week : Cond.selects yX8_week.cls yX8_week yX8_week ∈ lw_tbl := List.mem_of_getElem? (i := 441) (by decide +kernel)
set_option maxRecDepth 20000 in
theorem zwc_X8_wipe : Cond.code yX8_wipe cX8_wipe 2 (some .int) ∈ lw_tbl := List.mem_of_getElem? (i := 332) (by decide +kernel)
set_option maxRecDepth 20000 in
theorem zwi_X8_wipe : Cond.instanceMethod yX8_wipe ∈ lw_tbl := List.mem_of_getElem? (i := 330) (by decide +kernel)
set_option maxRecDepth 20000 in
theorem zwe_X8_wipe : Cond.selects yX8_wipe.cls yX8_wipe yX8_wipe ∈ lw_tbl := List.mem_of_getElem? (i := 331) (by decide +kernel)
set_option maxRecDepth 20000 in
theorem zwc_X8_within : Cond.code yX8_within cX8_within 3 (some .boolean) ∈ lw_tbl := List.mem_of_getElem? (i := 281) (by decide +kernel)
set_option maxRecDepth 20000 in
theorem zws_X8_within : Cond.static yX8_within ∈ lw_tbl := List.mem_of_getElem? (i := 280) (by decide +kernel)
set_option maxRecDepth 20000 in
theorem zwc_X8_write : Cond.code yX8_write cX8_write 4 (some .int) ∈ lw_tbl := List.mem_of_getElem? (i := 323) (by decide +kernel)
set_option maxRecDepth 20000 in
theorem zwi_X8_write : Cond.instanceMethod yX8_write ∈ lw_tbl := List.mem_of_getElem? (i := 321) (by decide +kernel)
set_option maxRecDepth 20000 in
theorem zwe_X8_write : Cond.selects yX8_write.cls yX8_write yX8_write ∈ lw_tbl := List.mem_of_getElem? (i := 322) (by decide +kernel)
set_option maxRecDepth 20000 in
theorem zwc_X9_aside : Cond.code yX9_aside cX9_aside 3 none ∈ lw_tbl := List.mem_of_getElem? (i := 893) (by decide +kernel)
set_option maxRecDepth 20000 in
theorem zwi_X9_aside : Cond.instanceMethod yX9_aside ∈ lw_tbl := List.mem_of_getElem? (i := 892) (by decide +kernel)
set_option maxRecDepth 20000 in
theorem zwe_X9_aside : Cond.selects yX9_aside.cls yX9_aside yX9_aside ∈ lw_tbl := List.mem_of_getElem? (i := 36) (by decide +kernel)
set_option maxRecDepth 20000 in
theorem zwc_X9_ask : Cond.code yX9_ask cX9_ask 10 (some .int) ∈ lw_tbl := List.mem_of_getElem? (i := 921) (by decide +kernel)
set_option maxRecDepth 20000 in
theorem zwi_X9_ask : Cond.instanceMethod yX9_ask ∈ lw_tbl := List.mem_of_getElem? (i := 919) (by decide +kernel)
set_option maxRecDepth 20000 in
theorem zwe_X9_ask : Cond.selects yX9_ask.cls yX9_ask yX9_ask ∈ lw_tbl := List.mem_of_getElem? (i := 920) (by decide +kernel)
set_option maxRecDepth 20000 in
theorem zwc_X9_back : Cond.code yX9_back cX9_back 2 (some .int) ∈ lw_tbl := List.mem_of_getElem? (i := 976) (by decide +kernel)
set_option maxRecDepth 20000 in
theorem zwi_X9_back : Cond.instanceMethod yX9_back ∈ lw_tbl := List.mem_of_getElem? (i := 974) (by decide +kernel)
set_option maxRecDepth 20000 in
theorem zwe_X9_back : Cond.selects yX9_back.cls yX9_back yX9_back ∈ lw_tbl := List.mem_of_getElem? (i := 975) (by decide +kernel)
set_option maxRecDepth 20000 in
theorem zwc_X9_begins : Cond.code yX9_begins cX9_begins 2 none ∈ lw_tbl := List.mem_of_getElem? (i := 689) (by decide +kernel)
set_option maxRecDepth 20000 in
theorem zwi_X9_begins : Cond.instanceMethod yX9_begins ∈ lw_tbl := List.mem_of_getElem? (i := 688) (by decide +kernel)
set_option maxRecDepth 20000 in
theorem zwe_X9_begins : Cond.selects yX9_begins.cls yX9_begins yX9_begins ∈ lw_tbl := List.mem_of_getElem? (i := 19) (by decide +kernel)
set_option maxRecDepth 20000 in
theorem zwc_X9_bribed : Cond.code yX9_bribed cX9_bribed 3 (some .int) ∈ lw_tbl := List.mem_of_getElem? (i := 925) (by decide +kernel)
set_option maxRecDepth 20000 in
theorem zwi_X9_bribed : Cond.instanceMethod yX9_bribed ∈ lw_tbl := List.mem_of_getElem? (i := 923) (by decide +kernel)
set_option maxRecDepth 20000 in
theorem zwe_X9_bribed : Cond.selects yX9_bribed.cls yX9_bribed yX9_bribed ∈ lw_tbl := List.mem_of_getElem? (i := 924) (by decide +kernel)
set_option maxRecDepth 20000 in
theorem zwc_X9_burned : Cond.code yX9_burned cX9_burned 12 (some .int) ∈ lw_tbl := List.mem_of_getElem? (i := 957) (by decide +kernel)
set_option maxRecDepth 20000 in
theorem zwi_X9_burned : Cond.instanceMethod yX9_burned ∈ lw_tbl := List.mem_of_getElem? (i := 955) (by decide +kernel)
set_option maxRecDepth 20000 in
theorem zwe_X9_burned : Cond.selects yX9_burned.cls yX9_burned yX9_burned ∈ lw_tbl := List.mem_of_getElem? (i := 956) (by decide +kernel)
set_option maxRecDepth 20000 in
theorem zwc_X9_byteAt : Cond.code yX9_byteAt cX9_byteAt 2 (some .int) ∈ lw_tbl := List.mem_of_getElem? (i := 795) (by decide +kernel)
set_option maxRecDepth 20000 in
theorem zwi_X9_byteAt : Cond.instanceMethod yX9_byteAt ∈ lw_tbl := List.mem_of_getElem? (i := 794) (by decide +kernel)
set_option maxRecDepth 20000 in
theorem zwe_X9_byteAt : Cond.selects yX9_byteAt.cls yX9_byteAt yX9_byteAt ∈ lw_tbl := List.mem_of_getElem? (i := 21) (by decide +kernel)
set_option maxRecDepth 20000 in
theorem zwc_X9_child : Cond.code yX9_child cX9_child 3 (some .int) ∈ lw_tbl := List.mem_of_getElem? (i := 941) (by decide +kernel)
set_option maxRecDepth 20000 in
theorem zwi_X9_child : Cond.instanceMethod yX9_child ∈ lw_tbl := List.mem_of_getElem? (i := 939) (by decide +kernel)
set_option maxRecDepth 20000 in
theorem zwe_X9_child : Cond.selects yX9_child.cls yX9_child yX9_child ∈ lw_tbl := List.mem_of_getElem? (i := 940) (by decide +kernel)
set_option maxRecDepth 20000 in
theorem zwc_X9_cleared : Cond.code yX9_cleared cX9_cleared 5 (some .int) ∈ lw_tbl := List.mem_of_getElem? (i := 929) (by decide +kernel)
set_option maxRecDepth 20000 in
theorem zwi_X9_cleared : Cond.instanceMethod yX9_cleared ∈ lw_tbl := List.mem_of_getElem? (i := 927) (by decide +kernel)
set_option maxRecDepth 20000 in
theorem zwe_X9_cleared : Cond.selects yX9_cleared.cls yX9_cleared yX9_cleared ∈ lw_tbl := List.mem_of_getElem? (i := 928) (by decide +kernel)
set_option maxRecDepth 20000 in
theorem zwc_X9_clears : Cond.code yX9_clears cX9_clears 6 (some .int) ∈ lw_tbl := List.mem_of_getElem? (i := 933) (by decide +kernel)
set_option maxRecDepth 20000 in
theorem zwi_X9_clears : Cond.instanceMethod yX9_clears ∈ lw_tbl := List.mem_of_getElem? (i := 932) (by decide +kernel)
set_option maxRecDepth 20000 in
theorem zwe_X9_clears : Cond.selects yX9_clears.cls yX9_clears yX9_clears ∈ lw_tbl := List.mem_of_getElem? (i := 39) (by decide +kernel)
set_option maxRecDepth 20000 in
theorem zwc_X9_count : Cond.code yX9_count cX9_count 2 (some .int) ∈ lw_tbl := List.mem_of_getElem? (i := 980) (by decide +kernel)
set_option maxRecDepth 20000 in
theorem zwi_X9_count : Cond.instanceMethod yX9_count ∈ lw_tbl := List.mem_of_getElem? (i := 978) (by decide +kernel)
set_option maxRecDepth 20000 in
theorem zwe_X9_count : Cond.selects yX9_count.cls yX9_count yX9_count ∈ lw_tbl := List.mem_of_getElem? (i := 979) (by decide +kernel)
set_option maxRecDepth 20000 in
theorem zwc_X9_dies : Cond.code yX9_dies cX9_dies 3 (some .int) ∈ lw_tbl := List.mem_of_getElem? (i := 889) (by decide +kernel)
set_option maxRecDepth 20000 in
theorem zwi_X9_dies : Cond.instanceMethod yX9_dies ∈ lw_tbl := List.mem_of_getElem? (i := 887) (by decide +kernel)
set_option maxRecDepth 20000 in
theorem zwe_X9_dies : Cond.selects yX9_dies.cls yX9_dies yX9_dies ∈ lw_tbl := List.mem_of_getElem? (i := 888) (by decide +kernel)
set_option maxRecDepth 20000 in
theorem zwc_X9_draw : Cond.code yX9_draw cX9_draw 5 (some .int) ∈ lw_tbl := List.mem_of_getElem? (i := 964) (by decide +kernel)
set_option maxRecDepth 20000 in
theorem zws_X9_draw : Cond.static yX9_draw ∈ lw_tbl := List.mem_of_getElem? (i := 963) (by decide +kernel)
set_option maxRecDepth 20000 in
theorem zwc_X9_drawn : Cond.code yX9_drawn cX9_drawn 9 (some .int) ∈ lw_tbl := List.mem_of_getElem? (i := 961) (by decide +kernel)
set_option maxRecDepth 20000 in
theorem zwi_X9_drawn : Cond.instanceMethod yX9_drawn ∈ lw_tbl := List.mem_of_getElem? (i := 959) (by decide +kernel)
set_option maxRecDepth 20000 in
theorem zwe_X9_drawn : Cond.selects yX9_drawn.cls yX9_drawn yX9_drawn ∈ lw_tbl := List.mem_of_getElem? (i := 960) (by decide +kernel)
set_option maxRecDepth 20000 in
theorem zwc_X9_drops : Cond.code yX9_drops cX9_drops 4 none ∈ lw_tbl := List.mem_of_getElem? (i := 877) (by decide +kernel)
set_option maxRecDepth 20000 in
theorem zwi_X9_drops : Cond.instanceMethod yX9_drops ∈ lw_tbl := List.mem_of_getElem? (i := 876) (by decide +kernel)
set_option maxRecDepth 20000 in
theorem zwe_X9_drops : Cond.selects yX9_drops.cls yX9_drops yX9_drops ∈ lw_tbl := List.mem_of_getElem? (i := 34) (by decide +kernel)
set_option maxRecDepth 20000 in
theorem zwc_X9_dueNow : Cond.code yX9_dueNow cX9_dueNow 6 (some .int) ∈ lw_tbl := List.mem_of_getElem? (i := 862) (by decide +kernel)
set_option maxRecDepth 20000 in
theorem zwi_X9_dueNow : Cond.instanceMethod yX9_dueNow ∈ lw_tbl := List.mem_of_getElem? (i := 861) (by decide +kernel)
set_option maxRecDepth 20000 in
theorem zwe_X9_dueNow : Cond.selects yX9_dueNow.cls yX9_dueNow yX9_dueNow ∈ lw_tbl := List.mem_of_getElem? (i := 31) (by decide +kernel)
set_option maxRecDepth 20000 in
theorem zwc_X9_dueOf : Cond.code yX9_dueOf cX9_dueOf 2 (some .int) ∈ lw_tbl := List.mem_of_getElem? (i := 838) (by decide +kernel)
set_option maxRecDepth 20000 in
theorem zwi_X9_dueOf : Cond.instanceMethod yX9_dueOf ∈ lw_tbl := List.mem_of_getElem? (i := 837) (by decide +kernel)
set_option maxRecDepth 20000 in
theorem zwe_X9_dueOf : Cond.selects yX9_dueOf.cls yX9_dueOf yX9_dueOf ∈ lw_tbl := List.mem_of_getElem? (i := 27) (by decide +kernel)
set_option maxRecDepth 20000 in
theorem zwc_X9_falls : Cond.code yX9_falls cX9_falls 8 (some .int) ∈ lw_tbl := List.mem_of_getElem? (i := 949) (by decide +kernel)
set_option maxRecDepth 20000 in
theorem zwi_X9_falls : Cond.instanceMethod yX9_falls ∈ lw_tbl := List.mem_of_getElem? (i := 947) (by decide +kernel)
set_option maxRecDepth 20000 in
theorem zwe_X9_falls : Cond.selects yX9_falls.cls yX9_falls yX9_falls ∈ lw_tbl := List.mem_of_getElem? (i := 948) (by decide +kernel)
set_option maxRecDepth 20000 in
theorem zwc_X9_fault : Cond.code yX9_fault cX9_fault 1 (some .int) ∈ lw_tbl := List.mem_of_getElem? (i := 787) (by decide +kernel)
set_option maxRecDepth 20000 in
theorem zwi_X9_fault : Cond.instanceMethod yX9_fault ∈ lw_tbl := List.mem_of_getElem? (i := 785) (by decide +kernel)
set_option maxRecDepth 20000 in
theorem zwe_X9_fault : Cond.selects yX9_fault.cls yX9_fault yX9_fault ∈ lw_tbl := List.mem_of_getElem? (i := 786) (by decide +kernel)
set_option maxRecDepth 20000 in
theorem zwc_X9_faultOf : Cond.code yX9_faultOf cX9_faultOf 5 (some .int) ∈ lw_tbl := List.mem_of_getElem? (i := 791) (by decide +kernel)
set_option maxRecDepth 20000 in
theorem zwi_X9_faultOf : Cond.instanceMethod yX9_faultOf ∈ lw_tbl := List.mem_of_getElem? (i := 790) (by decide +kernel)
set_option maxRecDepth 20000 in
theorem zwe_X9_faultOf : Cond.selects yX9_faultOf.cls yX9_faultOf yX9_faultOf ∈ lw_tbl := List.mem_of_getElem? (i := 20) (by decide +kernel)
set_option maxRecDepth 20000 in
theorem zwc_X9_findsRing : Cond.code yX9_findsRing cX9_findsRing 8 (some .boolean) ∈ lw_tbl := List.mem_of_getElem? (i := 937) (by decide +kernel)
set_option maxRecDepth 20000 in
theorem zwi_X9_findsRing : Cond.instanceMethod yX9_findsRing ∈ lw_tbl := List.mem_of_getElem? (i := 936) (by decide +kernel)
set_option maxRecDepth 20000 in
theorem zwe_X9_findsRing : Cond.selects yX9_findsRing.cls yX9_findsRing yX9_findsRing ∈ lw_tbl := List.mem_of_getElem? (i := 40) (by decide +kernel)
set_option maxRecDepth 20000 in
theorem zwc_X9_forget : Cond.code yX9_forget cX9_forget 2 (some .int) ∈ lw_tbl := List.mem_of_getElem? (i := 905) (by decide +kernel)
set_option maxRecDepth 20000 in
theorem zwi_X9_forget : Cond.instanceMethod yX9_forget ∈ lw_tbl := List.mem_of_getElem? (i := 903) (by decide +kernel)
set_option maxRecDepth 20000 in
theorem zwe_X9_forget : Cond.selects yX9_forget.cls yX9_forget yX9_forget ∈ lw_tbl := List.mem_of_getElem? (i := 904) (by decide +kernel)
set_option maxRecDepth 20000 in
theorem zwc_X9_gives : Cond.code yX9_gives cX9_gives 5 (some .int) ∈ lw_tbl := List.mem_of_getElem? (i := 870) (by decide +kernel)
set_option maxRecDepth 20000 in
theorem zwi_X9_gives : Cond.instanceMethod yX9_gives ∈ lw_tbl := List.mem_of_getElem? (i := 869) (by decide +kernel)
set_option maxRecDepth 20000 in
theorem zwe_X9_gives : Cond.selects yX9_gives.cls yX9_gives yX9_gives ∈ lw_tbl := List.mem_of_getElem? (i := 33) (by decide +kernel)
set_option maxRecDepth 20000 in
theorem zwc_X9_goes : Cond.code yX9_goes cX9_goes 2 none ∈ lw_tbl := List.mem_of_getElem? (i := 858) (by decide +kernel)
set_option maxRecDepth 20000 in
theorem zwi_X9_goes : Cond.instanceMethod yX9_goes ∈ lw_tbl := List.mem_of_getElem? (i := 857) (by decide +kernel)
set_option maxRecDepth 20000 in
theorem zwe_X9_goes : Cond.selects yX9_goes.cls yX9_goes yX9_goes ∈ lw_tbl := List.mem_of_getElem? (i := 30) (by decide +kernel)
set_option maxRecDepth 20000 in
theorem zwc_X9_in : Cond.code yX9_in cX9_in 3 (some .boolean) ∈ lw_tbl := List.mem_of_getElem? (i := 778) (by decide +kernel)
set_option maxRecDepth 20000 in
theorem zws_X9_in : Cond.static yX9_in ∈ lw_tbl := List.mem_of_getElem? (i := 777) (by decide +kernel)
set_option maxRecDepth 20000 in
theorem zwc_X9_init : Cond.code yX9_init cX9_init 1 none ∈ lw_tbl := List.mem_of_getElem? (i := 684) (by decide +kernel)
set_option maxRecDepth 20000 in
theorem zwi_X9_init : Cond.instanceMethod yX9_init ∈ lw_tbl := List.mem_of_getElem? (i := 683) (by decide +kernel)
set_option maxRecDepth 20000 in
theorem zwc_X9_isPerson : Cond.code yX9_isPerson cX9_isPerson 2 (some .boolean) ∈ lw_tbl := List.mem_of_getElem? (i := 811) (by decide +kernel)
set_option maxRecDepth 20000 in
theorem zwi_X9_isPerson : Cond.instanceMethod yX9_isPerson ∈ lw_tbl := List.mem_of_getElem? (i := 810) (by decide +kernel)
set_option maxRecDepth 20000 in
theorem zwe_X9_isPerson : Cond.selects yX9_isPerson.cls yX9_isPerson yX9_isPerson ∈ lw_tbl := List.mem_of_getElem? (i := 23) (by decide +kernel)
set_option maxRecDepth 20000 in
theorem zwc_X9_isSo : Cond.code yX9_isSo cX9_isSo 4 (some .boolean) ∈ lw_tbl := List.mem_of_getElem? (i := 917) (by decide +kernel)
set_option maxRecDepth 20000 in
theorem zwi_X9_isSo : Cond.instanceMethod yX9_isSo ∈ lw_tbl := List.mem_of_getElem? (i := 916) (by decide +kernel)
set_option maxRecDepth 20000 in
theorem zwe_X9_isSo : Cond.selects yX9_isSo.cls yX9_isSo yX9_isSo ∈ lw_tbl := List.mem_of_getElem? (i := 38) (by decide +kernel)
set_option maxRecDepth 20000 in
theorem zwc_X9_isSpan : Cond.code yX9_isSpan cX9_isSpan 1 (some .boolean) ∈ lw_tbl := List.mem_of_getElem? (i := 830) (by decide +kernel)
set_option maxRecDepth 20000 in
theorem zws_X9_isSpan : Cond.static yX9_isSpan ∈ lw_tbl := List.mem_of_getElem? (i := 829) (by decide +kernel)
set_option maxRecDepth 20000 in
theorem zwc_X9_isWell : Cond.code yX9_isWell cX9_isWell 3 (some .boolean) ∈ lw_tbl := List.mem_of_getElem? (i := 799) (by decide +kernel)
set_option maxRecDepth 20000 in
theorem zwi_X9_isWell : Cond.instanceMethod yX9_isWell ∈ lw_tbl := List.mem_of_getElem? (i := 798) (by decide +kernel)
set_option maxRecDepth 20000 in
theorem zwe_X9_isWell : Cond.selects yX9_isWell.cls yX9_isWell yX9_isWell ∈ lw_tbl := List.mem_of_getElem? (i := 22) (by decide +kernel)
set_option maxRecDepth 20000 in
theorem zwc_X9_keep : Cond.code yX9_keep cX9_keep 2 (some .int) ∈ lw_tbl := List.mem_of_getElem? (i := 972) (by decide +kernel)
set_option maxRecDepth 20000 in
theorem zwi_X9_keep : Cond.instanceMethod yX9_keep ∈ lw_tbl := List.mem_of_getElem? (i := 970) (by decide +kernel)
set_option maxRecDepth 20000 in
theorem zwe_X9_keep : Cond.selects yX9_keep.cls yX9_keep yX9_keep ∈ lw_tbl := List.mem_of_getElem? (i := 971) (by decide +kernel)
set_option maxRecDepth 20000 in
theorem zwc_X9_lay : Cond.code yX9_lay cX9_lay 2 (some .int) ∈ lw_tbl := List.mem_of_getElem? (i := 803) (by decide +kernel)
set_option maxRecDepth 20000 in
theorem zwi_X9_lay : Cond.instanceMethod yX9_lay ∈ lw_tbl := List.mem_of_getElem? (i := 801) (by decide +kernel)
set_option maxRecDepth 20000 in
theorem zwe_X9_lay : Cond.selects yX9_lay.cls yX9_lay yX9_lay ∈ lw_tbl := List.mem_of_getElem? (i := 802) (by decide +kernel)
set_option maxRecDepth 20000 in
theorem zwc_X9_lend : Cond.code yX9_lend cX9_lend 5 (some .int) ∈ lw_tbl := List.mem_of_getElem? (i := 842) (by decide +kernel)
set_option maxRecDepth 20000 in
theorem zwi_X9_lend : Cond.instanceMethod yX9_lend ∈ lw_tbl := List.mem_of_getElem? (i := 840) (by decide +kernel)
set_option maxRecDepth 20000 in
theorem zwe_X9_lend : Cond.selects yX9_lend.cls yX9_lend yX9_lend ∈ lw_tbl := List.mem_of_getElem? (i := 841) (by decide +kernel)
set_option maxRecDepth 20000 in
theorem zwc_X9_lends : Cond.code yX9_lends cX9_lends 6 none ∈ lw_tbl := List.mem_of_getElem? (i := 850) (by decide +kernel)
set_option maxRecDepth 20000 in
theorem zwi_X9_lends : Cond.instanceMethod yX9_lends ∈ lw_tbl := List.mem_of_getElem? (i := 849) (by decide +kernel)
set_option maxRecDepth 20000 in
theorem zwe_X9_lends : Cond.selects yX9_lends.cls yX9_lends yX9_lends ∈ lw_tbl := List.mem_of_getElem? (i := 29) (by decide +kernel)
set_option maxRecDepth 20000 in
theorem zwc_X9_lesser : Cond.code yX9_lesser cX9_lesser 2 (some .int) ∈ lw_tbl := List.mem_of_getElem? (i := 873) (by decide +kernel)
set_option maxRecDepth 20000 in
theorem zws_X9_lesser : Cond.static yX9_lesser ∈ lw_tbl := List.mem_of_getElem? (i := 872) (by decide +kernel)
set_option maxRecDepth 20000 in
theorem zwc_X9_living : Cond.code yX9_living cX9_living 3 (some .int) ∈ lw_tbl := List.mem_of_getElem? (i := 881) (by decide +kernel)
set_option maxRecDepth 20000 in
theorem zwi_X9_living : Cond.instanceMethod yX9_living ∈ lw_tbl := List.mem_of_getElem? (i := 880) (by decide +kernel)
set_option maxRecDepth 20000 in
theorem zwe_X9_living : Cond.selects yX9_living.cls yX9_living yX9_living ∈ lw_tbl := List.mem_of_getElem? (i := 35) (by decide +kernel)
set_option maxRecDepth 20000 in
theorem zwc_X9_loan : Cond.code yX9_loan cX9_loan 3 (some .int) ∈ lw_tbl := List.mem_of_getElem? (i := 819) (by decide +kernel)
set_option maxRecDepth 20000 in
theorem zwi_X9_loan : Cond.instanceMethod yX9_loan ∈ lw_tbl := List.mem_of_getElem? (i := 817) (by decide +kernel)
set_option maxRecDepth 20000 in
theorem zwe_X9_loan : Cond.selects yX9_loan.cls yX9_loan yX9_loan ∈ lw_tbl := List.mem_of_getElem? (i := 818) (by decide +kernel)
set_option maxRecDepth 20000 in
theorem zwc_X9_mayAsk : Cond.code yX9_mayAsk cX9_mayAsk 5 (some .boolean) ∈ lw_tbl := List.mem_of_getElem? (i := 827) (by decide +kernel)
set_option maxRecDepth 20000 in
theorem zwi_X9_mayAsk : Cond.instanceMethod yX9_mayAsk ∈ lw_tbl := List.mem_of_getElem? (i := 826) (by decide +kernel)
set_option maxRecDepth 20000 in
theorem zwe_X9_mayAsk : Cond.selects yX9_mayAsk.cls yX9_mayAsk yX9_mayAsk ∈ lw_tbl := List.mem_of_getElem? (i := 25) (by decide +kernel)
set_option maxRecDepth 20000 in
theorem zwc_X9_notary : Cond.code yX9_notary cX9_notary 5 (some .int) ∈ lw_tbl := List.mem_of_getElem? (i := 823) (by decide +kernel)
set_option maxRecDepth 20000 in
theorem zwi_X9_notary : Cond.instanceMethod yX9_notary ∈ lw_tbl := List.mem_of_getElem? (i := 821) (by decide +kernel)
set_option maxRecDepth 20000 in
theorem zwe_X9_notary : Cond.selects yX9_notary.cls yX9_notary yX9_notary ∈ lw_tbl := List.mem_of_getElem? (i := 822) (by decide +kernel)
set_option maxRecDepth 20000 in
theorem zwc_X9_notes : Cond.code yX9_notes cX9_notes 2 none ∈ lw_tbl := List.mem_of_getElem? (i := 846) (by decide +kernel)
set_option maxRecDepth 20000 in
theorem zwi_X9_notes : Cond.instanceMethod yX9_notes ∈ lw_tbl := List.mem_of_getElem? (i := 845) (by decide +kernel)
set_option maxRecDepth 20000 in
theorem zwe_X9_notes : Cond.selects yX9_notes.cls yX9_notes yX9_notes ∈ lw_tbl := List.mem_of_getElem? (i := 28) (by decide +kernel)
set_option maxRecDepth 20000 in
theorem zwc_X9_owesAll : Cond.code yX9_owesAll cX9_owesAll 4 (some .int) ∈ lw_tbl := List.mem_of_getElem? (i := 815) (by decide +kernel)
set_option maxRecDepth 20000 in
theorem zwi_X9_owesAll : Cond.instanceMethod yX9_owesAll ∈ lw_tbl := List.mem_of_getElem? (i := 814) (by decide +kernel)
set_option maxRecDepth 20000 in
theorem zwe_X9_owesAll : Cond.selects yX9_owesAll.cls yX9_owesAll yX9_owesAll ∈ lw_tbl := List.mem_of_getElem? (i := 24) (by decide +kernel)
set_option maxRecDepth 20000 in
theorem zwc_X9_pays : Cond.code yX9_pays cX9_pays 8 none ∈ lw_tbl := List.mem_of_getElem? (i := 866) (by decide +kernel)
set_option maxRecDepth 20000 in
theorem zwi_X9_pays : Cond.instanceMethod yX9_pays ∈ lw_tbl := List.mem_of_getElem? (i := 865) (by decide +kernel)
set_option maxRecDepth 20000 in
theorem zwe_X9_pays : Cond.selects yX9_pays.cls yX9_pays yX9_pays ∈ lw_tbl := List.mem_of_getElem? (i := 32) (by decide +kernel)
set_option maxRecDepth 20000 in
theorem zwc_X9_person : Cond.code yX9_person cX9_person 3 (some .int) ∈ lw_tbl := List.mem_of_getElem? (i := 807) (by decide +kernel)
set_option maxRecDepth 20000 in
theorem zwi_X9_person : Cond.instanceMethod yX9_person ∈ lw_tbl := List.mem_of_getElem? (i := 805) (by decide +kernel)
set_option maxRecDepth 20000 in
theorem zwe_X9_person : Cond.selects yX9_person.cls yX9_person yX9_person ∈ lw_tbl := List.mem_of_getElem? (i := 806) (by decide +kernel)
set_option maxRecDepth 20000 in
theorem zwc_X9_run : Cond.code yX9_run cX9_run 5 (some .int) ∈ lw_tbl := List.mem_of_getElem? (i := 897) (by decide +kernel)
set_option maxRecDepth 20000 in
theorem zwi_X9_run : Cond.instanceMethod yX9_run ∈ lw_tbl := List.mem_of_getElem? (i := 895) (by decide +kernel)
set_option maxRecDepth 20000 in
theorem zwe_X9_run : Cond.selects yX9_run.cls yX9_run yX9_run ∈ lw_tbl := List.mem_of_getElem? (i := 896) (by decide +kernel)
set_option maxRecDepth 20000 in
theorem zwc_X9_runs : Cond.code yX9_runs cX9_runs 3 none ∈ lw_tbl := List.mem_of_getElem? (i := 953) (by decide +kernel)
set_option maxRecDepth 20000 in
theorem zwi_X9_runs : Cond.instanceMethod yX9_runs ∈ lw_tbl := List.mem_of_getElem? (i := 952) (by decide +kernel)
set_option maxRecDepth 20000 in
theorem zwe_X9_runs : Cond.selects yX9_runs.cls yX9_runs yX9_runs ∈ lw_tbl := List.mem_of_getElem? (i := 42) (by decide +kernel)
set_option maxRecDepth 20000 in
theorem zwc_X9_says : Cond.code yX9_says cX9_says 7 (some .boolean) ∈ lw_tbl := List.mem_of_getElem? (i := 834) (by decide +kernel)
set_option maxRecDepth 20000 in
theorem zwi_X9_says : Cond.instanceMethod yX9_says ∈ lw_tbl := List.mem_of_getElem? (i := 833) (by decide +kernel)
set_option maxRecDepth 20000 in
theorem zwe_X9_says : Cond.selects yX9_says.cls yX9_says yX9_says ∈ lw_tbl := List.mem_of_getElem? (i := 26) (by decide +kernel)
set_option maxRecDepth 20000 in
theorem zwc_X9_shares : Cond.code yX9_shares cX9_shares 6 (some .boolean) ∈ lw_tbl := List.mem_of_getElem? (i := 945) (by decide +kernel)
set_option maxRecDepth 20000 in
theorem zwi_X9_shares : Cond.instanceMethod yX9_shares ∈ lw_tbl := List.mem_of_getElem? (i := 944) (by decide +kernel)
set_option maxRecDepth 20000 in
theorem zwe_X9_shares : Cond.selects yX9_shares.cls yX9_shares yX9_shares ∈ lw_tbl := List.mem_of_getElem? (i := 41) (by decide +kernel)
set_option maxRecDepth 20000 in
theorem zwc_X9_span : Cond.code yX9_span cX9_span 3 (some .int) ∈ lw_tbl := List.mem_of_getElem? (i := 909) (by decide +kernel)
set_option maxRecDepth 20000 in
theorem zwi_X9_span : Cond.instanceMethod yX9_span ∈ lw_tbl := List.mem_of_getElem? (i := 907) (by decide +kernel)
set_option maxRecDepth 20000 in
theorem zwe_X9_span : Cond.selects yX9_span.cls yX9_span yX9_span ∈ lw_tbl := List.mem_of_getElem? (i := 908) (by decide +kernel)
set_option maxRecDepth 20000 in
theorem zwc_X9_spans : Cond.code yX9_spans cX9_spans 5 none ∈ lw_tbl := List.mem_of_getElem? (i := 913) (by decide +kernel)
set_option maxRecDepth 20000 in
theorem zwi_X9_spans : Cond.instanceMethod yX9_spans ∈ lw_tbl := List.mem_of_getElem? (i := 912) (by decide +kernel)
set_option maxRecDepth 20000 in
theorem zwe_X9_spans : Cond.selects yX9_spans.cls yX9_spans yX9_spans ∈ lw_tbl := List.mem_of_getElem? (i := 37) (by decide +kernel)
set_option maxRecDepth 20000 in
theorem zwc_X9_tell : Cond.code yX9_tell cX9_tell 5 (some .int) ∈ lw_tbl := List.mem_of_getElem? (i := 901) (by decide +kernel)
set_option maxRecDepth 20000 in
theorem zwi_X9_tell : Cond.instanceMethod yX9_tell ∈ lw_tbl := List.mem_of_getElem? (i := 899) (by decide +kernel)
set_option maxRecDepth 20000 in
theorem zwe_X9_tell : Cond.selects yX9_tell.cls yX9_tell yX9_tell ∈ lw_tbl := List.mem_of_getElem? (i := 900) (by decide +kernel)
set_option maxRecDepth 20000 in
theorem zwc_X9_undo : Cond.code yX9_undo cX9_undo 2 (some .int) ∈ lw_tbl := List.mem_of_getElem? (i := 885) (by decide +kernel)
set_option maxRecDepth 20000 in
theorem zwi_X9_undo : Cond.instanceMethod yX9_undo ∈ lw_tbl := List.mem_of_getElem? (i := 883) (by decide +kernel)
set_option maxRecDepth 20000 in
theorem zwe_X9_undo : Cond.selects yX9_undo.cls yX9_undo yX9_undo ∈ lw_tbl := List.mem_of_getElem? (i := 884) (by decide +kernel)
set_option maxRecDepth 20000 in
theorem zwc_X9_week : Cond.code yX9_week cX9_week 1 (some .int) ∈ lw_tbl := List.mem_of_getElem? (i := 854) (by decide +kernel)
set_option maxRecDepth 20000 in
theorem zwi_X9_week : Cond.instanceMethod yX9_week ∈ lw_tbl := List.mem_of_getElem? (i := 852) (by decide +kernel)
set_option maxRecDepth 20000 in
theorem zwe_X9_week : Cond.selects yX9_week.cls yX9_week yX9_week ∈ lw_tbl := List.mem_of_getElem? (i := 853) (by decide +kernel)
set_option maxRecDepth 20000 in
theorem zwc_X9_wipe : Cond.code yX9_wipe cX9_wipe 2 (some .int) ∈ lw_tbl := List.mem_of_getElem? (i := 783) (by decide +kernel)
set_option maxRecDepth 20000 in
theorem zwi_X9_wipe : Cond.instanceMethod yX9_wipe ∈ lw_tbl := List.mem_of_getElem? (i := 781) (by decide +kernel)
set_option maxRecDepth 20000 in
theorem zwe_X9_wipe : Cond.selects yX9_wipe.cls yX9_wipe yX9_wipe ∈ lw_tbl := List.mem_of_getElem? (i := 782) (by decide +kernel)
set_option maxRecDepth 20000 in
theorem zwc_X9_write : Cond.code yX9_write cX9_write 5 (some .int) ∈ lw_tbl := List.mem_of_getElem? (i := 775) (by decide +kernel)
set_option maxRecDepth 20000 in
theorem zwi_X9_write : Cond.instanceMethod yX9_write ∈ lw_tbl := List.mem_of_getElem? (i := 773) (by decide +kernel)
set_option maxRecDepth 20000 in
theorem zwe_X9_write : Cond.selects yX9_write.cls yX9_write yX9_write ∈ lw_tbl := List.mem_of_getElem? (i := 774) (by decide +kernel)
set_option maxRecDepth 20000 in
theorem zwl_8_28 : Cond.methodLink (zcn 8) 28 yX0_init ∈ lw_tbl := List.mem_of_getElem? (i := 123) (by decide +kernel)
set_option maxRecDepth 20000 in
theorem zwl_8_37 : Cond.methodLink (zcn 8) 37 yX7_init ∈ lw_tbl := List.mem_of_getElem? (i := 179) (by decide +kernel)
set_option maxRecDepth 20000 in
theorem zwl_8_47 : Cond.methodLink (zcn 8) 47 yX3_init ∈ lw_tbl := List.mem_of_getElem? (i := 199) (by decide +kernel)
set_option maxRecDepth 20000 in
theorem zwl_8_78 : Cond.methodLink (zcn 8) 78 yX4_clear ∈ lw_tbl := List.mem_of_getElem? (i := 271) (by decide +kernel)
set_option maxRecDepth 20000 in
theorem zwl_8_81 : Cond.methodLink (zcn 8) 81 yX4_addPerson ∈ lw_tbl := List.mem_of_getElem? (i := 275) (by decide +kernel)
set_option maxRecDepth 20000 in
theorem zwl_8_85 : Cond.methodLink (zcn 8) 85 yX0_open ∈ lw_tbl := List.mem_of_getElem? (i := 282) (by decide +kernel)
set_option maxRecDepth 20000 in
theorem zwl_8_88 : Cond.methodLink (zcn 8) 88 yX8_within ∈ lw_tbl := List.mem_of_getElem? (i := 324) (by decide +kernel)
set_option maxRecDepth 20000 in
theorem zwl_8_96 : Cond.methodLink (zcn 8) 96 yX5_append ∈ lw_tbl := List.mem_of_getElem? (i := 325) (by decide +kernel)
set_option maxRecDepth 20000 in
theorem zwl_8_100 : Cond.methodLink (zcn 8) 100 yX4_readFrom ∈ lw_tbl := List.mem_of_getElem? (i := 337) (by decide +kernel)
set_option maxRecDepth 20000 in
theorem zwl_8_107 : Cond.methodLink (zcn 8) 107 yX4_copyFrom ∈ lw_tbl := List.mem_of_getElem? (i := 357) (by decide +kernel)
set_option maxRecDepth 20000 in
theorem zwl_8_114 : Cond.methodLink (zcn 8) 114 yX8_isPerson ∈ lw_tbl := List.mem_of_getElem? (i := 368) (by decide +kernel)
set_option maxRecDepth 20000 in
theorem zwl_8_124 : Cond.methodLink (zcn 8) 124 yX0_owedToAll ∈ lw_tbl := List.mem_of_getElem? (i := 372) (by decide +kernel)
set_option maxRecDepth 20000 in
theorem zwl_8_143 : Cond.methodLink (zcn 8) 143 yX0_isFit ∈ lw_tbl := List.mem_of_getElem? (i := 384) (by decide +kernel)
set_option maxRecDepth 20000 in
theorem zwl_8_147 : Cond.methodLink (zcn 8) 147 yX0_isGranted ∈ lw_tbl := List.mem_of_getElem? (i := 396) (by decide +kernel)
set_option maxRecDepth 20000 in
theorem zwl_8_150 : Cond.methodLink (zcn 8) 150 yX0_hindrance ∈ lw_tbl := List.mem_of_getElem? (i := 416) (by decide +kernel)
set_option maxRecDepth 20000 in
theorem zwl_8_154 : Cond.methodLink (zcn 8) 154 yX3_put ∈ lw_tbl := List.mem_of_getElem? (i := 422) (by decide +kernel)
set_option maxRecDepth 20000 in
theorem zwl_8_158 : Cond.methodLink (zcn 8) 158 yX0_addLoan ∈ lw_tbl := List.mem_of_getElem? (i := 435) (by decide +kernel)
set_option maxRecDepth 20000 in
theorem zwl_8_162 : Cond.methodLink (zcn 8) 162 yX0_pass ∈ lw_tbl := List.mem_of_getElem? (i := 443) (by decide +kernel)
set_option maxRecDepth 20000 in
theorem zwl_8_166 : Cond.methodLink (zcn 8) 166 yX0_living ∈ lw_tbl := List.mem_of_getElem? (i := 479) (by decide +kernel)
set_option maxRecDepth 20000 in
theorem zwl_8_170 : Cond.methodLink (zcn 8) 170 yX3_takeInto ∈ lw_tbl := List.mem_of_getElem? (i := 487) (by decide +kernel)
set_option maxRecDepth 20000 in
theorem zwl_8_174 : Cond.methodLink (zcn 8) 174 yX7_start ∈ lw_tbl := List.mem_of_getElem? (i := 496) (by decide +kernel)
set_option maxRecDepth 20000 in
theorem zwl_8_177 : Cond.methodLink (zcn 8) 177 yX7_advance ∈ lw_tbl := List.mem_of_getElem? (i := 507) (by decide +kernel)
set_option maxRecDepth 20000 in
theorem zwl_8_185 : Cond.methodLink (zcn 8) 185 yX8_isLoanOf ∈ lw_tbl := List.mem_of_getElem? (i := 530) (by decide +kernel)
set_option maxRecDepth 20000 in
theorem zwl_8_189 : Cond.methodLink (zcn 8) 189 yX4_interestOn ∈ lw_tbl := List.mem_of_getElem? (i := 531) (by decide +kernel)
set_option maxRecDepth 20000 in
theorem zwl_8_192 : Cond.methodLink (zcn 8) 192 yX6_add ∈ lw_tbl := List.mem_of_getElem? (i := 532) (by decide +kernel)
set_option maxRecDepth 20000 in
theorem zwl_8_196 : Cond.methodLink (zcn 8) 196 yX6_least ∈ lw_tbl := List.mem_of_getElem? (i := 544) (by decide +kernel)
set_option maxRecDepth 20000 in
theorem zwl_8_199 : Cond.methodLink (zcn 8) 199 yX6_greatest ∈ lw_tbl := List.mem_of_getElem? (i := 549) (by decide +kernel)
set_option maxRecDepth 20000 in
theorem zwl_8_202 : Cond.methodLink (zcn 8) 202 yX6_bestDue ∈ lw_tbl := List.mem_of_getElem? (i := 558) (by decide +kernel)
set_option maxRecDepth 20000 in
theorem zwl_8_206 : Cond.methodLink (zcn 8) 206 yX6_untrueOf ∈ lw_tbl := List.mem_of_getElem? (i := 569) (by decide +kernel)
set_option maxRecDepth 20000 in
theorem zwl_8_210 : Cond.methodLink (zcn 8) 210 yX2_readFrom ∈ lw_tbl := List.mem_of_getElem? (i := 577) (by decide +kernel)
set_option maxRecDepth 20000 in
theorem zwl_8_212 : Cond.methodLink (zcn 8) 212 yX2_clearAll ∈ lw_tbl := List.mem_of_getElem? (i := 581) (by decide +kernel)
set_option maxRecDepth 20000 in
theorem zwl_8_219 : Cond.methodLink (zcn 8) 219 yX0_isAlive ∈ lw_tbl := List.mem_of_getElem? (i := 608) (by decide +kernel)
set_option maxRecDepth 20000 in
theorem zwl_8_222 : Cond.methodLink (zcn 8) 222 yX1_share ∈ lw_tbl := List.mem_of_getElem? (i := 609) (by decide +kernel)
set_option maxRecDepth 20000 in
theorem zwl_8_226 : Cond.methodLink (zcn 8) 226 yX1_takeAllOfOne ∈ lw_tbl := List.mem_of_getElem? (i := 618) (by decide +kernel)
set_option maxRecDepth 20000 in
theorem zwl_8_233 : Cond.methodLink (zcn 8) 233 yX7_startWithout ∈ lw_tbl := List.mem_of_getElem? (i := 626) (by decide +kernel)
set_option maxRecDepth 20000 in
theorem zwl_8_236 : Cond.methodLink (zcn 8) 236 yX7_loansPaidLessThan ∈ lw_tbl := List.mem_of_getElem? (i := 631) (by decide +kernel)
set_option maxRecDepth 20000 in
theorem zwl_8_240 : Cond.methodLink (zcn 8) 240 yX7_firstDeadEarlierThan ∈ lw_tbl := List.mem_of_getElem? (i := 635) (by decide +kernel)
set_option maxRecDepth 20000 in
theorem zwl_8_244 : Cond.methodLink (zcn 8) 244 yX8_rowsOf ∈ lw_tbl := List.mem_of_getElem? (i := 643) (by decide +kernel)
set_option maxRecDepth 20000 in
theorem zwl_8_247 : Cond.methodLink (zcn 8) 247 yX8_numberOfFirstRow ∈ lw_tbl := List.mem_of_getElem? (i := 646) (by decide +kernel)
set_option maxRecDepth 20000 in
theorem zwl_8_250 : Cond.methodLink (zcn 8) 250 yX8_lendByDraw ∈ lw_tbl := List.mem_of_getElem? (i := 653) (by decide +kernel)
set_option maxRecDepth 20000 in
theorem zwl_8_254 : Cond.methodLink (zcn 8) 254 yX0_lostByAll ∈ lw_tbl := List.mem_of_getElem? (i := 664) (by decide +kernel)
set_option maxRecDepth 20000 in
theorem zwl_8_260 : Cond.methodLink (zcn 8) 260 yX8_draw ∈ lw_tbl := List.mem_of_getElem? (i := 657) (by decide +kernel)
set_option maxRecDepth 20000 in
theorem zwl_10_9 : Cond.methodLink (zcn 10) 9 yX8_init ∈ lw_tbl := List.mem_of_getElem? (i := 58) (by decide +kernel)
set_option maxRecDepth 20000 in
theorem zwl_10_12 : Cond.methodLink (zcn 10) 12 yX9_init ∈ lw_tbl := List.mem_of_getElem? (i := 682) (by decide +kernel)
set_option maxRecDepth 20000 in
theorem zwl_10_15 : Cond.methodLink (zcn 10) 15 yX8_write ∈ lw_tbl := List.mem_of_getElem? (i := 320) (by decide +kernel)
set_option maxRecDepth 20000 in
theorem zwl_10_19 : Cond.methodLink (zcn 10) 19 yX9_write ∈ lw_tbl := List.mem_of_getElem? (i := 772) (by decide +kernel)
set_option maxRecDepth 20000 in
theorem zwl_10_20 : Cond.methodLink (zcn 10) 20 yX8_wipe ∈ lw_tbl := List.mem_of_getElem? (i := 329) (by decide +kernel)
set_option maxRecDepth 20000 in
theorem zwl_10_24 : Cond.methodLink (zcn 10) 24 yX9_wipe ∈ lw_tbl := List.mem_of_getElem? (i := 780) (by decide +kernel)
set_option maxRecDepth 20000 in
theorem zwl_10_25 : Cond.methodLink (zcn 10) 25 yX8_fault ∈ lw_tbl := List.mem_of_getElem? (i := 333) (by decide +kernel)
set_option maxRecDepth 20000 in
theorem zwl_10_28 : Cond.methodLink (zcn 10) 28 yX9_fault ∈ lw_tbl := List.mem_of_getElem? (i := 784) (by decide +kernel)
set_option maxRecDepth 20000 in
theorem zwl_10_29 : Cond.methodLink (zcn 10) 29 yX8_lay ∈ lw_tbl := List.mem_of_getElem? (i := 353) (by decide +kernel)
set_option maxRecDepth 20000 in
theorem zwl_10_32 : Cond.methodLink (zcn 10) 32 yX9_lay ∈ lw_tbl := List.mem_of_getElem? (i := 800) (by decide +kernel)
set_option maxRecDepth 20000 in
theorem zwl_10_33 : Cond.methodLink (zcn 10) 33 yX8_person ∈ lw_tbl := List.mem_of_getElem? (i := 364) (by decide +kernel)
set_option maxRecDepth 20000 in
theorem zwl_10_37 : Cond.methodLink (zcn 10) 37 yX9_person ∈ lw_tbl := List.mem_of_getElem? (i := 804) (by decide +kernel)
set_option maxRecDepth 20000 in
theorem zwl_10_38 : Cond.methodLink (zcn 10) 38 yX8_loan ∈ lw_tbl := List.mem_of_getElem? (i := 376) (by decide +kernel)
set_option maxRecDepth 20000 in
theorem zwl_10_41 : Cond.methodLink (zcn 10) 41 yX9_loan ∈ lw_tbl := List.mem_of_getElem? (i := 816) (by decide +kernel)
set_option maxRecDepth 20000 in
theorem zwl_10_42 : Cond.methodLink (zcn 10) 42 yX8_notary ∈ lw_tbl := List.mem_of_getElem? (i := 380) (by decide +kernel)
set_option maxRecDepth 20000 in
theorem zwl_10_46 : Cond.methodLink (zcn 10) 46 yX9_notary ∈ lw_tbl := List.mem_of_getElem? (i := 820) (by decide +kernel)
set_option maxRecDepth 20000 in
theorem zwl_10_47 : Cond.methodLink (zcn 10) 47 yX8_lend ∈ lw_tbl := List.mem_of_getElem? (i := 412) (by decide +kernel)
set_option maxRecDepth 20000 in
theorem zwl_10_50 : Cond.methodLink (zcn 10) 50 yX9_lend ∈ lw_tbl := List.mem_of_getElem? (i := 839) (by decide +kernel)
set_option maxRecDepth 20000 in
theorem zwl_10_51 : Cond.methodLink (zcn 10) 51 yX8_week ∈ lw_tbl := List.mem_of_getElem? (i := 439) (by decide +kernel)
set_option maxRecDepth 20000 in
theorem zwl_10_54 : Cond.methodLink (zcn 10) 54 yX9_week ∈ lw_tbl := List.mem_of_getElem? (i := 851) (by decide +kernel)
set_option maxRecDepth 20000 in
theorem zwl_10_55 : Cond.methodLink (zcn 10) 55 yX8_undo ∈ lw_tbl := List.mem_of_getElem? (i := 483) (by decide +kernel)
set_option maxRecDepth 20000 in
theorem zwl_10_58 : Cond.methodLink (zcn 10) 58 yX9_undo ∈ lw_tbl := List.mem_of_getElem? (i := 882) (by decide +kernel)
set_option maxRecDepth 20000 in
theorem zwl_10_59 : Cond.methodLink (zcn 10) 59 yX8_dies ∈ lw_tbl := List.mem_of_getElem? (i := 492) (by decide +kernel)
set_option maxRecDepth 20000 in
theorem zwl_10_63 : Cond.methodLink (zcn 10) 63 yX9_dies ∈ lw_tbl := List.mem_of_getElem? (i := 886) (by decide +kernel)
set_option maxRecDepth 20000 in
theorem zwl_10_64 : Cond.methodLink (zcn 10) 64 yX8_run ∈ lw_tbl := List.mem_of_getElem? (i := 522) (by decide +kernel)
set_option maxRecDepth 20000 in
theorem zwl_10_68 : Cond.methodLink (zcn 10) 68 yX9_run ∈ lw_tbl := List.mem_of_getElem? (i := 894) (by decide +kernel)
set_option maxRecDepth 20000 in
theorem zwl_10_69 : Cond.methodLink (zcn 10) 69 yX8_tell ∈ lw_tbl := List.mem_of_getElem? (i := 526) (by decide +kernel)
set_option maxRecDepth 20000 in
theorem zwl_10_73 : Cond.methodLink (zcn 10) 73 yX9_tell ∈ lw_tbl := List.mem_of_getElem? (i := 898) (by decide +kernel)
set_option maxRecDepth 20000 in
theorem zwl_10_74 : Cond.methodLink (zcn 10) 74 yX8_forget ∈ lw_tbl := List.mem_of_getElem? (i := 536) (by decide +kernel)
set_option maxRecDepth 20000 in
theorem zwl_10_77 : Cond.methodLink (zcn 10) 77 yX9_forget ∈ lw_tbl := List.mem_of_getElem? (i := 902) (by decide +kernel)
set_option maxRecDepth 20000 in
theorem zwl_10_78 : Cond.methodLink (zcn 10) 78 yX8_span ∈ lw_tbl := List.mem_of_getElem? (i := 540) (by decide +kernel)
set_option maxRecDepth 20000 in
theorem zwl_10_81 : Cond.methodLink (zcn 10) 81 yX9_span ∈ lw_tbl := List.mem_of_getElem? (i := 906) (by decide +kernel)
set_option maxRecDepth 20000 in
theorem zwl_10_82 : Cond.methodLink (zcn 10) 82 yX8_ask ∈ lw_tbl := List.mem_of_getElem? (i := 554) (by decide +kernel)
set_option maxRecDepth 20000 in
theorem zwl_10_85 : Cond.methodLink (zcn 10) 85 yX9_ask ∈ lw_tbl := List.mem_of_getElem? (i := 918) (by decide +kernel)
set_option maxRecDepth 20000 in
theorem zwl_10_86 : Cond.methodLink (zcn 10) 86 yX8_bribed ∈ lw_tbl := List.mem_of_getElem? (i := 565) (by decide +kernel)
set_option maxRecDepth 20000 in
theorem zwl_10_89 : Cond.methodLink (zcn 10) 89 yX9_bribed ∈ lw_tbl := List.mem_of_getElem? (i := 922) (by decide +kernel)
set_option maxRecDepth 20000 in
theorem zwl_10_90 : Cond.methodLink (zcn 10) 90 yX8_cleared ∈ lw_tbl := List.mem_of_getElem? (i := 573) (by decide +kernel)
set_option maxRecDepth 20000 in
theorem zwl_10_93 : Cond.methodLink (zcn 10) 93 yX9_cleared ∈ lw_tbl := List.mem_of_getElem? (i := 926) (by decide +kernel)
set_option maxRecDepth 20000 in
theorem zwl_10_94 : Cond.methodLink (zcn 10) 94 yX8_child ∈ lw_tbl := List.mem_of_getElem? (i := 604) (by decide +kernel)
set_option maxRecDepth 20000 in
theorem zwl_10_97 : Cond.methodLink (zcn 10) 97 yX9_child ∈ lw_tbl := List.mem_of_getElem? (i := 938) (by decide +kernel)
set_option maxRecDepth 20000 in
theorem zwl_10_98 : Cond.methodLink (zcn 10) 98 yX8_falls ∈ lw_tbl := List.mem_of_getElem? (i := 622) (by decide +kernel)
set_option maxRecDepth 20000 in
theorem zwl_10_101 : Cond.methodLink (zcn 10) 101 yX9_falls ∈ lw_tbl := List.mem_of_getElem? (i := 946) (by decide +kernel)
set_option maxRecDepth 20000 in
theorem zwl_10_102 : Cond.methodLink (zcn 10) 102 yX8_burned ∈ lw_tbl := List.mem_of_getElem? (i := 639) (by decide +kernel)
set_option maxRecDepth 20000 in
theorem zwl_10_105 : Cond.methodLink (zcn 10) 105 yX9_burned ∈ lw_tbl := List.mem_of_getElem? (i := 954) (by decide +kernel)
set_option maxRecDepth 20000 in
theorem zwl_10_106 : Cond.methodLink (zcn 10) 106 yX8_drawn ∈ lw_tbl := List.mem_of_getElem? (i := 649) (by decide +kernel)
set_option maxRecDepth 20000 in
theorem zwl_10_109 : Cond.methodLink (zcn 10) 109 yX9_drawn ∈ lw_tbl := List.mem_of_getElem? (i := 958) (by decide +kernel)
set_option maxRecDepth 20000 in
theorem zwl_10_110 : Cond.methodLink (zcn 10) 110 yX8_keep ∈ lw_tbl := List.mem_of_getElem? (i := 668) (by decide +kernel)
set_option maxRecDepth 20000 in
theorem zwl_10_113 : Cond.methodLink (zcn 10) 113 yX9_keep ∈ lw_tbl := List.mem_of_getElem? (i := 969) (by decide +kernel)
set_option maxRecDepth 20000 in
theorem zwl_10_114 : Cond.methodLink (zcn 10) 114 yX8_back ∈ lw_tbl := List.mem_of_getElem? (i := 672) (by decide +kernel)
set_option maxRecDepth 20000 in
theorem zwl_10_117 : Cond.methodLink (zcn 10) 117 yX9_back ∈ lw_tbl := List.mem_of_getElem? (i := 973) (by decide +kernel)
set_option maxRecDepth 20000 in
theorem zwl_10_118 : Cond.methodLink (zcn 10) 118 yX8_count ∈ lw_tbl := List.mem_of_getElem? (i := 676) (by decide +kernel)
set_option maxRecDepth 20000 in
theorem zwl_10_121 : Cond.methodLink (zcn 10) 121 yX9_count ∈ lw_tbl := List.mem_of_getElem? (i := 977) (by decide +kernel)
set_option maxRecDepth 20000 in
theorem zwl_3_23 : Cond.methodLink (zcn 3) 23 yX0_init ∈ lw_tbl := List.mem_of_getElem? (i := 208) (by decide +kernel)
set_option maxRecDepth 20000 in
theorem zwl_3_30 : Cond.methodLink (zcn 3) 30 yX3_moveLowestUp ∈ lw_tbl := List.mem_of_getElem? (i := 426) (by decide +kernel)
set_option maxRecDepth 20000 in
theorem zwl_3_33 : Cond.methodLink (zcn 3) 33 yX0_copyFrom ∈ lw_tbl := List.mem_of_getElem? (i := 430) (by decide +kernel)
set_option maxRecDepth 20000 in
theorem zwl_2_45 : Cond.methodLink (zcn 2) 45 yX2_findShortest ∈ lw_tbl := List.mem_of_getElem? (i := 585) (by decide +kernel)
set_option maxRecDepth 20000 in
theorem zwl_2_49 : Cond.methodLink (zcn 2) 49 yX2_clear ∈ lw_tbl := List.mem_of_getElem? (i := 598) (by decide +kernel)
set_option maxRecDepth 20000 in
theorem zwl_2_53 : Cond.methodLink (zcn 2) 53 yX2_closes ∈ lw_tbl := List.mem_of_getElem? (i := 589) (by decide +kernel)
set_option maxRecDepth 20000 in
theorem zwl_2_61 : Cond.methodLink (zcn 2) 61 yX2_isPlaced ∈ lw_tbl := List.mem_of_getElem? (i := 594) (by decide +kernel)
set_option maxRecDepth 20000 in
theorem zwl_0_65 : Cond.methodLink (zcn 0) 65 yX0_isAlive ∈ lw_tbl := List.mem_of_getElem? (i := 388) (by decide +kernel)
set_option maxRecDepth 20000 in
theorem zwl_0_76 : Cond.methodLink (zcn 0) 76 yX0_dueFrom ∈ lw_tbl := List.mem_of_getElem? (i := 400) (by decide +kernel)
set_option maxRecDepth 20000 in
theorem zwl_0_80 : Cond.methodLink (zcn 0) 80 yX0_dueOn ∈ lw_tbl := List.mem_of_getElem? (i := 404) (by decide +kernel)
set_option maxRecDepth 20000 in
theorem zwl_0_84 : Cond.methodLink (zcn 0) 84 yX0_isFit ∈ lw_tbl := List.mem_of_getElem? (i := 420) (by decide +kernel)
set_option maxRecDepth 20000 in
theorem zwl_0_88 : Cond.methodLink (zcn 0) 88 yX0_isGranted ∈ lw_tbl := List.mem_of_getElem? (i := 421) (by decide +kernel)
set_option maxRecDepth 20000 in
theorem zwl_0_91 : Cond.methodLink (zcn 0) 91 yX4_interestOn ∈ lw_tbl := List.mem_of_getElem? (i := 408) (by decide +kernel)
set_option maxRecDepth 20000 in
theorem zwl_0_102 : Cond.methodLink (zcn 0) 102 yX0_payThoseDue ∈ lw_tbl := List.mem_of_getElem? (i := 448) (by decide +kernel)
set_option maxRecDepth 20000 in
theorem zwl_0_105 : Cond.methodLink (zcn 0) 105 yX0_dropThoseDue ∈ lw_tbl := List.mem_of_getElem? (i := 475) (by decide +kernel)
set_option maxRecDepth 20000 in
theorem zwl_0_111 : Cond.methodLink (zcn 0) 111 yX0_greatestDue ∈ lw_tbl := List.mem_of_getElem? (i := 452) (by decide +kernel)
set_option maxRecDepth 20000 in
theorem zwl_0_115 : Cond.methodLink (zcn 0) 115 yX0_pay ∈ lw_tbl := List.mem_of_getElem? (i := 460) (by decide +kernel)
set_option maxRecDepth 20000 in
theorem zwl_0_119 : Cond.methodLink (zcn 0) 119 yX0_isDue ∈ lw_tbl := List.mem_of_getElem? (i := 456) (by decide +kernel)
set_option maxRecDepth 20000 in
theorem zwl_0_122 : Cond.methodLink (zcn 0) 122 yX0_give ∈ lw_tbl := List.mem_of_getElem? (i := 464) (by decide +kernel)
set_option maxRecDepth 20000 in
theorem zwl_0_126 : Cond.methodLink (zcn 0) 126 yX0_lowestOther ∈ lw_tbl := List.mem_of_getElem? (i := 471) (by decide +kernel)
set_option maxRecDepth 20000 in
theorem zwl_9_65 : Cond.methodLink (zcn 9) 65 yX9_begins ∈ lw_tbl := List.mem_of_getElem? (i := 686) (by decide +kernel)
set_option maxRecDepth 20000 in
theorem zwl_9_71 : Cond.methodLink (zcn 9) 71 yX9_in ∈ lw_tbl := List.mem_of_getElem? (i := 776) (by decide +kernel)
set_option maxRecDepth 20000 in
theorem zwl_9_80 : Cond.methodLink (zcn 9) 80 yX9_byteAt ∈ lw_tbl := List.mem_of_getElem? (i := 792) (by decide +kernel)
set_option maxRecDepth 20000 in
theorem zwl_9_84 : Cond.methodLink (zcn 9) 84 yX9_isWell ∈ lw_tbl := List.mem_of_getElem? (i := 796) (by decide +kernel)
set_option maxRecDepth 20000 in
theorem zwl_9_88 : Cond.methodLink (zcn 9) 88 yX9_faultOf ∈ lw_tbl := List.mem_of_getElem? (i := 788) (by decide +kernel)
set_option maxRecDepth 20000 in
theorem zwl_9_107 : Cond.methodLink (zcn 9) 107 yX9_isPerson ∈ lw_tbl := List.mem_of_getElem? (i := 808) (by decide +kernel)
set_option maxRecDepth 20000 in
theorem zwl_9_111 : Cond.methodLink (zcn 9) 111 yX9_owesAll ∈ lw_tbl := List.mem_of_getElem? (i := 812) (by decide +kernel)
set_option maxRecDepth 20000 in
theorem zwl_9_114 : Cond.methodLink (zcn 9) 114 yX9_isSpan ∈ lw_tbl := List.mem_of_getElem? (i := 828) (by decide +kernel)
set_option maxRecDepth 20000 in
theorem zwl_9_117 : Cond.methodLink (zcn 9) 117 yX9_dueOf ∈ lw_tbl := List.mem_of_getElem? (i := 835) (by decide +kernel)
set_option maxRecDepth 20000 in
theorem zwl_9_120 : Cond.methodLink (zcn 9) 120 yX9_mayAsk ∈ lw_tbl := List.mem_of_getElem? (i := 824) (by decide +kernel)
set_option maxRecDepth 20000 in
theorem zwl_9_124 : Cond.methodLink (zcn 9) 124 yX9_says ∈ lw_tbl := List.mem_of_getElem? (i := 831) (by decide +kernel)
set_option maxRecDepth 20000 in
theorem zwl_9_127 : Cond.methodLink (zcn 9) 127 yX9_notes ∈ lw_tbl := List.mem_of_getElem? (i := 843) (by decide +kernel)
set_option maxRecDepth 20000 in
theorem zwl_9_130 : Cond.methodLink (zcn 9) 130 yX9_lends ∈ lw_tbl := List.mem_of_getElem? (i := 847) (by decide +kernel)
set_option maxRecDepth 20000 in
theorem zwl_9_134 : Cond.methodLink (zcn 9) 134 yX9_lesser ∈ lw_tbl := List.mem_of_getElem? (i := 871) (by decide +kernel)
set_option maxRecDepth 20000 in
theorem zwl_9_138 : Cond.methodLink (zcn 9) 138 yX9_gives ∈ lw_tbl := List.mem_of_getElem? (i := 867) (by decide +kernel)
set_option maxRecDepth 20000 in
theorem zwl_9_142 : Cond.methodLink (zcn 9) 142 yX9_dueNow ∈ lw_tbl := List.mem_of_getElem? (i := 859) (by decide +kernel)
set_option maxRecDepth 20000 in
theorem zwl_9_146 : Cond.methodLink (zcn 9) 146 yX9_pays ∈ lw_tbl := List.mem_of_getElem? (i := 863) (by decide +kernel)
set_option maxRecDepth 20000 in
theorem zwl_9_150 : Cond.methodLink (zcn 9) 150 yX9_drops ∈ lw_tbl := List.mem_of_getElem? (i := 874) (by decide +kernel)
set_option maxRecDepth 20000 in
theorem zwl_9_153 : Cond.methodLink (zcn 9) 153 yX9_goes ∈ lw_tbl := List.mem_of_getElem? (i := 855) (by decide +kernel)
set_option maxRecDepth 20000 in
theorem zwl_9_156 : Cond.methodLink (zcn 9) 156 yX9_living ∈ lw_tbl := List.mem_of_getElem? (i := 878) (by decide +kernel)
set_option maxRecDepth 20000 in
theorem zwl_9_159 : Cond.methodLink (zcn 9) 159 yX9_aside ∈ lw_tbl := List.mem_of_getElem? (i := 890) (by decide +kernel)
set_option maxRecDepth 20000 in
theorem zwl_9_169 : Cond.methodLink (zcn 9) 169 yX9_isSo ∈ lw_tbl := List.mem_of_getElem? (i := 914) (by decide +kernel)
set_option maxRecDepth 20000 in
theorem zwl_9_172 : Cond.methodLink (zcn 9) 172 yX9_spans ∈ lw_tbl := List.mem_of_getElem? (i := 910) (by decide +kernel)
set_option maxRecDepth 20000 in
theorem zwl_9_175 : Cond.methodLink (zcn 9) 175 yX9_findsRing ∈ lw_tbl := List.mem_of_getElem? (i := 934) (by decide +kernel)
set_option maxRecDepth 20000 in
theorem zwl_9_178 : Cond.methodLink (zcn 9) 178 yX9_clears ∈ lw_tbl := List.mem_of_getElem? (i := 930) (by decide +kernel)
set_option maxRecDepth 20000 in
theorem zwl_9_181 : Cond.methodLink (zcn 9) 181 yX9_shares ∈ lw_tbl := List.mem_of_getElem? (i := 942) (by decide +kernel)
set_option maxRecDepth 20000 in
theorem zwl_9_184 : Cond.methodLink (zcn 9) 184 yX9_runs ∈ lw_tbl := List.mem_of_getElem? (i := 950) (by decide +kernel)
set_option maxRecDepth 20000 in
theorem zwl_9_195 : Cond.methodLink (zcn 9) 195 yX9_draw ∈ lw_tbl := List.mem_of_getElem? (i := 962) (by decide +kernel)
set_option maxRecDepth 20000 in
theorem zwl_6_35 : Cond.methodLink (zcn 6) 35 yX6_least ∈ lw_tbl := List.mem_of_getElem? (i := 562) (by decide +kernel)
set_option maxRecDepth 20000 in
theorem zwl_6_39 : Cond.methodLink (zcn 6) 39 yX6_greatest ∈ lw_tbl := List.mem_of_getElem? (i := 563) (by decide +kernel)
set_option maxRecDepth 20000 in
theorem zwl_7_17 : Cond.methodLink (zcn 7) 17 yX0_init ∈ lw_tbl := List.mem_of_getElem? (i := 184) (by decide +kernel)
set_option maxRecDepth 20000 in
theorem zwl_7_24 : Cond.methodLink (zcn 7) 24 yX0_copyFrom ∈ lw_tbl := List.mem_of_getElem? (i := 500) (by decide +kernel)
set_option maxRecDepth 20000 in
theorem zwl_7_28 : Cond.methodLink (zcn 7) 28 yX0_markLoans ∈ lw_tbl := List.mem_of_getElem? (i := 501) (by decide +kernel)
set_option maxRecDepth 20000 in
theorem zwl_7_35 : Cond.methodLink (zcn 7) 35 yX0_isAlive ∈ lw_tbl := List.mem_of_getElem? (i := 505) (by decide +kernel)
set_option maxRecDepth 20000 in
theorem zwl_7_40 : Cond.methodLink (zcn 7) 40 yX7_start ∈ lw_tbl := List.mem_of_getElem? (i := 630) (by decide +kernel)
set_option maxRecDepth 20000 in
theorem zwl_7_46 : Cond.methodLink (zcn 7) 46 yX0_weeksToNextDue ∈ lw_tbl := List.mem_of_getElem? (i := 511) (by decide +kernel)
set_option maxRecDepth 20000 in
theorem zwl_7_56 : Cond.methodLink (zcn 7) 56 yX7_noteDeaths ∈ lw_tbl := List.mem_of_getElem? (i := 516) (by decide +kernel)
set_option maxRecDepth 20000 in
theorem zwl_7_60 : Cond.methodLink (zcn 7) 60 yX0_pass ∈ lw_tbl := List.mem_of_getElem? (i := 520) (by decide +kernel)
set_option maxRecDepth 20000 in
theorem zwl_4_34 : Cond.methodLink (zcn 4) 34 yX4_clear ∈ lw_tbl := List.mem_of_getElem? (i := 341) (by decide +kernel)
set_option maxRecDepth 20000 in
theorem zwl_4_42 : Cond.methodLink (zcn 4) 42 yX5_readItem ∈ lw_tbl := List.mem_of_getElem? (i := 342) (by decide +kernel)
set_option maxRecDepth 20000 in
theorem zwl_4_52 : Cond.methodLink (zcn 4) 52 yX4_accept ∈ lw_tbl := List.mem_of_getElem? (i := 347) (by decide +kernel)
set_option maxRecDepth 20000 in
theorem zwl_4_65 : Cond.methodLink (zcn 4) 65 yX4_addPerson ∈ lw_tbl := List.mem_of_getElem? (i := 351) (by decide +kernel)
set_option maxRecDepth 20000 in
theorem zwl_1_18 : Cond.methodLink (zcn 1) 18 yX0_isAlive ∈ lw_tbl := List.mem_of_getElem? (i := 613) (by decide +kernel)
set_option maxRecDepth 20000 in
theorem zwl_1_27 : Cond.methodLink (zcn 1) 27 yX1_addToGreatestRest ∈ lw_tbl := List.mem_of_getElem? (i := 614) (by decide +kernel)
set_option maxRecDepth 20000 in
theorem zm_A : ∀ c ∈ List.range 11, ∀ e ∈ zmta c, (e.2.2.1.1 < 10 ∧ e.2.2.1.2.1.cls = zcn e.2.2.1.1) ∧ (e.2.2.1.2.2.2.1 ≤ 40 ∧ 1 ≤ e.2.2.1.2.2.2.2.2) := by decide +kernel
set_option maxRecDepth 20000 in
theorem zm_C : ∀ c ∈ List.range 11, ∀ e ∈ zmta c, plainName e.2.2.1.2.1.cls = true ∧ e.2.2.1.2.1.cls ≠ "java/lang/invoke/MethodHandle" ∧ e.2.2.1.2.1.cls ≠ "java/lang/invoke/VarHandle" := by decide +kernel
set_option maxRecDepth 20000 in
theorem zm_D : ∀ c ∈ List.range 11, ∀ e ∈ zmta c, (parseMethodDescriptor e.2.2.1.2.1.desc).map (fun d => d.parameters.length) = some (if e.2.1 = 1 ∨ e.2.1 = 2 then e.2.2.2 else e.2.2.2 - 1) ∧ (e.2.1 = 0 ∨ e.2.1 = 3 ∨ e.2.1 = 4 → 1 ≤ e.2.2.2) := by decide +kernel
set_option maxRecDepth 20000 in
theorem zm_G : ∀ c ∈ List.range 11, ∀ e ∈ zmta c, e.2.1 = 2 → (zcn c, e.1, e.2.2.1.2.1, "YearsLent") ∈ znst := by decide +kernel
set_option maxRecDepth 20000 in
theorem zm_I : ∀ c ∈ List.range 11, ∀ e ∈ zmta c, e.2.1 = 4 → (zcn c, e.1, e.2.2.1.2.1, "YearsLent") ∈ znst := by decide +kernel
set_option maxRecDepth 20000 in
theorem zm_J : ∀ c ∈ List.range 11, ∀ e ∈ zmta c, e.2.1 = 3 ∨ e.2.1 = 4 → e.2.2.1.2.1.name = "<init>" ∧ e.2.2.1.2.2.2.2.1 = none := by decide +kernel
set_option maxRecDepth 20000 in
theorem zm_K : ∀ c ∈ List.range 11, ∀ e ∈ zmta c, e.2.1 = 1 → e.2.2.1.2.1.cls = zcn c := by decide +kernel
/-- the words of a call -/
def zmw (c : Nat) (e : Nat × Nat × zM × Nat) : Prop := Cond.code e.2.2.1.2.1 e.2.2.1.2.2.1 e.2.2.1.2.2.2.1 e.2.2.1.2.2.2.2.1 ∈ lw_tbl ∧ (e.2.1 = 0 ∨ e.2.1 = 1 ∨ e.2.1 = 3 → Cond.methodLink (zcn c) e.1 e.2.2.1.2.1 ∈ lw_tbl) ∧ (e.2.1 = 0 ∨ e.2.1 = 3 ∨ e.2.1 = 4 → Cond.instanceMethod e.2.2.1.2.1 ∈ lw_tbl) ∧ (e.2.1 = 0 → Cond.selects e.2.2.1.2.1.cls e.2.2.1.2.1 e.2.2.1.2.1 ∈ lw_tbl) ∧ (e.2.1 = 1 ∨ e.2.1 = 2 → Cond.static e.2.2.1.2.1 ∈ lw_tbl)
theorem zmw0 {c i na : Nat} {m : zM} (h1 : Cond.code m.2.1 m.2.2.1 m.2.2.2.1 m.2.2.2.2.1 ∈ lw_tbl) (h2 : Cond.methodLink (zcn c) i m.2.1 ∈ lw_tbl) (h3 : Cond.instanceMethod m.2.1 ∈ lw_tbl) (h4 : Cond.selects m.2.1.cls m.2.1 m.2.1 ∈ lw_tbl) : zmw c (i, 0, m, na) := ⟨h1, fun _ => h2, fun _ => h3, fun _ => h4, fun h => by simp at h⟩
theorem zmw1 {c i na : Nat} {m : zM} (h1 : Cond.code m.2.1 m.2.2.1 m.2.2.2.1 m.2.2.2.2.1 ∈ lw_tbl) (h2 : Cond.methodLink (zcn c) i m.2.1 ∈ lw_tbl) (h3 : Cond.static m.2.1 ∈ lw_tbl) : zmw c (i, 1, m, na) := ⟨h1, fun _ => h2, fun h => by simp at h, fun h => by simp at h, fun _ => h3⟩
theorem zmw2 {c i na : Nat} {m : zM} (h1 : Cond.code m.2.1 m.2.2.1 m.2.2.2.1 m.2.2.2.2.1 ∈ lw_tbl) (h3 : Cond.static m.2.1 ∈ lw_tbl) : zmw c (i, 2, m, na) := ⟨h1, fun h => by simp at h, fun h => by simp at h, fun h => by simp at h, fun _ => h3⟩
theorem zmw3 {c i na : Nat} {m : zM} (h1 : Cond.code m.2.1 m.2.2.1 m.2.2.2.1 m.2.2.2.2.1 ∈ lw_tbl) (h2 : Cond.methodLink (zcn c) i m.2.1 ∈ lw_tbl) (h3 : Cond.instanceMethod m.2.1 ∈ lw_tbl) : zmw c (i, 3, m, na) := ⟨h1, fun _ => h2, fun _ => h3, fun h => by simp at h, fun h => by simp at h⟩
theorem zmw4 {c i na : Nat} {m : zM} (h1 : Cond.code m.2.1 m.2.2.1 m.2.2.2.1 m.2.2.2.2.1 ∈ lw_tbl) (h3 : Cond.instanceMethod m.2.1 ∈ lw_tbl) : zmw c (i, 4, m, na) := ⟨h1, fun h => by simp at h, fun _ => h3, fun h => by simp at h, fun h => by simp at h⟩
theorem zme_0_61 : zmw 0 (61, 2, qX8_within, 3) := zmw2 zwc_X8_within zws_X8_within
theorem zme_0_65 : zmw 0 (65, 0, qX0_isAlive, 2) := zmw0 zwc_X0_isAlive zwl_0_65 zwi_X0_isAlive zwe_X0_isAlive
theorem zme_0_69 : zmw 0 (69, 2, qX8_isLoanOf, 2) := zmw2 zwc_X8_isLoanOf zws_X8_isLoanOf
theorem zme_0_76 : zmw 0 (76, 0, qX0_dueFrom, 3) := zmw0 zwc_X0_dueFrom zwl_0_76 zwi_X0_dueFrom zwe_X0_dueFrom
theorem zme_0_80 : zmw 0 (80, 0, qX0_dueOn, 2) := zmw0 zwc_X0_dueOn zwl_0_80 zwi_X0_dueOn zwe_X0_dueOn
theorem zme_0_84 : zmw 0 (84, 0, qX0_isFit, 5) := zmw0 zwc_X0_isFit zwl_0_84 zwi_X0_isFit zwe_X0_isFit
theorem zme_0_88 : zmw 0 (88, 0, qX0_isGranted, 5) := zmw0 zwc_X0_isGranted zwl_0_88 zwi_X0_isGranted zwe_X0_isGranted
theorem zme_0_91 : zmw 0 (91, 0, qX4_interestOn, 2) := zmw0 zwc_X4_interestOn zwl_0_91 zwi_X4_interestOn zwe_X4_interestOn
theorem zme_0_102 : zmw 0 (102, 0, qX0_payThoseDue, 1) := zmw0 zwc_X0_payThoseDue zwl_0_102 zwi_X0_payThoseDue zwe_X0_payThoseDue
theorem zme_0_105 : zmw 0 (105, 0, qX0_dropThoseDue, 1) := zmw0 zwc_X0_dropThoseDue zwl_0_105 zwi_X0_dropThoseDue zwe_X0_dropThoseDue
theorem zme_0_111 : zmw 0 (111, 0, qX0_greatestDue, 1) := zmw0 zwc_X0_greatestDue zwl_0_111 zwi_X0_greatestDue zwe_X0_greatestDue
theorem zme_0_115 : zmw 0 (115, 0, qX0_pay, 2) := zmw0 zwc_X0_pay zwl_0_115 zwi_X0_pay zwe_X0_pay
theorem zme_0_119 : zmw 0 (119, 0, qX0_isDue, 2) := zmw0 zwc_X0_isDue zwl_0_119 zwi_X0_isDue zwe_X0_isDue
theorem zme_0_122 : zmw 0 (122, 0, qX0_give, 4) := zmw0 zwc_X0_give zwl_0_122 zwi_X0_give zwe_X0_give
theorem zme_0_126 : zmw 0 (126, 0, qX0_lowestOther, 3) := zmw0 zwc_X0_lowestOther zwl_0_126 zwi_X0_lowestOther zwe_X0_lowestOther
theorem zmz_0 : ∀ e ∈ zmt0, zmw 0 e := List.forall_mem_cons.mpr ⟨zme_0_61, List.forall_mem_cons.mpr ⟨zme_0_65, List.forall_mem_cons.mpr ⟨zme_0_69, List.forall_mem_cons.mpr ⟨zme_0_76, List.forall_mem_cons.mpr ⟨zme_0_80, List.forall_mem_cons.mpr ⟨zme_0_84, List.forall_mem_cons.mpr ⟨zme_0_88, List.forall_mem_cons.mpr ⟨zme_0_91, List.forall_mem_cons.mpr ⟨zme_0_102, List.forall_mem_cons.mpr ⟨zme_0_105, List.forall_mem_cons.mpr ⟨zme_0_111, List.forall_mem_cons.mpr ⟨zme_0_115, List.forall_mem_cons.mpr ⟨zme_0_119, List.forall_mem_cons.mpr ⟨zme_0_122, List.forall_mem_cons.mpr ⟨zme_0_126, fun _ h => absurd h List.not_mem_nil⟩⟩⟩⟩⟩⟩⟩⟩⟩⟩⟩⟩⟩⟩⟩
theorem zme_1_18 : zmw 1 (18, 0, qX0_isAlive, 2) := zmw0 zwc_X0_isAlive zwl_1_18 zwi_X0_isAlive zwe_X0_isAlive
theorem zme_1_27 : zmw 1 (27, 0, qX1_addToGreatestRest, 1) := zmw0 zwc_X1_addToGreatestRest zwl_1_27 zwi_X1_addToGreatestRest zwe_X1_addToGreatestRest
theorem zmz_1 : ∀ e ∈ zmt1, zmw 1 e := List.forall_mem_cons.mpr ⟨zme_1_18, List.forall_mem_cons.mpr ⟨zme_1_27, fun _ h => absurd h List.not_mem_nil⟩⟩
theorem zme_2_45 : zmw 2 (45, 0, qX2_findShortest, 1) := zmw0 zwc_X2_findShortest zwl_2_45 zwi_X2_findShortest zwe_X2_findShortest
theorem zme_2_49 : zmw 2 (49, 0, qX2_clear, 2) := zmw0 zwc_X2_clear zwl_2_49 zwi_X2_clear zwe_X2_clear
theorem zme_2_53 : zmw 2 (53, 0, qX2_closes, 3) := zmw0 zwc_X2_closes zwl_2_53 zwi_X2_closes zwe_X2_closes
theorem zme_2_57 : zmw 2 (57, 2, qX8_within, 3) := zmw2 zwc_X8_within zws_X8_within
theorem zme_2_61 : zmw 2 (61, 0, qX2_isPlaced, 3) := zmw0 zwc_X2_isPlaced zwl_2_61 zwi_X2_isPlaced zwe_X2_isPlaced
theorem zmz_2 : ∀ e ∈ zmt2, zmw 2 e := List.forall_mem_cons.mpr ⟨zme_2_45, List.forall_mem_cons.mpr ⟨zme_2_49, List.forall_mem_cons.mpr ⟨zme_2_53, List.forall_mem_cons.mpr ⟨zme_2_57, List.forall_mem_cons.mpr ⟨zme_2_61, fun _ h => absurd h List.not_mem_nil⟩⟩⟩⟩⟩
theorem zme_3_23 : zmw 3 (23, 3, qX0_init, 2) := zmw3 zwc_X0_init zwl_3_23 zwi_X0_init
theorem zme_3_30 : zmw 3 (30, 0, qX3_moveLowestUp, 1) := zmw0 zwc_X3_moveLowestUp zwl_3_30 zwi_X3_moveLowestUp zwe_X3_moveLowestUp
theorem zme_3_33 : zmw 3 (33, 0, qX0_copyFrom, 2) := zmw0 zwc_X0_copyFrom zwl_3_33 zwi_X0_copyFrom zwe_X0_copyFrom
theorem zme_3_37 : zmw 3 (37, 2, qX8_within, 3) := zmw2 zwc_X8_within zws_X8_within
theorem zmz_3 : ∀ e ∈ zmt3, zmw 3 e := List.forall_mem_cons.mpr ⟨zme_3_23, List.forall_mem_cons.mpr ⟨zme_3_30, List.forall_mem_cons.mpr ⟨zme_3_33, List.forall_mem_cons.mpr ⟨zme_3_37, fun _ h => absurd h List.not_mem_nil⟩⟩⟩⟩
theorem zme_4_34 : zmw 4 (34, 0, qX4_clear, 1) := zmw0 zwc_X4_clear zwl_4_34 zwi_X4_clear zwe_X4_clear
theorem zme_4_42 : zmw 4 (42, 0, qX5_readItem, 2) := zmw0 zwc_X5_readItem zwl_4_42 zwi_X5_readItem zwe_X5_readItem
theorem zme_4_52 : zmw 4 (52, 0, qX4_accept, 3) := zmw0 zwc_X4_accept zwl_4_52 zwi_X4_accept zwe_X4_accept
theorem zme_4_65 : zmw 4 (65, 0, qX4_addPerson, 2) := zmw0 zwc_X4_addPerson zwl_4_65 zwi_X4_addPerson zwe_X4_addPerson
theorem zme_4_68 : zmw 4 (68, 2, qX8_within, 3) := zmw2 zwc_X8_within zws_X8_within
theorem zmz_4 : ∀ e ∈ zmt4, zmw 4 e := List.forall_mem_cons.mpr ⟨zme_4_34, List.forall_mem_cons.mpr ⟨zme_4_42, List.forall_mem_cons.mpr ⟨zme_4_52, List.forall_mem_cons.mpr ⟨zme_4_65, List.forall_mem_cons.mpr ⟨zme_4_68, fun _ h => absurd h List.not_mem_nil⟩⟩⟩⟩⟩
theorem zme_5_19 : zmw 5 (19, 2, qX8_within, 3) := zmw2 zwc_X8_within zws_X8_within
theorem zmz_5 : ∀ e ∈ zmt5, zmw 5 e := List.forall_mem_cons.mpr ⟨zme_5_19, fun _ h => absurd h List.not_mem_nil⟩
theorem zme_6_35 : zmw 6 (35, 0, qX6_least, 2) := zmw0 zwc_X6_least zwl_6_35 zwi_X6_least zwe_X6_least
theorem zme_6_39 : zmw 6 (39, 0, qX6_greatest, 2) := zmw0 zwc_X6_greatest zwl_6_39 zwi_X6_greatest zwe_X6_greatest
theorem zmz_6 : ∀ e ∈ zmt6, zmw 6 e := List.forall_mem_cons.mpr ⟨zme_6_35, List.forall_mem_cons.mpr ⟨zme_6_39, fun _ h => absurd h List.not_mem_nil⟩⟩
theorem zme_7_17 : zmw 7 (17, 3, qX0_init, 2) := zmw3 zwc_X0_init zwl_7_17 zwi_X0_init
theorem zme_7_24 : zmw 7 (24, 0, qX0_copyFrom, 2) := zmw0 zwc_X0_copyFrom zwl_7_24 zwi_X0_copyFrom zwe_X0_copyFrom
theorem zme_7_28 : zmw 7 (28, 0, qX0_markLoans, 1) := zmw0 zwc_X0_markLoans zwl_7_28 zwi_X0_markLoans zwe_X0_markLoans
theorem zme_7_35 : zmw 7 (35, 0, qX0_isAlive, 2) := zmw0 zwc_X0_isAlive zwl_7_35 zwi_X0_isAlive zwe_X0_isAlive
theorem zme_7_40 : zmw 7 (40, 0, qX7_start, 2) := zmw0 zwc_X7_start zwl_7_40 zwi_X7_start zwe_X7_start
theorem zme_7_46 : zmw 7 (46, 0, qX0_weeksToNextDue, 2) := zmw0 zwc_X0_weeksToNextDue zwl_7_46 zwi_X0_weeksToNextDue zwe_X0_weeksToNextDue
theorem zme_7_56 : zmw 7 (56, 0, qX7_noteDeaths, 2) := zmw0 zwc_X7_noteDeaths zwl_7_56 zwi_X7_noteDeaths zwe_X7_noteDeaths
theorem zme_7_60 : zmw 7 (60, 0, qX0_pass, 2) := zmw0 zwc_X0_pass zwl_7_60 zwi_X0_pass zwe_X0_pass
theorem zmz_7 : ∀ e ∈ zmt7, zmw 7 e := List.forall_mem_cons.mpr ⟨zme_7_17, List.forall_mem_cons.mpr ⟨zme_7_24, List.forall_mem_cons.mpr ⟨zme_7_28, List.forall_mem_cons.mpr ⟨zme_7_35, List.forall_mem_cons.mpr ⟨zme_7_40, List.forall_mem_cons.mpr ⟨zme_7_46, List.forall_mem_cons.mpr ⟨zme_7_56, List.forall_mem_cons.mpr ⟨zme_7_60, fun _ h => absurd h List.not_mem_nil⟩⟩⟩⟩⟩⟩⟩⟩
theorem zme_8_9 : zmw 8 (9, 4, qX5_init, 1) := zmw4 zwc_X5_init zwi_X5_init
theorem zme_8_18 : zmw 8 (18, 4, qX4_init, 1) := zmw4 zwc_X4_init zwi_X4_init
theorem zme_8_28 : zmw 8 (28, 3, qX0_init, 2) := zmw3 zwc_X0_init zwl_8_28 zwi_X0_init
theorem zme_8_37 : zmw 8 (37, 3, qX7_init, 2) := zmw3 zwc_X7_init zwl_8_37 zwi_X7_init
theorem zme_8_47 : zmw 8 (47, 3, qX3_init, 3) := zmw3 zwc_X3_init zwl_8_47 zwi_X3_init
theorem zme_8_59 : zmw 8 (59, 4, qX6_init, 1) := zmw4 zwc_X6_init zwi_X6_init
theorem zme_8_66 : zmw 8 (66, 4, qX2_init, 1) := zmw4 zwc_X2_init zwi_X2_init
theorem zme_8_73 : zmw 8 (73, 4, qX1_init, 1) := zmw4 zwc_X1_init zwi_X1_init
theorem zme_8_78 : zmw 8 (78, 0, qX4_clear, 1) := zmw0 zwc_X4_clear zwl_8_78 zwi_X4_clear zwe_X4_clear
theorem zme_8_81 : zmw 8 (81, 0, qX4_addPerson, 2) := zmw0 zwc_X4_addPerson zwl_8_81 zwi_X4_addPerson zwe_X4_addPerson
theorem zme_8_85 : zmw 8 (85, 0, qX0_open, 1) := zmw0 zwc_X0_open zwl_8_85 zwi_X0_open zwe_X0_open
theorem zme_8_88 : zmw 8 (88, 1, qX8_within, 3) := zmw1 zwc_X8_within zwl_8_88 zws_X8_within
theorem zme_8_96 : zmw 8 (96, 0, qX5_append, 3) := zmw0 zwc_X5_append zwl_8_96 zwi_X5_append zwe_X5_append
theorem zme_8_100 : zmw 8 (100, 0, qX4_readFrom, 2) := zmw0 zwc_X4_readFrom zwl_8_100 zwi_X4_readFrom zwe_X4_readFrom
theorem zme_8_107 : zmw 8 (107, 0, qX4_copyFrom, 2) := zmw0 zwc_X4_copyFrom zwl_8_107 zwi_X4_copyFrom zwe_X4_copyFrom
theorem zme_8_114 : zmw 8 (114, 0, qX8_isPerson, 2) := zmw0 zwc_X8_isPerson zwl_8_114 zwi_X8_isPerson zwe_X8_isPerson
theorem zme_8_124 : zmw 8 (124, 0, qX0_owedToAll, 2) := zmw0 zwc_X0_owedToAll zwl_8_124 zwi_X0_owedToAll zwe_X0_owedToAll
theorem zme_8_143 : zmw 8 (143, 0, qX0_isFit, 5) := zmw0 zwc_X0_isFit zwl_8_143 zwi_X0_isFit zwe_X0_isFit
theorem zme_8_147 : zmw 8 (147, 0, qX0_isGranted, 5) := zmw0 zwc_X0_isGranted zwl_8_147 zwi_X0_isGranted zwe_X0_isGranted
theorem zme_8_150 : zmw 8 (150, 0, qX0_hindrance, 5) := zmw0 zwc_X0_hindrance zwl_8_150 zwi_X0_hindrance zwe_X0_hindrance
theorem zme_8_154 : zmw 8 (154, 0, qX3_put, 2) := zmw0 zwc_X3_put zwl_8_154 zwi_X3_put zwe_X3_put
theorem zme_8_158 : zmw 8 (158, 0, qX0_addLoan, 5) := zmw0 zwc_X0_addLoan zwl_8_158 zwi_X0_addLoan zwe_X0_addLoan
theorem zme_8_162 : zmw 8 (162, 0, qX0_pass, 2) := zmw0 zwc_X0_pass zwl_8_162 zwi_X0_pass zwe_X0_pass
theorem zme_8_166 : zmw 8 (166, 0, qX0_living, 1) := zmw0 zwc_X0_living zwl_8_166 zwi_X0_living zwe_X0_living
theorem zme_8_170 : zmw 8 (170, 0, qX3_takeInto, 2) := zmw0 zwc_X3_takeInto zwl_8_170 zwi_X3_takeInto zwe_X3_takeInto
theorem zme_8_174 : zmw 8 (174, 0, qX7_start, 2) := zmw0 zwc_X7_start zwl_8_174 zwi_X7_start zwe_X7_start
theorem zme_8_177 : zmw 8 (177, 0, qX7_advance, 2) := zmw0 zwc_X7_advance zwl_8_177 zwi_X7_advance zwe_X7_advance
theorem zme_8_185 : zmw 8 (185, 1, qX8_isLoanOf, 2) := zmw1 zwc_X8_isLoanOf zwl_8_185 zws_X8_isLoanOf
theorem zme_8_189 : zmw 8 (189, 0, qX4_interestOn, 2) := zmw0 zwc_X4_interestOn zwl_8_189 zwi_X4_interestOn zwe_X4_interestOn
theorem zme_8_192 : zmw 8 (192, 0, qX6_add, 4) := zmw0 zwc_X6_add zwl_8_192 zwi_X6_add zwe_X6_add
theorem zme_8_196 : zmw 8 (196, 0, qX6_least, 2) := zmw0 zwc_X6_least zwl_8_196 zwi_X6_least zwe_X6_least
theorem zme_8_199 : zmw 8 (199, 0, qX6_greatest, 2) := zmw0 zwc_X6_greatest zwl_8_199 zwi_X6_greatest zwe_X6_greatest
theorem zme_8_202 : zmw 8 (202, 0, qX6_bestDue, 3) := zmw0 zwc_X6_bestDue zwl_8_202 zwi_X6_bestDue zwe_X6_bestDue
theorem zme_8_206 : zmw 8 (206, 0, qX6_untrueOf, 2) := zmw0 zwc_X6_untrueOf zwl_8_206 zwi_X6_untrueOf zwe_X6_untrueOf
theorem zme_8_210 : zmw 8 (210, 0, qX2_readFrom, 2) := zmw0 zwc_X2_readFrom zwl_8_210 zwi_X2_readFrom zwe_X2_readFrom
theorem zme_8_212 : zmw 8 (212, 0, qX2_clearAll, 1) := zmw0 zwc_X2_clearAll zwl_8_212 zwi_X2_clearAll zwe_X2_clearAll
theorem zme_8_219 : zmw 8 (219, 0, qX0_isAlive, 2) := zmw0 zwc_X0_isAlive zwl_8_219 zwi_X0_isAlive zwe_X0_isAlive
theorem zme_8_222 : zmw 8 (222, 0, qX1_share, 3) := zmw0 zwc_X1_share zwl_8_222 zwi_X1_share zwe_X1_share
theorem zme_8_226 : zmw 8 (226, 0, qX1_takeAllOfOne, 2) := zmw0 zwc_X1_takeAllOfOne zwl_8_226 zwi_X1_takeAllOfOne zwe_X1_takeAllOfOne
theorem zme_8_233 : zmw 8 (233, 0, qX7_startWithout, 3) := zmw0 zwc_X7_startWithout zwl_8_233 zwi_X7_startWithout zwe_X7_startWithout
theorem zme_8_236 : zmw 8 (236, 0, qX7_loansPaidLessThan, 2) := zmw0 zwc_X7_loansPaidLessThan zwl_8_236 zwi_X7_loansPaidLessThan zwe_X7_loansPaidLessThan
theorem zme_8_240 : zmw 8 (240, 0, qX7_firstDeadEarlierThan, 3) := zmw0 zwc_X7_firstDeadEarlierThan zwl_8_240 zwi_X7_firstDeadEarlierThan zwe_X7_firstDeadEarlierThan
theorem zme_8_244 : zmw 8 (244, 1, qX8_rowsOf, 4) := zmw1 zwc_X8_rowsOf zwl_8_244 zws_X8_rowsOf
theorem zme_8_247 : zmw 8 (247, 1, qX8_numberOfFirstRow, 4) := zmw1 zwc_X8_numberOfFirstRow zwl_8_247 zws_X8_numberOfFirstRow
theorem zme_8_250 : zmw 8 (250, 0, qX8_lendByDraw, 4) := zmw0 zwc_X8_lendByDraw zwl_8_250 zwi_X8_lendByDraw zwe_X8_lendByDraw
theorem zme_8_254 : zmw 8 (254, 0, qX0_lostByAll, 1) := zmw0 zwc_X0_lostByAll zwl_8_254 zwi_X0_lostByAll zwe_X0_lostByAll
theorem zme_8_260 : zmw 8 (260, 1, qX8_draw, 3) := zmw1 zwc_X8_draw zwl_8_260 zws_X8_draw
theorem zmz_8 : ∀ e ∈ zmt8, zmw 8 e := List.forall_mem_cons.mpr ⟨zme_8_9, List.forall_mem_cons.mpr ⟨zme_8_18, List.forall_mem_cons.mpr ⟨zme_8_28, List.forall_mem_cons.mpr ⟨zme_8_37, List.forall_mem_cons.mpr ⟨zme_8_47, List.forall_mem_cons.mpr ⟨zme_8_59, List.forall_mem_cons.mpr ⟨zme_8_66, List.forall_mem_cons.mpr ⟨zme_8_73, List.forall_mem_cons.mpr ⟨zme_8_78, List.forall_mem_cons.mpr ⟨zme_8_81, List.forall_mem_cons.mpr ⟨zme_8_85, List.forall_mem_cons.mpr ⟨zme_8_88, List.forall_mem_cons.mpr ⟨zme_8_96, List.forall_mem_cons.mpr ⟨zme_8_100, List.forall_mem_cons.mpr ⟨zme_8_107, List.forall_mem_cons.mpr ⟨zme_8_114, List.forall_mem_cons.mpr ⟨zme_8_124, List.forall_mem_cons.mpr ⟨zme_8_143, List.forall_mem_cons.mpr ⟨zme_8_147, List.forall_mem_cons.mpr ⟨zme_8_150, List.forall_mem_cons.mpr ⟨zme_8_154, List.forall_mem_cons.mpr ⟨zme_8_158, List.forall_mem_cons.mpr ⟨zme_8_162, List.forall_mem_cons.mpr ⟨zme_8_166, List.forall_mem_cons.mpr ⟨zme_8_170, List.forall_mem_cons.mpr ⟨zme_8_174, List.forall_mem_cons.mpr ⟨zme_8_177, List.forall_mem_cons.mpr ⟨zme_8_185, List.forall_mem_cons.mpr ⟨zme_8_189, List.forall_mem_cons.mpr ⟨zme_8_192, List.forall_mem_cons.mpr ⟨zme_8_196, List.forall_mem_cons.mpr ⟨zme_8_199, List.forall_mem_cons.mpr ⟨zme_8_202, List.forall_mem_cons.mpr ⟨zme_8_206, List.forall_mem_cons.mpr ⟨zme_8_210, List.forall_mem_cons.mpr ⟨zme_8_212, List.forall_mem_cons.mpr ⟨zme_8_219, List.forall_mem_cons.mpr ⟨zme_8_222, List.forall_mem_cons.mpr ⟨zme_8_226, List.forall_mem_cons.mpr ⟨zme_8_233, List.forall_mem_cons.mpr ⟨zme_8_236, List.forall_mem_cons.mpr ⟨zme_8_240, List.forall_mem_cons.mpr ⟨zme_8_244, List.forall_mem_cons.mpr ⟨zme_8_247, List.forall_mem_cons.mpr ⟨zme_8_250, List.forall_mem_cons.mpr ⟨zme_8_254, List.forall_mem_cons.mpr ⟨zme_8_260, fun _ h => absurd h List.not_mem_nil⟩⟩⟩⟩⟩⟩⟩⟩⟩⟩⟩⟩⟩⟩⟩⟩⟩⟩⟩⟩⟩⟩⟩⟩⟩⟩⟩⟩⟩⟩⟩⟩⟩⟩⟩⟩⟩⟩⟩⟩⟩⟩⟩⟩⟩⟩⟩
theorem zme_9_65 : zmw 9 (65, 0, qX9_begins, 1) := zmw0 zwc_X9_begins zwl_9_65 zwi_X9_begins zwe_X9_begins
theorem zme_9_71 : zmw 9 (71, 1, qX9_in, 3) := zmw1 zwc_X9_in zwl_9_71 zws_X9_in
theorem zme_9_80 : zmw 9 (80, 0, qX9_byteAt, 2) := zmw0 zwc_X9_byteAt zwl_9_80 zwi_X9_byteAt zwe_X9_byteAt
theorem zme_9_84 : zmw 9 (84, 0, qX9_isWell, 3) := zmw0 zwc_X9_isWell zwl_9_84 zwi_X9_isWell zwe_X9_isWell
theorem zme_9_88 : zmw 9 (88, 0, qX9_faultOf, 1) := zmw0 zwc_X9_faultOf zwl_9_88 zwi_X9_faultOf zwe_X9_faultOf
theorem zme_9_107 : zmw 9 (107, 0, qX9_isPerson, 2) := zmw0 zwc_X9_isPerson zwl_9_107 zwi_X9_isPerson zwe_X9_isPerson
theorem zme_9_111 : zmw 9 (111, 0, qX9_owesAll, 2) := zmw0 zwc_X9_owesAll zwl_9_111 zwi_X9_owesAll zwe_X9_owesAll
theorem zme_9_114 : zmw 9 (114, 1, qX9_isSpan, 1) := zmw1 zwc_X9_isSpan zwl_9_114 zws_X9_isSpan
theorem zme_9_117 : zmw 9 (117, 0, qX9_dueOf, 2) := zmw0 zwc_X9_dueOf zwl_9_117 zwi_X9_dueOf zwe_X9_dueOf
theorem zme_9_120 : zmw 9 (120, 0, qX9_mayAsk, 5) := zmw0 zwc_X9_mayAsk zwl_9_120 zwi_X9_mayAsk zwe_X9_mayAsk
theorem zme_9_124 : zmw 9 (124, 0, qX9_says, 5) := zmw0 zwc_X9_says zwl_9_124 zwi_X9_says zwe_X9_says
theorem zme_9_127 : zmw 9 (127, 0, qX9_notes, 1) := zmw0 zwc_X9_notes zwl_9_127 zwi_X9_notes zwe_X9_notes
theorem zme_9_130 : zmw 9 (130, 0, qX9_lends, 5) := zmw0 zwc_X9_lends zwl_9_130 zwi_X9_lends zwe_X9_lends
theorem zme_9_134 : zmw 9 (134, 1, qX9_lesser, 2) := zmw1 zwc_X9_lesser zwl_9_134 zws_X9_lesser
theorem zme_9_138 : zmw 9 (138, 0, qX9_gives, 4) := zmw0 zwc_X9_gives zwl_9_138 zwi_X9_gives zwe_X9_gives
theorem zme_9_142 : zmw 9 (142, 0, qX9_dueNow, 2) := zmw0 zwc_X9_dueNow zwl_9_142 zwi_X9_dueNow zwe_X9_dueNow
theorem zme_9_146 : zmw 9 (146, 0, qX9_pays, 2) := zmw0 zwc_X9_pays zwl_9_146 zwi_X9_pays zwe_X9_pays
theorem zme_9_150 : zmw 9 (150, 0, qX9_drops, 2) := zmw0 zwc_X9_drops zwl_9_150 zwi_X9_drops zwe_X9_drops
theorem zme_9_153 : zmw 9 (153, 0, qX9_goes, 1) := zmw0 zwc_X9_goes zwl_9_153 zwi_X9_goes zwe_X9_goes
theorem zme_9_156 : zmw 9 (156, 0, qX9_living, 1) := zmw0 zwc_X9_living zwl_9_156 zwi_X9_living zwe_X9_living
theorem zme_9_159 : zmw 9 (159, 0, qX9_aside, 2) := zmw0 zwc_X9_aside zwl_9_159 zwi_X9_aside zwe_X9_aside
theorem zme_9_169 : zmw 9 (169, 0, qX9_isSo, 3) := zmw0 zwc_X9_isSo zwl_9_169 zwi_X9_isSo zwe_X9_isSo
theorem zme_9_172 : zmw 9 (172, 0, qX9_spans, 2) := zmw0 zwc_X9_spans zwl_9_172 zwi_X9_spans zwe_X9_spans
theorem zme_9_175 : zmw 9 (175, 0, qX9_findsRing, 2) := zmw0 zwc_X9_findsRing zwl_9_175 zwi_X9_findsRing zwe_X9_findsRing
theorem zme_9_178 : zmw 9 (178, 0, qX9_clears, 1) := zmw0 zwc_X9_clears zwl_9_178 zwi_X9_clears zwe_X9_clears
theorem zme_9_181 : zmw 9 (181, 0, qX9_shares, 2) := zmw0 zwc_X9_shares zwl_9_181 zwi_X9_shares zwe_X9_shares
theorem zme_9_184 : zmw 9 (184, 0, qX9_runs, 1) := zmw0 zwc_X9_runs zwl_9_184 zwi_X9_runs zwe_X9_runs
theorem zme_9_195 : zmw 9 (195, 1, qX9_draw, 3) := zmw1 zwc_X9_draw zwl_9_195 zws_X9_draw
theorem zmz_9 : ∀ e ∈ zmt9, zmw 9 e := List.forall_mem_cons.mpr ⟨zme_9_65, List.forall_mem_cons.mpr ⟨zme_9_71, List.forall_mem_cons.mpr ⟨zme_9_80, List.forall_mem_cons.mpr ⟨zme_9_84, List.forall_mem_cons.mpr ⟨zme_9_88, List.forall_mem_cons.mpr ⟨zme_9_107, List.forall_mem_cons.mpr ⟨zme_9_111, List.forall_mem_cons.mpr ⟨zme_9_114, List.forall_mem_cons.mpr ⟨zme_9_117, List.forall_mem_cons.mpr ⟨zme_9_120, List.forall_mem_cons.mpr ⟨zme_9_124, List.forall_mem_cons.mpr ⟨zme_9_127, List.forall_mem_cons.mpr ⟨zme_9_130, List.forall_mem_cons.mpr ⟨zme_9_134, List.forall_mem_cons.mpr ⟨zme_9_138, List.forall_mem_cons.mpr ⟨zme_9_142, List.forall_mem_cons.mpr ⟨zme_9_146, List.forall_mem_cons.mpr ⟨zme_9_150, List.forall_mem_cons.mpr ⟨zme_9_153, List.forall_mem_cons.mpr ⟨zme_9_156, List.forall_mem_cons.mpr ⟨zme_9_159, List.forall_mem_cons.mpr ⟨zme_9_169, List.forall_mem_cons.mpr ⟨zme_9_172, List.forall_mem_cons.mpr ⟨zme_9_175, List.forall_mem_cons.mpr ⟨zme_9_178, List.forall_mem_cons.mpr ⟨zme_9_181, List.forall_mem_cons.mpr ⟨zme_9_184, List.forall_mem_cons.mpr ⟨zme_9_195, fun _ h => absurd h List.not_mem_nil⟩⟩⟩⟩⟩⟩⟩⟩⟩⟩⟩⟩⟩⟩⟩⟩⟩⟩⟩⟩⟩⟩⟩⟩⟩⟩⟩⟩
theorem zme_10_9 : zmw 10 (9, 3, qX8_init, 1) := zmw3 zwc_X8_init zwl_10_9 zwi_X8_init
theorem zme_10_12 : zmw 10 (12, 3, qX9_init, 1) := zmw3 zwc_X9_init zwl_10_12 zwi_X9_init
theorem zme_10_15 : zmw 10 (15, 0, qX8_write, 3) := zmw0 zwc_X8_write zwl_10_15 zwi_X8_write zwe_X8_write
theorem zme_10_19 : zmw 10 (19, 0, qX9_write, 3) := zmw0 zwc_X9_write zwl_10_19 zwi_X9_write zwe_X9_write
theorem zme_10_20 : zmw 10 (20, 0, qX8_wipe, 1) := zmw0 zwc_X8_wipe zwl_10_20 zwi_X8_wipe zwe_X8_wipe
theorem zme_10_24 : zmw 10 (24, 0, qX9_wipe, 1) := zmw0 zwc_X9_wipe zwl_10_24 zwi_X9_wipe zwe_X9_wipe
theorem zme_10_25 : zmw 10 (25, 0, qX8_fault, 1) := zmw0 zwc_X8_fault zwl_10_25 zwi_X8_fault zwe_X8_fault
theorem zme_10_28 : zmw 10 (28, 0, qX9_fault, 1) := zmw0 zwc_X9_fault zwl_10_28 zwi_X9_fault zwe_X9_fault
theorem zme_10_29 : zmw 10 (29, 0, qX8_lay, 1) := zmw0 zwc_X8_lay zwl_10_29 zwi_X8_lay zwe_X8_lay
theorem zme_10_32 : zmw 10 (32, 0, qX9_lay, 1) := zmw0 zwc_X9_lay zwl_10_32 zwi_X9_lay zwe_X9_lay
theorem zme_10_33 : zmw 10 (33, 0, qX8_person, 3) := zmw0 zwc_X8_person zwl_10_33 zwi_X8_person zwe_X8_person
theorem zme_10_37 : zmw 10 (37, 0, qX9_person, 3) := zmw0 zwc_X9_person zwl_10_37 zwi_X9_person zwe_X9_person
theorem zme_10_38 : zmw 10 (38, 0, qX8_loan, 3) := zmw0 zwc_X8_loan zwl_10_38 zwi_X8_loan zwe_X8_loan
theorem zme_10_41 : zmw 10 (41, 0, qX9_loan, 3) := zmw0 zwc_X9_loan zwl_10_41 zwi_X9_loan zwe_X9_loan
theorem zme_10_42 : zmw 10 (42, 0, qX8_notary, 5) := zmw0 zwc_X8_notary zwl_10_42 zwi_X8_notary zwe_X8_notary
theorem zme_10_46 : zmw 10 (46, 0, qX9_notary, 5) := zmw0 zwc_X9_notary zwl_10_46 zwi_X9_notary zwe_X9_notary
theorem zme_10_47 : zmw 10 (47, 0, qX8_lend, 5) := zmw0 zwc_X8_lend zwl_10_47 zwi_X8_lend zwe_X8_lend
theorem zme_10_50 : zmw 10 (50, 0, qX9_lend, 5) := zmw0 zwc_X9_lend zwl_10_50 zwi_X9_lend zwe_X9_lend
theorem zme_10_51 : zmw 10 (51, 0, qX8_week, 1) := zmw0 zwc_X8_week zwl_10_51 zwi_X8_week zwe_X8_week
theorem zme_10_54 : zmw 10 (54, 0, qX9_week, 1) := zmw0 zwc_X9_week zwl_10_54 zwi_X9_week zwe_X9_week
theorem zme_10_55 : zmw 10 (55, 0, qX8_undo, 1) := zmw0 zwc_X8_undo zwl_10_55 zwi_X8_undo zwe_X8_undo
theorem zme_10_58 : zmw 10 (58, 0, qX9_undo, 1) := zmw0 zwc_X9_undo zwl_10_58 zwi_X9_undo zwe_X9_undo
theorem zme_10_59 : zmw 10 (59, 0, qX8_dies, 2) := zmw0 zwc_X8_dies zwl_10_59 zwi_X8_dies zwe_X8_dies
theorem zme_10_63 : zmw 10 (63, 0, qX9_dies, 2) := zmw0 zwc_X9_dies zwl_10_63 zwi_X9_dies zwe_X9_dies
theorem zme_10_64 : zmw 10 (64, 0, qX8_run, 4) := zmw0 zwc_X8_run zwl_10_64 zwi_X8_run zwe_X8_run
theorem zme_10_68 : zmw 10 (68, 0, qX9_run, 4) := zmw0 zwc_X9_run zwl_10_68 zwi_X9_run zwe_X9_run
theorem zme_10_69 : zmw 10 (69, 0, qX8_tell, 5) := zmw0 zwc_X8_tell zwl_10_69 zwi_X8_tell zwe_X8_tell
theorem zme_10_73 : zmw 10 (73, 0, qX9_tell, 5) := zmw0 zwc_X9_tell zwl_10_73 zwi_X9_tell zwe_X9_tell
theorem zme_10_74 : zmw 10 (74, 0, qX8_forget, 1) := zmw0 zwc_X8_forget zwl_10_74 zwi_X8_forget zwe_X8_forget
theorem zme_10_77 : zmw 10 (77, 0, qX9_forget, 1) := zmw0 zwc_X9_forget zwl_10_77 zwi_X9_forget zwe_X9_forget
theorem zme_10_78 : zmw 10 (78, 0, qX8_span, 3) := zmw0 zwc_X8_span zwl_10_78 zwi_X8_span zwe_X8_span
theorem zme_10_81 : zmw 10 (81, 0, qX9_span, 3) := zmw0 zwc_X9_span zwl_10_81 zwi_X9_span zwe_X9_span
theorem zme_10_82 : zmw 10 (82, 0, qX8_ask, 3) := zmw0 zwc_X8_ask zwl_10_82 zwi_X8_ask zwe_X8_ask
theorem zme_10_85 : zmw 10 (85, 0, qX9_ask, 3) := zmw0 zwc_X9_ask zwl_10_85 zwi_X9_ask zwe_X9_ask
theorem zme_10_86 : zmw 10 (86, 0, qX8_bribed, 1) := zmw0 zwc_X8_bribed zwl_10_86 zwi_X8_bribed zwe_X8_bribed
theorem zme_10_89 : zmw 10 (89, 0, qX9_bribed, 1) := zmw0 zwc_X9_bribed zwl_10_89 zwi_X9_bribed zwe_X9_bribed
theorem zme_10_90 : zmw 10 (90, 0, qX8_cleared, 3) := zmw0 zwc_X8_cleared zwl_10_90 zwi_X8_cleared zwe_X8_cleared
theorem zme_10_93 : zmw 10 (93, 0, qX9_cleared, 3) := zmw0 zwc_X9_cleared zwl_10_93 zwi_X9_cleared zwe_X9_cleared
theorem zme_10_94 : zmw 10 (94, 0, qX8_child, 3) := zmw0 zwc_X8_child zwl_10_94 zwi_X8_child zwe_X8_child
theorem zme_10_97 : zmw 10 (97, 0, qX9_child, 3) := zmw0 zwc_X9_child zwl_10_97 zwi_X9_child zwe_X9_child
theorem zme_10_98 : zmw 10 (98, 0, qX8_falls, 3) := zmw0 zwc_X8_falls zwl_10_98 zwi_X8_falls zwe_X8_falls
theorem zme_10_101 : zmw 10 (101, 0, qX9_falls, 3) := zmw0 zwc_X9_falls zwl_10_101 zwi_X9_falls zwe_X9_falls
theorem zme_10_102 : zmw 10 (102, 0, qX8_burned, 5) := zmw0 zwc_X8_burned zwl_10_102 zwi_X8_burned zwe_X8_burned
theorem zme_10_105 : zmw 10 (105, 0, qX9_burned, 5) := zmw0 zwc_X9_burned zwl_10_105 zwi_X9_burned zwe_X9_burned
theorem zme_10_106 : zmw 10 (106, 0, qX8_drawn, 4) := zmw0 zwc_X8_drawn zwl_10_106 zwi_X8_drawn zwe_X8_drawn
theorem zme_10_109 : zmw 10 (109, 0, qX9_drawn, 4) := zmw0 zwc_X9_drawn zwl_10_109 zwi_X9_drawn zwe_X9_drawn
theorem zme_10_110 : zmw 10 (110, 0, qX8_keep, 1) := zmw0 zwc_X8_keep zwl_10_110 zwi_X8_keep zwe_X8_keep
theorem zme_10_113 : zmw 10 (113, 0, qX9_keep, 1) := zmw0 zwc_X9_keep zwl_10_113 zwi_X9_keep zwe_X9_keep
theorem zme_10_114 : zmw 10 (114, 0, qX8_back, 1) := zmw0 zwc_X8_back zwl_10_114 zwi_X8_back zwe_X8_back
theorem zme_10_117 : zmw 10 (117, 0, qX9_back, 1) := zmw0 zwc_X9_back zwl_10_117 zwi_X9_back zwe_X9_back
theorem zme_10_118 : zmw 10 (118, 0, qX8_count, 2) := zmw0 zwc_X8_count zwl_10_118 zwi_X8_count zwe_X8_count
theorem zme_10_121 : zmw 10 (121, 0, qX9_count, 2) := zmw0 zwc_X9_count zwl_10_121 zwi_X9_count zwe_X9_count
theorem zmz_10 : ∀ e ∈ zmt10, zmw 10 e := List.forall_mem_cons.mpr ⟨zme_10_9, List.forall_mem_cons.mpr ⟨zme_10_12, List.forall_mem_cons.mpr ⟨zme_10_15, List.forall_mem_cons.mpr ⟨zme_10_19, List.forall_mem_cons.mpr ⟨zme_10_20, List.forall_mem_cons.mpr ⟨zme_10_24, List.forall_mem_cons.mpr ⟨zme_10_25, List.forall_mem_cons.mpr ⟨zme_10_28, List.forall_mem_cons.mpr ⟨zme_10_29, List.forall_mem_cons.mpr ⟨zme_10_32, List.forall_mem_cons.mpr ⟨zme_10_33, List.forall_mem_cons.mpr ⟨zme_10_37, List.forall_mem_cons.mpr ⟨zme_10_38, List.forall_mem_cons.mpr ⟨zme_10_41, List.forall_mem_cons.mpr ⟨zme_10_42, List.forall_mem_cons.mpr ⟨zme_10_46, List.forall_mem_cons.mpr ⟨zme_10_47, List.forall_mem_cons.mpr ⟨zme_10_50, List.forall_mem_cons.mpr ⟨zme_10_51, List.forall_mem_cons.mpr ⟨zme_10_54, List.forall_mem_cons.mpr ⟨zme_10_55, List.forall_mem_cons.mpr ⟨zme_10_58, List.forall_mem_cons.mpr ⟨zme_10_59, List.forall_mem_cons.mpr ⟨zme_10_63, List.forall_mem_cons.mpr ⟨zme_10_64, List.forall_mem_cons.mpr ⟨zme_10_68, List.forall_mem_cons.mpr ⟨zme_10_69, List.forall_mem_cons.mpr ⟨zme_10_73, List.forall_mem_cons.mpr ⟨zme_10_74, List.forall_mem_cons.mpr ⟨zme_10_77, List.forall_mem_cons.mpr ⟨zme_10_78, List.forall_mem_cons.mpr ⟨zme_10_81, List.forall_mem_cons.mpr ⟨zme_10_82, List.forall_mem_cons.mpr ⟨zme_10_85, List.forall_mem_cons.mpr ⟨zme_10_86, List.forall_mem_cons.mpr ⟨zme_10_89, List.forall_mem_cons.mpr ⟨zme_10_90, List.forall_mem_cons.mpr ⟨zme_10_93, List.forall_mem_cons.mpr ⟨zme_10_94, List.forall_mem_cons.mpr ⟨zme_10_97, List.forall_mem_cons.mpr ⟨zme_10_98, List.forall_mem_cons.mpr ⟨zme_10_101, List.forall_mem_cons.mpr ⟨zme_10_102, List.forall_mem_cons.mpr ⟨zme_10_105, List.forall_mem_cons.mpr ⟨zme_10_106, List.forall_mem_cons.mpr ⟨zme_10_109, List.forall_mem_cons.mpr ⟨zme_10_110, List.forall_mem_cons.mpr ⟨zme_10_113, List.forall_mem_cons.mpr ⟨zme_10_114, List.forall_mem_cons.mpr ⟨zme_10_117, List.forall_mem_cons.mpr ⟨zme_10_118, List.forall_mem_cons.mpr ⟨zme_10_121, fun _ h => absurd h List.not_mem_nil⟩⟩⟩⟩⟩⟩⟩⟩⟩⟩⟩⟩⟩⟩⟩⟩⟩⟩⟩⟩⟩⟩⟩⟩⟩⟩⟩⟩⟩⟩⟩⟩⟩⟩⟩⟩⟩⟩⟩⟩⟩⟩⟩⟩⟩⟩⟩⟩⟩⟩⟩⟩
theorem zm_in {c i : Nat} {x : Nat × zM × Nat} (h : zmt c i = some x) : c ∈ List.range 11 ∧ (i, x) ∈ zmta c := by
  obtain ⟨hc, hm⟩ := zgd_mem _ h
  exact ⟨List.mem_range.mpr hc, hm⟩
theorem zm_w {c i : Nat} {x : Nat × zM × Nat} (h : zmt c i = some x) : zmw c (i, x) := by
  obtain ⟨hc, hm⟩ := zgd_mem _ h
  exact zc11 (P := fun c => ∀ e ∈ zmta c, zmw c e) (c := c) hc zmz_0 zmz_1 zmz_2 zmz_3 zmz_4 zmz_5 zmz_6 zmz_7 zmz_8 zmz_9 zmz_10 (i, x) hm
theorem zki_ok0 : ∀ e ∈ zki0, ((-2147483648 ≤ e.2 ∧ e.2 ≤ 2147483647) ∧ Cond.constant (zcn 0) e.1 (Int32.ofInt e.2) ∈ lw_tbl) := by decide +kernel
theorem zki_ok1 : ∀ e ∈ zki1, ((-2147483648 ≤ e.2 ∧ e.2 ≤ 2147483647) ∧ Cond.constant (zcn 1) e.1 (Int32.ofInt e.2) ∈ lw_tbl) := by decide +kernel
theorem zki_ok2 : ∀ e ∈ zki2, ((-2147483648 ≤ e.2 ∧ e.2 ≤ 2147483647) ∧ Cond.constant (zcn 2) e.1 (Int32.ofInt e.2) ∈ lw_tbl) := by decide +kernel
theorem zki_ok3 : ∀ e ∈ zki3, ((-2147483648 ≤ e.2 ∧ e.2 ≤ 2147483647) ∧ Cond.constant (zcn 3) e.1 (Int32.ofInt e.2) ∈ lw_tbl) := by decide +kernel
theorem zki_ok4 : ∀ e ∈ zki4, ((-2147483648 ≤ e.2 ∧ e.2 ≤ 2147483647) ∧ Cond.constant (zcn 4) e.1 (Int32.ofInt e.2) ∈ lw_tbl) := by decide +kernel
theorem zki_ok5 : ∀ e ∈ zki5, ((-2147483648 ≤ e.2 ∧ e.2 ≤ 2147483647) ∧ Cond.constant (zcn 5) e.1 (Int32.ofInt e.2) ∈ lw_tbl) := by decide +kernel
theorem zki_ok6 : ∀ e ∈ zki6, ((-2147483648 ≤ e.2 ∧ e.2 ≤ 2147483647) ∧ Cond.constant (zcn 6) e.1 (Int32.ofInt e.2) ∈ lw_tbl) := by decide +kernel
theorem zki_ok7 : ∀ e ∈ zki7, ((-2147483648 ≤ e.2 ∧ e.2 ≤ 2147483647) ∧ Cond.constant (zcn 7) e.1 (Int32.ofInt e.2) ∈ lw_tbl) := by decide +kernel
theorem zki_ok8 : ∀ e ∈ zki8, ((-2147483648 ≤ e.2 ∧ e.2 ≤ 2147483647) ∧ Cond.constant (zcn 8) e.1 (Int32.ofInt e.2) ∈ lw_tbl) := by decide +kernel
theorem zki_ok9 : ∀ e ∈ zki9, ((-2147483648 ≤ e.2 ∧ e.2 ≤ 2147483647) ∧ Cond.constant (zcn 9) e.1 (Int32.ofInt e.2) ∈ lw_tbl) := by decide +kernel
theorem zki_ok10 : ∀ e ∈ zki10, ((-2147483648 ≤ e.2 ∧ e.2 ≤ 2147483647) ∧ Cond.constant (zcn 10) e.1 (Int32.ofInt e.2) ∈ lw_tbl) := by decide +kernel
theorem zki_ok {c i : Nat} {x : Int} (h : zki c i = some x) : (fun e : Nat × Int => ((-2147483648 ≤ e.2 ∧ e.2 ≤ 2147483647) ∧ Cond.constant (zcn c) e.1 (Int32.ofInt e.2) ∈ lw_tbl)) (i, x) := by
  obtain ⟨hc, hm⟩ := zgd_mem _ h
  exact zc11 (P := fun c => ∀ e ∈ [zki0, zki1, zki2, zki3, zki4, zki5, zki6, zki7, zki8, zki9, zki10].getD c [], ((-2147483648 ≤ e.2 ∧ e.2 ≤ 2147483647) ∧ Cond.constant (zcn c) e.1 (Int32.ofInt e.2) ∈ lw_tbl)) (c := c) hc zki_ok0 zki_ok1 zki_ok2 zki_ok3 zki_ok4 zki_ok5 zki_ok6 zki_ok7 zki_ok8 zki_ok9 zki_ok10 (i, x) hm
theorem zkl_ok0 : ∀ e ∈ zkl0, ((-9223372036854775808 ≤ e.2 ∧ e.2 ≤ 9223372036854775807) ∧ Cond.constantLong (zcn 0) e.1 (Int64.ofInt e.2) ∈ lw_tbl) := by decide +kernel
theorem zkl_ok1 : ∀ e ∈ zkl1, ((-9223372036854775808 ≤ e.2 ∧ e.2 ≤ 9223372036854775807) ∧ Cond.constantLong (zcn 1) e.1 (Int64.ofInt e.2) ∈ lw_tbl) := by decide +kernel
theorem zkl_ok2 : ∀ e ∈ zkl2, ((-9223372036854775808 ≤ e.2 ∧ e.2 ≤ 9223372036854775807) ∧ Cond.constantLong (zcn 2) e.1 (Int64.ofInt e.2) ∈ lw_tbl) := by decide +kernel
theorem zkl_ok3 : ∀ e ∈ zkl3, ((-9223372036854775808 ≤ e.2 ∧ e.2 ≤ 9223372036854775807) ∧ Cond.constantLong (zcn 3) e.1 (Int64.ofInt e.2) ∈ lw_tbl) := by decide +kernel
theorem zkl_ok4 : ∀ e ∈ zkl4, ((-9223372036854775808 ≤ e.2 ∧ e.2 ≤ 9223372036854775807) ∧ Cond.constantLong (zcn 4) e.1 (Int64.ofInt e.2) ∈ lw_tbl) := by decide +kernel
theorem zkl_ok5 : ∀ e ∈ zkl5, ((-9223372036854775808 ≤ e.2 ∧ e.2 ≤ 9223372036854775807) ∧ Cond.constantLong (zcn 5) e.1 (Int64.ofInt e.2) ∈ lw_tbl) := by decide +kernel
theorem zkl_ok6 : ∀ e ∈ zkl6, ((-9223372036854775808 ≤ e.2 ∧ e.2 ≤ 9223372036854775807) ∧ Cond.constantLong (zcn 6) e.1 (Int64.ofInt e.2) ∈ lw_tbl) := by decide +kernel
theorem zkl_ok7 : ∀ e ∈ zkl7, ((-9223372036854775808 ≤ e.2 ∧ e.2 ≤ 9223372036854775807) ∧ Cond.constantLong (zcn 7) e.1 (Int64.ofInt e.2) ∈ lw_tbl) := by decide +kernel
theorem zkl_ok8 : ∀ e ∈ zkl8, ((-9223372036854775808 ≤ e.2 ∧ e.2 ≤ 9223372036854775807) ∧ Cond.constantLong (zcn 8) e.1 (Int64.ofInt e.2) ∈ lw_tbl) := by decide +kernel
theorem zkl_ok9 : ∀ e ∈ zkl9, ((-9223372036854775808 ≤ e.2 ∧ e.2 ≤ 9223372036854775807) ∧ Cond.constantLong (zcn 9) e.1 (Int64.ofInt e.2) ∈ lw_tbl) := by decide +kernel
theorem zkl_ok10 : ∀ e ∈ zkl10, ((-9223372036854775808 ≤ e.2 ∧ e.2 ≤ 9223372036854775807) ∧ Cond.constantLong (zcn 10) e.1 (Int64.ofInt e.2) ∈ lw_tbl) := by decide +kernel
theorem zkl_ok {c i : Nat} {x : Int} (h : zkl c i = some x) : (fun e : Nat × Int => ((-9223372036854775808 ≤ e.2 ∧ e.2 ≤ 9223372036854775807) ∧ Cond.constantLong (zcn c) e.1 (Int64.ofInt e.2) ∈ lw_tbl)) (i, x) := by
  obtain ⟨hc, hm⟩ := zgd_mem _ h
  exact zc11 (P := fun c => ∀ e ∈ [zkl0, zkl1, zkl2, zkl3, zkl4, zkl5, zkl6, zkl7, zkl8, zkl9, zkl10].getD c [], ((-9223372036854775808 ≤ e.2 ∧ e.2 ≤ 9223372036854775807) ∧ Cond.constantLong (zcn c) e.1 (Int64.ofInt e.2) ∈ lw_tbl)) (c := c) hc zkl_ok0 zkl_ok1 zkl_ok2 zkl_ok3 zkl_ok4 zkl_ok5 zkl_ok6 zkl_ok7 zkl_ok8 zkl_ok9 zkl_ok10 (i, x) hm
theorem zct_ok0 : ∀ e ∈ zct0, ((e.2 < 10 → Cond.classLink (zcn 0) e.1 (zcn e.2) ∈ lw_tbl) ∧ (e.2 = 200 → Cond.classLink (zcn 0) e.1 ("[" ++ (FieldType.array .int).toString) ∈ lw_tbl)) := by decide +kernel
theorem zct_ok1 : ∀ e ∈ zct1, ((e.2 < 10 → Cond.classLink (zcn 1) e.1 (zcn e.2) ∈ lw_tbl) ∧ (e.2 = 200 → Cond.classLink (zcn 1) e.1 ("[" ++ (FieldType.array .int).toString) ∈ lw_tbl)) := by decide +kernel
theorem zct_ok2 : ∀ e ∈ zct2, ((e.2 < 10 → Cond.classLink (zcn 2) e.1 (zcn e.2) ∈ lw_tbl) ∧ (e.2 = 200 → Cond.classLink (zcn 2) e.1 ("[" ++ (FieldType.array .int).toString) ∈ lw_tbl)) := by decide +kernel
theorem zct_ok3 : ∀ e ∈ zct3, ((e.2 < 10 → Cond.classLink (zcn 3) e.1 (zcn e.2) ∈ lw_tbl) ∧ (e.2 = 200 → Cond.classLink (zcn 3) e.1 ("[" ++ (FieldType.array .int).toString) ∈ lw_tbl)) := by decide +kernel
theorem zct_ok4 : ∀ e ∈ zct4, ((e.2 < 10 → Cond.classLink (zcn 4) e.1 (zcn e.2) ∈ lw_tbl) ∧ (e.2 = 200 → Cond.classLink (zcn 4) e.1 ("[" ++ (FieldType.array .int).toString) ∈ lw_tbl)) := by decide +kernel
theorem zct_ok5 : ∀ e ∈ zct5, ((e.2 < 10 → Cond.classLink (zcn 5) e.1 (zcn e.2) ∈ lw_tbl) ∧ (e.2 = 200 → Cond.classLink (zcn 5) e.1 ("[" ++ (FieldType.array .int).toString) ∈ lw_tbl)) := by decide +kernel
theorem zct_ok6 : ∀ e ∈ zct6, ((e.2 < 10 → Cond.classLink (zcn 6) e.1 (zcn e.2) ∈ lw_tbl) ∧ (e.2 = 200 → Cond.classLink (zcn 6) e.1 ("[" ++ (FieldType.array .int).toString) ∈ lw_tbl)) := by decide +kernel
theorem zct_ok7 : ∀ e ∈ zct7, ((e.2 < 10 → Cond.classLink (zcn 7) e.1 (zcn e.2) ∈ lw_tbl) ∧ (e.2 = 200 → Cond.classLink (zcn 7) e.1 ("[" ++ (FieldType.array .int).toString) ∈ lw_tbl)) := by decide +kernel
theorem zct_ok8 : ∀ e ∈ zct8, ((e.2 < 10 → Cond.classLink (zcn 8) e.1 (zcn e.2) ∈ lw_tbl) ∧ (e.2 = 200 → Cond.classLink (zcn 8) e.1 ("[" ++ (FieldType.array .int).toString) ∈ lw_tbl)) := by decide +kernel
theorem zct_ok9 : ∀ e ∈ zct9, ((e.2 < 10 → Cond.classLink (zcn 9) e.1 (zcn e.2) ∈ lw_tbl) ∧ (e.2 = 200 → Cond.classLink (zcn 9) e.1 ("[" ++ (FieldType.array .int).toString) ∈ lw_tbl)) := by decide +kernel
theorem zct_ok10 : ∀ e ∈ zct10, ((e.2 < 10 → Cond.classLink (zcn 10) e.1 (zcn e.2) ∈ lw_tbl) ∧ (e.2 = 200 → Cond.classLink (zcn 10) e.1 ("[" ++ (FieldType.array .int).toString) ∈ lw_tbl)) := by decide +kernel
theorem zct_ok {c i : Nat} {x : Nat} (h : zct c i = some x) : (fun e : Nat × Nat => ((e.2 < 10 → Cond.classLink (zcn c) e.1 (zcn e.2) ∈ lw_tbl) ∧ (e.2 = 200 → Cond.classLink (zcn c) e.1 ("[" ++ (FieldType.array .int).toString) ∈ lw_tbl))) (i, x) := by
  obtain ⟨hc, hm⟩ := zgd_mem _ h
  exact zc11 (P := fun c => ∀ e ∈ [zct0, zct1, zct2, zct3, zct4, zct5, zct6, zct7, zct8, zct9, zct10].getD c [], ((e.2 < 10 → Cond.classLink (zcn c) e.1 (zcn e.2) ∈ lw_tbl) ∧ (e.2 = 200 → Cond.classLink (zcn c) e.1 ("[" ++ (FieldType.array .int).toString) ∈ lw_tbl))) (c := c) hc zct_ok0 zct_ok1 zct_ok2 zct_ok3 zct_ok4 zct_ok5 zct_ok6 zct_ok7 zct_ok8 zct_ok9 zct_ok10 (i, x) hm
theorem zbt_ok0 : ∀ e ∈ zbt0, ((e.2 = 0 → Cond.methodLink (zcn 0) e.1 Lib.Math.max.name ∈ lw_tbl) ∧ (e.2 = 1 → Cond.methodLink (zcn 0) e.1 Lib.Math.min.name ∈ lw_tbl) ∧ (e.2 = 2 → Cond.methodLink (zcn 0) e.1 arraycopyName ∈ lw_tbl) ∧ (e.2 = 3 → Cond.methodLink (zcn 0) e.1 Lib.objectInit ∈ lw_tbl)) := by decide +kernel
theorem zbt_ok1 : ∀ e ∈ zbt1, ((e.2 = 0 → Cond.methodLink (zcn 1) e.1 Lib.Math.max.name ∈ lw_tbl) ∧ (e.2 = 1 → Cond.methodLink (zcn 1) e.1 Lib.Math.min.name ∈ lw_tbl) ∧ (e.2 = 2 → Cond.methodLink (zcn 1) e.1 arraycopyName ∈ lw_tbl) ∧ (e.2 = 3 → Cond.methodLink (zcn 1) e.1 Lib.objectInit ∈ lw_tbl)) := by decide +kernel
theorem zbt_ok2 : ∀ e ∈ zbt2, ((e.2 = 0 → Cond.methodLink (zcn 2) e.1 Lib.Math.max.name ∈ lw_tbl) ∧ (e.2 = 1 → Cond.methodLink (zcn 2) e.1 Lib.Math.min.name ∈ lw_tbl) ∧ (e.2 = 2 → Cond.methodLink (zcn 2) e.1 arraycopyName ∈ lw_tbl) ∧ (e.2 = 3 → Cond.methodLink (zcn 2) e.1 Lib.objectInit ∈ lw_tbl)) := by decide +kernel
theorem zbt_ok3 : ∀ e ∈ zbt3, ((e.2 = 0 → Cond.methodLink (zcn 3) e.1 Lib.Math.max.name ∈ lw_tbl) ∧ (e.2 = 1 → Cond.methodLink (zcn 3) e.1 Lib.Math.min.name ∈ lw_tbl) ∧ (e.2 = 2 → Cond.methodLink (zcn 3) e.1 arraycopyName ∈ lw_tbl) ∧ (e.2 = 3 → Cond.methodLink (zcn 3) e.1 Lib.objectInit ∈ lw_tbl)) := by decide +kernel
theorem zbt_ok4 : ∀ e ∈ zbt4, ((e.2 = 0 → Cond.methodLink (zcn 4) e.1 Lib.Math.max.name ∈ lw_tbl) ∧ (e.2 = 1 → Cond.methodLink (zcn 4) e.1 Lib.Math.min.name ∈ lw_tbl) ∧ (e.2 = 2 → Cond.methodLink (zcn 4) e.1 arraycopyName ∈ lw_tbl) ∧ (e.2 = 3 → Cond.methodLink (zcn 4) e.1 Lib.objectInit ∈ lw_tbl)) := by decide +kernel
theorem zbt_ok5 : ∀ e ∈ zbt5, ((e.2 = 0 → Cond.methodLink (zcn 5) e.1 Lib.Math.max.name ∈ lw_tbl) ∧ (e.2 = 1 → Cond.methodLink (zcn 5) e.1 Lib.Math.min.name ∈ lw_tbl) ∧ (e.2 = 2 → Cond.methodLink (zcn 5) e.1 arraycopyName ∈ lw_tbl) ∧ (e.2 = 3 → Cond.methodLink (zcn 5) e.1 Lib.objectInit ∈ lw_tbl)) := by decide +kernel
theorem zbt_ok6 : ∀ e ∈ zbt6, ((e.2 = 0 → Cond.methodLink (zcn 6) e.1 Lib.Math.max.name ∈ lw_tbl) ∧ (e.2 = 1 → Cond.methodLink (zcn 6) e.1 Lib.Math.min.name ∈ lw_tbl) ∧ (e.2 = 2 → Cond.methodLink (zcn 6) e.1 arraycopyName ∈ lw_tbl) ∧ (e.2 = 3 → Cond.methodLink (zcn 6) e.1 Lib.objectInit ∈ lw_tbl)) := by decide +kernel
theorem zbt_ok7 : ∀ e ∈ zbt7, ((e.2 = 0 → Cond.methodLink (zcn 7) e.1 Lib.Math.max.name ∈ lw_tbl) ∧ (e.2 = 1 → Cond.methodLink (zcn 7) e.1 Lib.Math.min.name ∈ lw_tbl) ∧ (e.2 = 2 → Cond.methodLink (zcn 7) e.1 arraycopyName ∈ lw_tbl) ∧ (e.2 = 3 → Cond.methodLink (zcn 7) e.1 Lib.objectInit ∈ lw_tbl)) := by decide +kernel
theorem zbt_ok8 : ∀ e ∈ zbt8, ((e.2 = 0 → Cond.methodLink (zcn 8) e.1 Lib.Math.max.name ∈ lw_tbl) ∧ (e.2 = 1 → Cond.methodLink (zcn 8) e.1 Lib.Math.min.name ∈ lw_tbl) ∧ (e.2 = 2 → Cond.methodLink (zcn 8) e.1 arraycopyName ∈ lw_tbl) ∧ (e.2 = 3 → Cond.methodLink (zcn 8) e.1 Lib.objectInit ∈ lw_tbl)) := by decide +kernel
theorem zbt_ok9 : ∀ e ∈ zbt9, ((e.2 = 0 → Cond.methodLink (zcn 9) e.1 Lib.Math.max.name ∈ lw_tbl) ∧ (e.2 = 1 → Cond.methodLink (zcn 9) e.1 Lib.Math.min.name ∈ lw_tbl) ∧ (e.2 = 2 → Cond.methodLink (zcn 9) e.1 arraycopyName ∈ lw_tbl) ∧ (e.2 = 3 → Cond.methodLink (zcn 9) e.1 Lib.objectInit ∈ lw_tbl)) := by decide +kernel
theorem zbt_ok10 : ∀ e ∈ zbt10, ((e.2 = 0 → Cond.methodLink (zcn 10) e.1 Lib.Math.max.name ∈ lw_tbl) ∧ (e.2 = 1 → Cond.methodLink (zcn 10) e.1 Lib.Math.min.name ∈ lw_tbl) ∧ (e.2 = 2 → Cond.methodLink (zcn 10) e.1 arraycopyName ∈ lw_tbl) ∧ (e.2 = 3 → Cond.methodLink (zcn 10) e.1 Lib.objectInit ∈ lw_tbl)) := by decide +kernel
theorem zbt_ok {c i : Nat} {x : Nat} (h : zbt c i = some x) : (fun e : Nat × Nat => ((e.2 = 0 → Cond.methodLink (zcn c) e.1 Lib.Math.max.name ∈ lw_tbl) ∧ (e.2 = 1 → Cond.methodLink (zcn c) e.1 Lib.Math.min.name ∈ lw_tbl) ∧ (e.2 = 2 → Cond.methodLink (zcn c) e.1 arraycopyName ∈ lw_tbl) ∧ (e.2 = 3 → Cond.methodLink (zcn c) e.1 Lib.objectInit ∈ lw_tbl))) (i, x) := by
  obtain ⟨hc, hm⟩ := zgd_mem _ h
  exact zc11 (P := fun c => ∀ e ∈ [zbt0, zbt1, zbt2, zbt3, zbt4, zbt5, zbt6, zbt7, zbt8, zbt9, zbt10].getD c [], ((e.2 = 0 → Cond.methodLink (zcn c) e.1 Lib.Math.max.name ∈ lw_tbl) ∧ (e.2 = 1 → Cond.methodLink (zcn c) e.1 Lib.Math.min.name ∈ lw_tbl) ∧ (e.2 = 2 → Cond.methodLink (zcn c) e.1 arraycopyName ∈ lw_tbl) ∧ (e.2 = 3 → Cond.methodLink (zcn c) e.1 Lib.objectInit ∈ lw_tbl))) (c := c) hc zbt_ok0 zbt_ok1 zbt_ok2 zbt_ok3 zbt_ok4 zbt_ok5 zbt_ok6 zbt_ok7 zbt_ok8 zbt_ok9 zbt_ok10 (i, x) hm
theorem zb_max : Cond.static Lib.Math.max.name ∈ zTB ∧ Cond.initialized "java/lang/Math" ∈ zTB ∧ Cond.code Lib.Math.max.name Lib.Math.max.code 2 (some .int) ∈ zTB := by
  refine ⟨zTB_of ?_ rfl, zTB_of ?_ rfl, zTB_of ?_ rfl⟩ <;> decide +kernel
theorem zb_min : Cond.static Lib.Math.min.name ∈ zTB ∧ Cond.code Lib.Math.min.name Lib.Math.min.code 2 (some .int) ∈ zTB := by
  refine ⟨zTB_of ?_ rfl, zTB_of ?_ rfl⟩ <;> decide +kernel
theorem zb_cpy : Cond.native arraycopyName ∈ zTB ∧ Cond.static arraycopyName ∈ zTB ∧ Cond.initialized "java/lang/System" ∈ zTB := by
  refine ⟨zTB_of ?_ rfl, zTB_of ?_ rfl, zTB_of ?_ rfl⟩ <;> decide +kernel
theorem zb_obj : Cond.instanceMethod Lib.objectInit ∈ zTB ∧ Cond.code Lib.objectInit ⟨#[0xb1]⟩ 1 none ∈ zTB := by
  refine ⟨zTB_of ?_ rfl, zTB_of ?_ rfl⟩ <;> decide +kernel
theorem zb_arr : Cond.arrayClass .int ∈ zTB ∧ Cond.arrayClass .boolean ∈ zTB := by
  refine ⟨zTB_of ?_ rfl, zTB_of ?_ rfl⟩ <;> decide +kernel
theorem zb_ovr : Cond.arrayOver (.object RX0) ∈ lw_tbl ∧ Cond.arrayOver (.array .int) ∈ lw_tbl := by
  refine ⟨?_, ?_⟩ <;> decide +kernel
end
section
/-! the small machine: one step, a run, and what a run comes to -/
abbrev zN : Type := Nat × List zV × List zV × zG × zH
abbrev zO : Type := zN ⊕ Option zV ⊕ zM × List zV × List zV
abbrev vi (z : Int) : zV := .inl z
abbrev vl (z : Int) : zV := .inr (.inl z)
abbrev vr (k : Nat) : zV := .inr (.inr (.inl k))
abbrev vu : zV := .inr (.inr (.inr 0))
abbrev vx : zV := .inr (.inr (.inr 1))
def znul : Nat := 1000000
def zw (z : Int) : Int := z.bmod 4294967296
def zwl (z : Int) : Int := z.bmod 18446744073709551616
def zdiv (a b : Int) : Int := (Int32.ofInt a / Int32.ofInt b).toInt
def zrem (a b : Int) : Int := (Int32.ofInt a - Int32.ofInt a / Int32.ofInt b * Int32.ofInt b).toInt
def zand (a b : Int) : Int := (Int32.ofInt a &&& Int32.ofInt b).toInt
def zor (a b : Int) : Int := (Int32.ofInt a ||| Int32.ofInt b).toInt
def zshl (a b : Int) : Int := (Int32.ofInt a <<< (Int32.ofInt b &&& 31)).toInt
def zshr (a b : Int) : Int := (Int32.ofInt a >>> (Int32.ofInt b &&& 31)).toInt
def zlrem (a b : Int) : Int := (Int64.ofInt a - Int64.ofInt a / Int64.ofInt b * Int64.ofInt b).toInt
def zland (a b : Int) : Int := (Int64.ofInt a &&& Int64.ofInt b).toInt
def zlor (a b : Int) : Int := (Int64.ofInt a ||| Int64.ofInt b).toInt
def zlshl (a b : Int) : Int := (Int64.ofInt a <<< ((Int32.ofInt b).toInt64 &&& 63)).toInt
def zlshr (a b : Int) : Int := (Int64.ofInt a >>> ((Int32.ofInt b).toInt64 &&& 63)).toInt
def zlushr (a b : Int) : Int := ((Int64.ofInt a).toUInt64 >>> ((Int32.ofInt b).toInt64.toUInt64 &&& Int64.toUInt64 63)).toInt64.toInt
def zfu (f : Int → Int) (i v : Int) : Int → Int := fun j => if j = i then v else f j
def zset (H : zH) (a : Nat) (f : Int → Int) : zH := fun b => if b = a then f else H b
def zup (H : zH) (a : Nat) (i v : Int) : zH := zset H a (zfu (H a) i v)
def zrset (r : Nat → Int → Nat) (a : Nat) (f : Int → Nat) : Nat → Int → Nat := fun b => if b = a then f else r b
def zru (f : Int → Nat) (i : Int) (v : Nat) : Int → Nat := fun j => if j = i then v else f j
def zsh (s : Nat → Nat × Nat) (a : Nat) (x : Nat × Nat) : Nat → Nat × Nat := fun b => if b = a then x else s b
/-- an object of a class -/
def zC (G : zG) (a c : Nat) : Prop := a < G.1 ∧ (G.2.2.1 a).1 = c
/-- an array: 100 ints, 101 booleans, 102 books, 103 rows of ints -/
def zlen (G : zG) (a : Nat) : Int := ((G.2.2.1 a).2 : Int)
def zR (G : zG) (a : Nat) (k : Int) : Nat := G.2.2.2 a k
def zlt (G : zG) (a : Nat) : Prop := a < G.1
def zIn (G : zG) (a : Nat) (i : Int) : Prop := 0 ≤ i ∧ i < zlen G a
def zCb (G : zG) (a c : Nat) : Bool := decide (a < G.1) && decide ((G.2.2.1 a).1 = c)
def zInb (G : zG) (a : Nat) (i : Int) : Bool := decide (0 ≤ i) && decide (i < ((G.2.2.1 a).2 : Int))
def zgo (pc : Nat) (L S : List zV) (G : zG) (H : zH) : Option zO := some (.inl (pc, L, S, G, H))
def zif (b : Bool) (x : Option zO) : Option zO := match b with | true => x | false => none
def zjmp (pc : Nat) (off : Int) : Nat := ((pc : Int) + off).toNat
def zld (i pc : Nat) (L S : List zV) (G : zG) (H : zH) : Option zO := match L[i]? with
  | some (.inl z) => zgo pc L (vi z :: S) G H
  | _ => none
def zlld (i pc : Nat) (L S : List zV) (G : zG) (H : zH) : Option zO := match L[i]? with
  | some (.inr (.inl z)) => zgo pc L (vl z :: S) G H
  | _ => none
def zald (i pc : Nat) (L S : List zV) (G : zG) (H : zH) : Option zO := match L[i]? with
  | some (.inr (.inr (.inl k))) => zgo pc L (vr k :: S) G H
  | some (.inr (.inr (.inr 1))) => zgo pc L (vx :: S) G H
  | _ => none
/-- no long stands right ahead of the place -/
def znl (L : List zV) : Nat → Bool
  | 0 => true
  | i + 1 => match L[i]? with | some (.inr (.inl _)) => false | _ => true
def zist (i pc : Nat) (L S : List zV) (G : zG) (H : zH) : Option zO := match S with
  | .inl z :: S => zif (decide (i < L.length) && znl L i) (zgo pc (L.set i (vi z)) S G H)
  | _ => none
def zlst (i pc : Nat) (L S : List zV) (G : zG) (H : zH) : Option zO := match S with
  | .inr (.inl z) :: S => zif (decide (i + 1 < L.length) && znl L i) (zgo pc ((L.set i (vl z)).set (i + 1) vu) S G H)
  | _ => none
def zast (i pc : Nat) (L S : List zV) (G : zG) (H : zH) : Option zO := match S with
  | .inr (.inr (.inl k)) :: S => zif (decide (i < L.length) && znl L i) (zgo pc (L.set i (vr k)) S G H)
  | _ => none
def zint2 (f : Int → Int → Int) (pc : Nat) (L S : List zV) (G : zG) (H : zH) : Option zO := match S with
  | .inl b :: .inl a :: S => zgo pc L (vi (f a b) :: S) G H
  | _ => none
def zlong2 (f : Int → Int → Int) (pc : Nat) (L S : List zV) (G : zG) (H : zH) : Option zO := match S with
  | .inr (.inl b) :: .inr (.inl a) :: S => zgo pc L (vl (f a b) :: S) G H
  | _ => none
def zlongi (f : Int → Int → Int) (pc : Nat) (L S : List zV) (G : zG) (H : zH) : Option zO := match S with
  | .inl b :: .inr (.inl a) :: S => zgo pc L (vl (f a b) :: S) G H
  | _ => none
def zdivs (f : Int → Int → Int) (pc : Nat) (L S : List zV) (G : zG) (H : zH) : Option zO := match S with
  | .inl b :: .inl a :: S => zif (decide (b ≠ 0)) (zgo pc L (vi (f a b) :: S) G H)
  | _ => none
def zcm (c : ClassFile.Cond) (a b : Int) : Bool := match c with
  | .eq => decide (a = b) | .ne => decide (a ≠ b) | .lt => decide (a < b) | .ge => decide (b ≤ a) | .gt => decide (b < a) | .le => decide (a ≤ b)
def zgetf (m : zM) (i pc : Nat) (L S : List zV) (G : zG) (H : zH) : Option zO := match S with
  | .inr (.inr (.inl a)) :: S => match zfd m.1 i with
    | some (c, k) => zif (zCb G a c) (match zrf c k with
      | true => zif (decide (G.2.2.2 a k < G.1)) (zgo pc L (vr (G.2.2.2 a k) :: S) G H)
      | false => zgo pc L (vi (H a k) :: S) G H)
    | none => none
  | _ => none
def zputf (m : zM) (i pc : Nat) (L S : List zV) (G : zG) (H : zH) : Option zO := match zfd m.1 i with
  | none => none
  | some (c, k) => match zrf c k, S with
    | false, .inl z :: .inr (.inr (.inl a)) :: S => zif (zCb G a c) (zgo pc L S G (zup H a k z))
    | true, .inr (.inr (.inl x)) :: .inr (.inr (.inl a)) :: S => zif (zCb G a c && (decide (m.1 = c) && decide (m.2.1.name = "<init>"))) (zgo pc L S (G.1, G.2.1, G.2.2.1, zrset G.2.2.2 a (zru (G.2.2.2 a) k x)) H)
    | _, _ => none
def zarld (o : Option (Nat × (Int → Int))) (t pc : Nat) (L S : List zV) (G : zG) (H : zH) : Option zO := match S with
  | .inl i :: .inr (.inr (.inl a)) :: S => zif (zCb G a t && zInb G a i) (zgo pc L (vi (H a i) :: S) G H)
  | .inl i :: .inr (.inr (.inr 1)) :: S => match o with
    | some (n, f) => zif (decide (t = 100) && (decide (0 ≤ i) && decide (i < (n : Int)))) (zgo pc L (vi (f i) :: S) G H)
    | none => none
  | _ => none
def zarst (t pc : Nat) (L S : List zV) (G : zG) (H : zH) : Option zO := match S with
  | .inl v :: .inl i :: .inr (.inr (.inl a)) :: S => zif ((zCb G a t && zInb G a i) && (decide (t = 100) || (decide (v = 0) || decide (v = 1)))) (zgo pc L S G (zup H a i v))
  | _ => none
def zaald (pc : Nat) (L S : List zV) (G : zG) (H : zH) : Option zO := match S with
  | .inl i :: .inr (.inr (.inl a)) :: S => zif (((zCb G a 102 || zCb G a 103) && zInb G a i) && decide (G.2.2.2 a i < G.1)) (zgo pc L (vr (G.2.2.2 a i) :: S) G H)
  | _ => none
def zaast (pc : Nat) (L S : List zV) (G : zG) (H : zH) : Option zO := match S with
  | .inr (.inr (.inl x)) :: .inl i :: .inr (.inr (.inl a)) :: S => zif ((zCb G a 102 && zInb G a i) && zCb G x 0) (zgo pc L S (G.1, G.2.1, G.2.2.1, zrset G.2.2.2 a (zru (G.2.2.2 a) i x)) H)
  | _ => none
def zalen (o : Option (Nat × (Int → Int))) (pc : Nat) (L S : List zV) (G : zG) (H : zH) : Option zO := match S with
  | .inr (.inr (.inl a)) :: S => zif (decide (a < G.1) && ((decide (100 ≤ (G.2.2.1 a).1) && decide ((G.2.2.1 a).1 ≤ 103)) && decide ((G.2.2.1 a).2 < 2147483648))) (zgo pc L (vi ((G.2.2.1 a).2 : Int) :: S) G H)
  | .inr (.inr (.inr 1)) :: S => match o with
    | some (n, _) => zgo pc L (vi (n : Int) :: S) G H
    | none => none
  | _ => none
/-- a new cell -/
def znew (G : zG) (t n : Nat) : zG := (G.1 + 1, G.2.1 + n, zsh G.2.2.1 G.1 (t, n), zrset G.2.2.2 G.1 (fun _ => znul))
def znewo (m : zM) (i pc : Nat) (L S : List zV) (G : zG) (H : zH) : Option zO := match zct m.1 i with
  | some c => zif (decide (c < 10) && decide (G.1 < znul)) (zgo pc L (vr G.1 :: S) (znew G c (zNN c)) (zset H G.1 (fun _ => 0)))
  | none => none
def znewa (t pc : Nat) (L S : List zV) (G : zG) (H : zH) : Option zO := match S with
  | .inl n :: S => zif ((decide (0 ≤ n) && decide (n ≤ 10000)) && decide (G.1 < znul)) (zgo pc L (vr G.1 :: S) (znew G t n.toNat) (zset H G.1 (fun _ => 0)))
  | _ => none
/-- n rows of k ints -/
def znews (G : zG) (H : zH) (k : Nat) : Nat → zG × zH
  | 0 => (G, H)
  | n + 1 => (znew (znews G H k n).1 100 k, zset (znews G H k n).2 (znews G H k n).1.1 (fun _ => 0))
def znewm (pc : Nat) (L S : List zV) (G : zG) (H : zH) : Option zO := match S with
  | .inl k :: .inl n :: S => zif (((decide (0 ≤ n) && decide (n ≤ 100)) && (decide (0 ≤ k) && decide (k ≤ 100))) && decide (G.1 + n.toNat < znul))
      (zgo pc L (vr G.1 :: S)
        ((znews (znew G 103 n.toNat) (zset H G.1 (fun _ => 0)) k.toNat n.toNat).1.1, (znews (znew G 103 n.toNat) (zset H G.1 (fun _ => 0)) k.toNat n.toNat).1.2.1,
         (znews (znew G 103 n.toNat) (zset H G.1 (fun _ => 0)) k.toNat n.toNat).1.2.2.1,
         zrset (znews (znew G 103 n.toNat) (zset H G.1 (fun _ => 0)) k.toNat n.toNat).1.2.2.2 G.1 (fun i => if 0 ≤ i ∧ i < n then G.1 + 1 + i.toNat else znul))
        (znews (znew G 103 n.toNat) (zset H G.1 (fun _ => 0)) k.toNat n.toNat).2)
  | _ => none
def zcpy (H : zH) (a b : Nat) (sp dp n : Int) : Int → Int := fun j => if dp ≤ j ∧ j < dp + n then H a (sp + (j - dp)) else H b j
/-- the machine's own methods: 0 max, 1 min, 2 arraycopy, 3 Object's beginning -/
def zbui (b pc : Nat) (L S : List zV) (G : zG) (H : zH) : Option zO := match b, S with
  | 0, .inl y :: .inl x :: S => zif (decide (S.length ≤ 4)) (zgo pc L (vi (if x < y then y else x) :: S) G H)
  | 1, .inl y :: .inl x :: S => zif (decide (S.length ≤ 4)) (zgo pc L (vi (if y < x then y else x) :: S) G H)
  | 2, .inl n :: .inl dp :: .inr (.inr (.inl b)) :: .inl sp :: .inr (.inr (.inl a)) :: S =>
    zif (decide (S.length ≤ 4) && ((zCb G a 100 && zCb G b 100) && ((decide (0 ≤ sp) && decide (0 ≤ dp)) && (decide (0 ≤ n) && (decide (sp + n ≤ ((G.2.2.1 a).2 : Int)) && decide (dp + n ≤ ((G.2.2.1 b).2 : Int)))))))
      (zgo pc L S G (zset H b (zcpy H a b sp dp n)))
  | 3, .inr (.inr (.inl _)) :: S => zif (decide (S.length ≤ 4)) (zgo pc L S G H)
  | _, _ => none
def zlx : List zV → List zV
  | [] => []
  | .inr (.inl z) :: t => vl z :: vu :: zlx t
  | .inl z :: t => vi z :: zlx t
  | .inr (.inr z) :: t => .inr (.inr z) :: zlx t
/-- a call: 0 of an object, 1 and 2 static, 3 and 4 a beginning -/
def zinv (m : zM) (t i pc : Nat) (L S : List zV) (G : zG) (H : zH) : Option zO := match zbt m.1 i with
  | some b => zif (decide ((t = 1 ∧ b ≠ 3) ∨ (t = 3 ∧ b = 3))) (zbui b pc L S G H)
  | none => match zmt m.1 i with
    | some (k, m', na) => zif (((decide (na ≤ S.length) && decide (S.length ≤ na + 4)) && decide ((zlx (S.take na).reverse).length ≤ m'.2.2.2.1)) && decide (k = t ∨ (t ≠ 0 ∧ k = t + 1)))
        (match t, (S.take na).reverse with
        | 0, .inr (.inr (.inl a)) :: as => zif (zCb G a m'.1) (some (.inr (.inr (m', .inr (.inr (.inl a)) :: as, S.drop na))))
        | 3, .inr (.inr (.inl a)) :: as => some (.inr (.inr (m', .inr (.inr (.inl a)) :: as, S.drop na)))
        | 1, as => some (.inr (.inr (m', as, S.drop na)))
        | _, _ => none)
    | none => none
def zret (m : zM) (S : List zV) : Option zO := match S with
  | [.inl z] => match m.2.2.2.2.1 with
    | some .int => some (.inr (.inl (some (vi z))))
    | some .boolean => zif (decide (z = 0) || decide (z = 1)) (some (.inr (.inl (some (vi z)))))
    | _ => none
  | _ => none
def zdup (pc : Nat) (L S : List zV) (G : zG) (H : zH) : Option zO := match S with
  | .inl a :: S => zgo pc L (vi a :: vi a :: S) G H
  | .inr (.inr (.inl a)) :: S => zgo pc L (vr a :: vr a :: S) G H
  | _ => none
def zdup2 (pc : Nat) (L S : List zV) (G : zG) (H : zH) : Option zO := match S with
  | .inl a :: .inr (.inr (.inl b)) :: S => zgo pc L (vi a :: vr b :: vi a :: vr b :: S) G H
  | _ => none
def zpop (pc : Nat) (L S : List zV) (G : zG) (H : zH) : Option zO := match S with
  | .inl _ :: S => zgo pc L S G H
  | _ => none
def ziinc (i : Nat) (n : Int) (pc : Nat) (L S : List zV) (G : zG) (H : zH) : Option zO := match L[i]? with
  | some (.inl z) => zif (znl L i) (zgo pc (L.set i (vi (zw (z + n)))) S G H)
  | _ => none
def zift (c : ClassFile.Cond) (pc tgt : Nat) (L S : List zV) (G : zG) (H : zH) : Option zO := match S with
  | .inl a :: S => zgo (if zcm c a 0 = true then tgt else pc) L S G H
  | _ => none
def zicm (c : ClassFile.Cond) (pc tgt : Nat) (L S : List zV) (G : zG) (H : zH) : Option zO := match S with
  | .inl b :: .inl a :: S => zgo (if zcm c a b = true then tgt else pc) L S G H
  | _ => none
def ztab (pc : Nat) (d lo hi : Int) (offs : Array Int) (x : Int) : Option Nat :=
  if x < lo ∨ hi < x then some (zjmp pc d) else match offs[(x - lo).toNat]? with | some off => some (zjmp pc off) | none => none
/-- one instruction of a method -/
def zstp (o : Option (Nat × (Int → Int))) (d : Nat) (m : zM) (pc : Nat) (op : Instr) (len : Nat) (L S : List zV) (G : zG) (H : zH) : Option zO :=
  match op with
  | .iconst n => zif (decide (-1 ≤ n) && decide (n ≤ 5)) (zgo (pc + 1) L (vi n :: S) G H)
  | .bipush n => zif (decide (-128 ≤ n) && decide (n ≤ 127)) (zgo (pc + 2) L (vi n :: S) G H)
  | .sipush n => zif (decide (-32768 ≤ n) && decide (n ≤ 32767)) (zgo (pc + 3) L (vi n :: S) G H)
  | .lconst n => zgo (pc + 1) L (vl (n.val : Int) :: S) G H
  | .ldc i => match zki m.1 i with | some z => zgo (pc + 2) L (vi z :: S) G H | none => none
  | .ldc2_w i => match zkl m.1 i with | some z => zgo (pc + 3) L (vl z :: S) G H | none => none
  | .iload_n k => zld k.val (pc + 1) L S G H
  | .iload i => zld i (pc + 2) L S G H
  | .lload_n k => zlld k.val (pc + 1) L S G H
  | .aload_n k => zald k.val (pc + 1) L S G H
  | .aload i => zald i (pc + 2) L S G H
  | .istore_n k => zist k.val (pc + 1) L S G H
  | .istore i => zist i (pc + 2) L S G H
  | .lstore_n k => zlst k.val (pc + 1) L S G H
  | .astore_n k => zast k.val (pc + 1) L S G H
  | .astore i => zast i (pc + 2) L S G H
  | .iinc i n => ziinc i n (pc + 3) L S G H
  | .iadd => zint2 (fun a b => zw (a + b)) (pc + 1) L S G H
  | .isub => zint2 (fun a b => zw (a - b)) (pc + 1) L S G H
  | .imul => zint2 (fun a b => zw (a * b)) (pc + 1) L S G H
  | .idiv => zdivs zdiv (pc + 1) L S G H
  | .irem => zdivs zrem (pc + 1) L S G H
  | .iand => zint2 zand (pc + 1) L S G H
  | .ior => zint2 zor (pc + 1) L S G H
  | .ishl => zint2 zshl (pc + 1) L S G H
  | .ishr => zint2 zshr (pc + 1) L S G H
  | .ladd => zlong2 (fun a b => zwl (a + b)) (pc + 1) L S G H
  | .lmul => zlong2 (fun a b => zwl (a * b)) (pc + 1) L S G H
  | .lrem => match S with
    | .inr (.inl b) :: .inr (.inl a) :: S => zif (decide (b ≠ 0)) (zgo (pc + 1) L (vl (zlrem a b) :: S) G H)
    | _ => none
  | .land => zlong2 zland (pc + 1) L S G H
  | .lor => zlong2 zlor (pc + 1) L S G H
  | .lshl => zlongi zlshl (pc + 1) L S G H
  | .lshr => zlongi zlshr (pc + 1) L S G H
  | .lushr => zlongi zlushr (pc + 1) L S G H
  | .i2l => match S with
    | .inl a :: S => zgo (pc + 1) L (vl a :: S) G H
    | _ => none
  | .l2i => match S with
    | .inr (.inl a) :: S => zgo (pc + 1) L (vi (zw a) :: S) G H
    | _ => none
  | .dup => zdup (pc + 1) L S G H
  | .dup2 => zdup2 (pc + 1) L S G H
  | .pop => zpop (pc + 1) L S G H
  | .ifCond c off => zif (decide (0 ≤ (pc : Int) + off)) (zift c (pc + 3) (zjmp pc off) L S G H)
  | .if_icmp c off => zif (decide (0 ≤ (pc : Int) + off)) (zicm c (pc + 3) (zjmp pc off) L S G H)
  | .goto off => zif (decide (0 ≤ (pc : Int) + off)) (zgo (zjmp pc off) L S G H)
  | .tableswitch dd lo hi offs => match S with
    | .inl x :: S => zif (decide (0 ≤ (pc : Int) + dd) && offs.toList.all (fun q => decide (0 ≤ (pc : Int) + q))) (match ztab pc dd lo hi offs x with | some t => zgo t L S G H | none => none)
    | _ => none
  | .lookupswitch dd ps => match S with
    | .inl x :: S => zif ((ps.toList.zip (ps.toList.drop 1)).all (fun (a, next) => a.1 < next.1) && decide (0 ≤ (pc : Int) + Op.lookupswitch.offset ps.toList dd x)) (zgo (zjmp pc (Op.lookupswitch.offset ps.toList dd x)) L S G H)
    | _ => none
  | .getfield i => zgetf m i (pc + 3) L S G H
  | .putfield i => zputf m i (pc + 3) L S G H
  | .iaload => zarld o 100 (pc + 1) L S G H
  | .iastore => zarst 100 (pc + 1) L S G H
  | .baload => zarld o 101 (pc + 1) L S G H
  | .bastore => zarst 101 (pc + 1) L S G H
  | .aaload => zaald (pc + 1) L S G H
  | .aastore => zaast (pc + 1) L S G H
  | .arraylength => zalen o (pc + 1) L S G H
  | .new i => znewo m i (pc + 3) L S G H
  | .newarray .int => znewa 100 (pc + 2) L S G H
  | .newarray .boolean => znewa 101 (pc + 2) L S G H
  | .anewarray i => match zct m.1 i with | some 0 => znewa 102 (pc + 3) L S G H | _ => none
  | .multianewarray i 2 => match zct m.1 i with | some 200 => znewm (pc + 4) L S G H | _ => none
  | .invokevirtual i => zif (decide (1 ≤ d)) (zinv m 0 i (pc + 3) L S G H)
  | .invokestatic i => zif (decide (1 ≤ d)) (zinv m 1 i (pc + 3) L S G H)
  | .invokespecial i => zif (decide (1 ≤ d)) (zinv m 3 i (pc + 3) L S G H)
  | .ireturn => zret m S
  | .return_ => match S, m.2.2.2.2.1 with
    | [], none => some (.inr (.inl none))
    | _, _ => none
  | _ => none
/-- the instruction is of its length -/
def zlo (op : Instr) (len : Nat) : Bool := match op with
  | .bipush _ | .ldc _ | .iload _ | .aload _ | .istore _ | .astore _ | .newarray _ => len == 2
  | .sipush _ | .ldc2_w _ | .iinc _ _ | .ifCond _ _ | .if_icmp _ _ | .goto _ | .getfield _ | .putfield _ | .new _ | .anewarray _ | .invokevirtual _ | .invokestatic _ | .invokespecial _ => len == 3
  | .multianewarray _ _ => len == 4
  | .tableswitch _ _ _ _ => true
  | .lookupswitch _ _ => true
  | _ => len == 1
def zst (o : Option (Nat × (Int → Int))) (d : Nat) (m : zM) (pc : Nat) (L S : List zV) (G : zG) (H : zH) : Option zO :=
  match decode m.2.2.1 pc with
  | .ok (op, len) => zif (zlo op len) (zstp o d m pc op len L S G H)
  | .error _ => none
def zlev (m : zM) : Nat := m.2.2.2.2.2
def zdn (d : Nat) (m : zM) : Nat := if zlev m < d then zlev m else d - 1
def zloc (m : zM) (as : List zV) : List zV := zlx as ++ List.replicate (m.2.2.2.1 - (zlx as).length) vu
def zexec : Nat → Option (Nat × (Int → Int)) → Nat → zM → Nat → List zV → List zV → zG → zH → Option (Option zV × zG × zH)
  | 0, _, _, _, _, _, _, _, _ => none
  | n + 1, o, d, m, pc, L, S, G, H =>
    match zst o d m pc L S G H with
    | none => none
    | some (.inl (pc', L', S', G', H')) => zexec n o d m pc' L' S' G' H'
    | some (.inr (.inl r)) => some (r, G, H)
    | some (.inr (.inr (m', as, S'))) =>
      match zexec n none (zdn d m') m' 0 (zloc m' as) [] G H with
      | none => none
      | some (r, G', H') => zexec n o d m (pc + 3) L (r.toList ++ S') G' H'
end
section
/-! what the small machine's state says of the machine's: values, locals, stack, cells -/
def zVR (n : Nat) (ad : Nat → Nat) (b : Nat) : zV → Value → Prop
  | .inl z, v => ∃ x : Int32, v = .int x ∧ x.toInt = z
  | .inr (.inl z), v => ∃ x : Int64, v = .long x ∧ x.toInt = z
  | .inr (.inr (.inl k)), v => k < n ∧ v = .ref (ad k)
  | .inr (.inr (.inr u)), v => u = 1 ∧ v = .ref b
def zSR (n : Nat) (ad : Nat → Nat) (b : Nat) : List zV → List Value → Prop
  | [], t => t = []
  | v :: S, t => ∃ (x : Value) (t' : List Value), t = x :: t' ∧ zVR n ad b v x ∧ zSR n ad b S t'
def zLR (n : Nat) (ad : Nat → Nat) (b nL : Nat) (L : List zV) (ls : Array Slot) : Prop :=
  L.length = nL ∧ ∃ lv : List (Nat × Value), lv_has ls nL lv ∧ ∀ (j : Nat) (v : zV), L[j]? = some v → v ≠ vu → ∃ x : Value, zVR n ad b v x ∧ (j, x) ∈ lv
def zRV (n : Nat) (ad : Nat → Nat) (r : Nat) (v : Value) : Prop := (r < n ∧ v = .ref (ad r)) ∨ (r = znul ∧ v = .null)
def zFV (ad : Nat → Nat) (G : zG) (H : zH) (t k j : Nat) (v : Value) : Prop := (zrf t j = true ∧ zRV G.1 ad (G.2.2.2 k (j : Int)) v) ∨ (zrf t j = false ∧ ∃ x : Int32, v = .int x ∧ x.toInt = H k (j : Int))
abbrev zCs : Type := ClassId × ClassId × ClassId × ClassId
def ztys (cs : zCs) : List (ClassId × FieldType) := [(cs.1, .int), (cs.2.1, .boolean), (cs.2.2.1, .object RX0), (cs.2.2.2, .array .int)]
def zCR (cs : zCs) (ad : Nat → Nat) (G : zG) (H : zH) (k : Nat) (e : va_E) : Prop :=
  ((G.2.2.1 k).1 < 10 ∧ (G.2.2.1 k).2 = zNN (G.2.2.1 k).1 ∧ ∃ fs : List Value, e = .inr ((G.2.2.1 k).1, fs) ∧ fs.length = (G.2.2.1 k).2 ∧ ∀ (j : Nat) (v : Value), fs[j]? = some v → zFV ad G H (G.2.2.1 k).1 k j v) ∨
  ((G.2.2.1 k).1 = 100 ∧ ∃ f : Nat → Int32, e = .inl (cs.1, (G.2.2.1 k).2, .inl f) ∧ ∀ j : Nat, j < (G.2.2.1 k).2 → (f j).toInt = H k (j : Int)) ∨
  ((G.2.2.1 k).1 = 101 ∧ ∃ f : Nat → Int32, e = .inl (cs.2.1, (G.2.2.1 k).2, .inl f) ∧ ∀ j : Nat, j < (G.2.2.1 k).2 → (f j).toInt = H k (j : Int)) ∨
  ((G.2.2.1 k).1 = 102 ∧ ∃ f : Nat → Option Nat, e = .inl (cs.2.2.1, (G.2.2.1 k).2, .inr (.inr (.inr (.inr f)))) ∧ ∀ j : Nat, j < (G.2.2.1 k).2 → zRV G.1 ad (G.2.2.2 k (j : Int)) (va_rf (f j))) ∨
  ((G.2.2.1 k).1 = 103 ∧ ∃ f : Nat → Option Nat, e = .inl (cs.2.2.2, (G.2.2.1 k).2, .inr (.inr (.inr (.inr f)))) ∧ ∀ j : Nat, j < (G.2.2.1 k).2 → zRV G.1 ad (G.2.2.2 k (j : Int)) (va_rf (f j)))
def zWR (cs : zCs) (G : zG) (H : zH) (ad : Nat → Nat) (ws : va_W) : Prop := ws.length = G.1 ∧ G.1 ≤ znul ∧ ∀ k : Nat, k < G.1 → ∃ e : va_E, ws[k]? = some (ad k, e) ∧ zCR cs ad G H k e
/-- an array over arrays, as the tables say it -/
def zAOA (t : FieldType) (U : State) : Prop := (Cond.arrayOver (.array t)).before #[] U = true
def zKn (D : va_G) (cs : zCs) (U : State) : Prop := va_K D vwCl (ztys cs) U ∧ (∀ q ∈ znst, va_Nw (.methodLinkNest q.1 q.2.1 q.2.2.1 q.2.2.2) U) ∧ va_AO RX0 U ∧ zAOA .int U
/-- what is known in a body -/
def zCx (p : Program) (s : State) (m : MethodId) (args : Array Value) (meth : Method) (c : Code) (D : va_G) (cs : zCs) (A : Nat → Prop) (q : zM) : Prop :=
  p.tables.exec = Jvm.exec ∧ c.code = q.2.2.1 ∧ c.maxLocals = q.2.2.2.1 ∧ s.vm.findClass (zcn q.1) = some m.cls ∧ (∀ w ∈ zTB, w.before args s = true) ∧ (q.2.1.name = "<init>" → meth.name = "<init>") ∧ zKn D cs s ∧ (∀ x : Nat, s.heap.size ≤ x → A x)
def zSc (s : State) (A : Nat → Prop) (b : Nat) (o : Option (Nat × (Int → Int))) : Prop := ∀ x, o = some x → ∃ xs : Nat → Int32, va_X b x.1 xs s s.heap ∧ b < s.heap.size ∧ ¬ A b ∧ x.1 < 2 ^ 31 ∧ ∀ j : Nat, j < x.1 → (xs j).toInt = x.2 (j : Int)
def zGo (p : Program) (l : Launch) (e : Env) (R : Room) (s : State) (m : MethodId) (args : Array Value) (below : List Frame) (meth : Method) (c : Code) (Q : State → Prop) (D : va_G) (cs : zCs) (A : Nat → Prop) (b n0 s0 : Nat) (ad0 : Nat → Nat) (q : zM) (pc : Nat) (L S : List zV) (G : zG) (H : zH) : Prop :=
  ∀ (ad : Nat → Nat) (ws : va_W) (Hr : Heap) (locs : List Loc) (ls : Array Slot) (stk : List Value), (∀ k, k < n0 → ad k = ad0 k) → n0 ≤ G.1 → s0 ≤ G.2.1 → zWR cs G H ad ws → va_P D vwCl ws Hr → va_D A ws → va_S A s.heap Hr locs → zLR G.1 ad b q.2.2.2.1 L ls → zSR G.1 ad b S stk →
    W p l e R s m args below meth c Hr locs (G.1 - n0) (G.2.1 - s0) Q (F0 m pc ls stk)
theorem zVR_mono {n n' : Nat} {ad ad' : Nat → Nat} {b : Nat} (hn : n ≤ n') (ha : ∀ k, k < n → ad' k = ad k) {v : zV} {x : Value} (h : zVR n ad b v x) : zVR n' ad' b v x := by
  match v, h with
  | .inl z, h => exact h
  | .inr (.inl z), h => exact h
  | .inr (.inr (.inl k)), h => exact ⟨Nat.lt_of_lt_of_le h.1 hn, by rw [ha k h.1]; exact h.2⟩
  | .inr (.inr (.inr u)), h => exact h
theorem zSR_mono {n n' : Nat} {ad ad' : Nat → Nat} {b : Nat} (hn : n ≤ n') (ha : ∀ k, k < n → ad' k = ad k) : ∀ {S : List zV} {t : List Value}, zSR n ad b S t → zSR n' ad' b S t
  | [], t, h => h
  | v :: S, t, ⟨x, t', e, hv, hS⟩ => ⟨x, t', e, zVR_mono hn ha hv, zSR_mono hn ha hS⟩
theorem zLR_mono {n n' : Nat} {ad ad' : Nat → Nat} {b nL : Nat} (hn : n ≤ n') (ha : ∀ k, k < n → ad' k = ad k) {L : List zV} {ls : Array Slot} (h : zLR n ad b nL L ls) : zLR n' ad' b nL L ls := by
  obtain ⟨h1, lv, h2, h3⟩ := h
  refine ⟨h1, lv, h2, fun j v hj hv => ?_⟩
  obtain ⟨x, hx, hm⟩ := h3 j v hj hv
  exact ⟨x, zVR_mono hn ha hx, hm⟩
theorem zLR_at {n : Nat} {ad : Nat → Nat} {b nL : Nat} {L : List zV} {ls : Array Slot} (h : zLR n ad b nL L ls) {i : Nat} {v : zV} (hi : L[i]? = some v) (hv : v ≠ vu) : ∃ x : Value, zVR n ad b v x ∧ ls[i]? = some (.val x) := by
  obtain ⟨-, lv, h2, h3⟩ := h
  obtain ⟨x, hx, hm⟩ := h3 i v hi hv
  exact ⟨x, hx, h2.2.2 _ hm⟩
theorem zVR_cat {n : Nat} {ad : Nat → Nat} {b : Nat} {v : zV} {x : Value} (h : zVR n ad b v x) (hc : x.category = 2) : ∃ z, v = .inr (.inl z) := by
  match v, h with
  | .inl z, ⟨y, e, _⟩ => rw [e] at hc; simp [Value.category] at hc
  | .inr (.inl z), h => exact ⟨z, rfl⟩
  | .inr (.inr (.inl k)), h => rw [h.2] at hc; simp [Value.category] at hc
  | .inr (.inr (.inr u)), h => rw [h.2] at hc; simp [Value.category] at hc
/-- a store of one slot -/
theorem zLR_set {n : Nat} {ad : Nat → Nat} {b nL i : Nat} {L : List zV} {lv lv' : List (Nat × Value)} {v : zV} {x : Value} {ls' : Array Slot} (h1 : L.length = nL) (h3 : ∀ (j : Nat) (v : zV), L[j]? = some v → v ≠ vu → ∃ x : Value, zVR n ad b v x ∧ (j, x) ∈ lv)
    (hnl : znl L i = true) (hv : zVR n ad b v x) (he : (i, x) :: lv.filter (fun q => !(q.1 == i) && !(q.1 + 1 == i && q.2.category == 2)) = lv') (h' : lv_has ls' nL lv') : zLR n ad b nL (L.set i v) ls' := by
  refine ⟨by rw [List.length_set]; exact h1, lv', h', fun j w hj hw => ?_⟩
  rw [List.getElem?_set] at hj
  by_cases e : i = j
  · rw [if_pos e] at hj
    split at hj
    · cases hj
      subst e
      exact ⟨x, hv, by rw [← he]; exact List.mem_cons_self⟩
    · cases hj
  · rw [if_neg e] at hj
    obtain ⟨y, hy, hm⟩ := h3 j w hj hw
    refine ⟨y, hy, ?_⟩
    rw [← he]
    refine List.mem_cons_of_mem _ (List.mem_filter.mpr ⟨hm, ?_⟩)
    have e1 : ¬ j = i := fun q => e q.symm
    by_cases c1 : j + 1 = i
    · subst c1
      by_cases c2 : y.category = 2
      · obtain ⟨z, rfl⟩ := zVR_cat hy c2
        simp [znl, hj] at hnl
      · simp [c2]
    · simp [e1, c1]
/-- a store of two slots -/
theorem zLR_set2 {n : Nat} {ad : Nat → Nat} {b nL i : Nat} {L : List zV} {lv lv' : List (Nat × Value)} {v : zV} {x : Value} {ls' : Array Slot} (h1 : L.length = nL) (h3 : ∀ (j : Nat) (v : zV), L[j]? = some v → v ≠ vu → ∃ x : Value, zVR n ad b v x ∧ (j, x) ∈ lv)
    (hnl : znl L i = true) (hv : zVR n ad b v x) (he : (i, x) :: lv.filter (fun q => !(q.1 == i) && (!(q.1 == i + 1) && !(q.1 + 1 == i && q.2.category == 2))) = lv') (h' : lv_has ls' nL lv') : zLR n ad b nL ((L.set i v).set (i + 1) vu) ls' := by
  refine ⟨by rw [List.length_set, List.length_set]; exact h1, lv', h', fun j w hj hw => ?_⟩
  rw [List.getElem?_set] at hj
  by_cases e2 : i + 1 = j
  · rw [if_pos e2] at hj
    split at hj
    · cases hj
      exact absurd rfl hw
    · cases hj
  · rw [if_neg e2, List.getElem?_set] at hj
    by_cases e : i = j
    · rw [if_pos e] at hj
      split at hj
      · cases hj
        subst e
        exact ⟨x, hv, by rw [← he]; exact List.mem_cons_self⟩
      · cases hj
    · rw [if_neg e] at hj
      obtain ⟨y, hy, hm⟩ := h3 j w hj hw
      refine ⟨y, hy, ?_⟩
      rw [← he]
      refine List.mem_cons_of_mem _ (List.mem_filter.mpr ⟨hm, ?_⟩)
      have e1 : ¬ j = i := fun q => e q.symm
      have e3 : ¬ j = i + 1 := fun q => e2 q.symm
      by_cases c1 : j + 1 = i
      · subst c1
        by_cases c2 : y.category = 2
        · obtain ⟨z, rfl⟩ := zVR_cat hy c2
          simp [znl, hj] at hnl
        · simp [c2]
          omega
      · simp [e1, e3, c1]
theorem zof32 {x : Int32} {z : Int} (h : x.toInt = z) : Int32.ofInt z = x := by rw [← h]; exact Int32.ofInt_toInt x
theorem zof64 {x : Int64} {z : Int} (h : x.toInt = z) : Int64.ofInt z = x := by rw [← h]; exact Int64.ofInt_toInt x
theorem zw_add (x y : Int32) : (x + y).toInt = zw (x.toInt + y.toInt) := Int32.toInt_add x y
theorem zw_sub (x y : Int32) : (x - y).toInt = zw (x.toInt - y.toInt) := Int32.toInt_sub x y
theorem zw_mul (x y : Int32) : (x * y).toInt = zw (x.toInt * y.toInt) := Int32.toInt_mul x y
theorem zwl_add (x y : Int64) : (x + y).toInt = zwl (x.toInt + y.toInt) := Int64.toInt_add x y
theorem zwl_mul (x y : Int64) : (x * y).toInt = zwl (x.toInt * y.toInt) := Int64.toInt_mul x y
theorem zl2i (x : Int64) : x.toInt32.toInt = zw x.toInt := Int64.toInt_toInt32 x
theorem zi2l (x : Int32) : x.toInt64.toInt = x.toInt := Int32.toInt_toInt64 x
theorem zclamp (x : Int32) : x.toNatClampNeg = x.toInt.toNat := rfl
theorem zif_some {b : Bool} {x : Option zO} {y : zO} (h : zif b x = some y) : b = true ∧ x = some y := by
  cases b with
  | true => exact ⟨rfl, h⟩
  | false => simp [zif] at h
theorem zgo_some {pc pc' : Nat} {L S L' S' : List zV} {G G' : zG} {H H' : zH} (h : zgo pc L S G H = some (.inl (pc', L', S', G', H'))) : pc = pc' ∧ L = L' ∧ S = S' ∧ G = G' ∧ H = H' := by
  unfold zgo at h
  have h := Sum.inl.inj (Option.some.inj h)
  injection h with h1 h2
  injection h2 with h2 h3
  injection h3 with h3 h4
  injection h4 with h4 h5
  exact ⟨h1, h2, h3, h4, h5⟩
theorem zAOA_moved {t : FieldType} {u U : State} (hvm : u.vm.Alike U.vm) (h : zAOA t u) : zAOA t U := by
  unfold zAOA at h ⊢
  obtain ⟨comp, c, k, h1, h2, h3, h4, h5⟩ := arrayOverA_spec h
  obtain ⟨k', hk', he⟩ := hvm.2.2 _ _ h3
  have hb : U.vm.bare = u.vm.bare := by first | exact hvm.bare_eq | exact hvm.bare_eq.symm
  have h0 := va_idx_bare U.vm comp
  have h9 := va_idx_bare u.vm comp
  rw [hb] at h0
  have hi := h0.symm.trans (h9.trans h2)
  have hkind : k'.kind = .array comp (.array t) := by rw [he]; exact h4
  have f1 : U.vm.findClass (FieldType.array t).toString = some comp := by rw [hvm.findClass]; exact h1
  have f2 : U.vm.findClass ("[" ++ (FieldType.array t).toString) = some c := by rw [hvm.findClass]; exact h5
  unfold Cond.before Cond.holds
  simp only [Cond.value]
  rw [f1, Option.bind_some]
  refine (congrArg (fun o : Option Nat => (o.bind (fun c => (U.vm.classes[c]?).map fun (k : Class) => match k.kind with | .array _ ty => decide (ty = FieldType.array t) && decide (U.vm.findClass ("[" ++ (FieldType.array t).toString) = some c) | _ => false) == some true)) hi).trans ?_
  simp [hk', hkind, f2]
end
section
/-! each instruction of the small machine is the machine's -/
theorem zt32 {z : Int} (h1 : -2147483648 ≤ z) (h2 : z ≤ 2147483647) : (Int32.ofInt z).toInt = z := by
  rw [Int32.toInt_ofInt]
  simp only [Int.bmod, Int32.size]
  split <;> omega
theorem zt64 {z : Int} (h1 : -9223372036854775808 ≤ z) (h2 : z ≤ 9223372036854775807) : (Int64.ofInt z).toInt = z := by
  rw [Int64.toInt_ofInt]
  simp only [Int.bmod, Int64.size]
  split <;> omega
theorem zt8 {z : Int} (h1 : -128 ≤ z) (h2 : z ≤ 127) : (Int8.ofInt z).toInt32.toInt = z := by
  rw [Int8.toInt_toInt32, Int8.toInt_ofInt]
  simp only [Int.bmod, Int8.size]
  split <;> omega
theorem zt16 {z : Int} (h1 : -32768 ≤ z) (h2 : z ≤ 32767) : (Int16.ofInt z).toInt32.toInt = z := by
  rw [Int16.toInt_toInt32, Int16.toInt_ofInt]
  simp only [Int.bmod, Int16.size]
  split <;> omega
theorem zS1 {n : Nat} {ad : Nat → Nat} {b : Nat} {v : zV} {S : List zV} {stk : List Value} (h : zSR n ad b (v :: S) stk) : ∃ (x : Value) (t : List Value), stk = x :: t ∧ zVR n ad b v x ∧ zSR n ad b S t := h
theorem zSi {n : Nat} {ad : Nat → Nat} {b : Nat} {z : Int} {S : List zV} {stk : List Value} (h : zSR n ad b (.inl z :: S) stk) : ∃ (x : Int32) (t : List Value), stk = .int x :: t ∧ x.toInt = z ∧ zSR n ad b S t := by
  obtain ⟨y, t, rfl, ⟨x, rfl, hx⟩, hS⟩ := h
  exact ⟨x, t, rfl, hx, hS⟩
theorem zSl {n : Nat} {ad : Nat → Nat} {b : Nat} {z : Int} {S : List zV} {stk : List Value} (h : zSR n ad b (.inr (.inl z) :: S) stk) : ∃ (x : Int64) (t : List Value), stk = .long x :: t ∧ x.toInt = z ∧ zSR n ad b S t := by
  obtain ⟨y, t, rfl, ⟨x, rfl, hx⟩, hS⟩ := h
  exact ⟨x, t, rfl, hx, hS⟩
theorem zSr {n : Nat} {ad : Nat → Nat} {b : Nat} {k : Nat} {S : List zV} {stk : List Value} (h : zSR n ad b (.inr (.inr (.inl k)) :: S) stk) : ∃ (t : List Value), stk = .ref (ad k) :: t ∧ k < n ∧ zSR n ad b S t := by
  obtain ⟨y, t, rfl, ⟨hk, rfl⟩, hS⟩ := h
  exact ⟨t, rfl, hk, hS⟩
theorem zSx {n : Nat} {ad : Nat → Nat} {b : Nat} {k : Nat} {S : List zV} {stk : List Value} (h : zSR n ad b (.inr (.inr (.inr k)) :: S) stk) : ∃ (t : List Value), stk = .ref b :: t ∧ k = 1 ∧ zSR n ad b S t := by
  obtain ⟨y, t, rfl, ⟨hk, rfl⟩, hS⟩ := h
  exact ⟨t, rfl, hk, hS⟩
theorem zPi {n : Nat} {ad : Nat → Nat} {b : Nat} {z : Int} {x : Int32} {S : List zV} {t : List Value} (hx : x.toInt = z) (h : zSR n ad b S t) : zSR n ad b (.inl z :: S) (.int x :: t) := ⟨_, _, rfl, ⟨x, rfl, hx⟩, h⟩
theorem zPl {n : Nat} {ad : Nat → Nat} {b : Nat} {z : Int} {x : Int64} {S : List zV} {t : List Value} (hx : x.toInt = z) (h : zSR n ad b S t) : zSR n ad b (.inr (.inl z) :: S) (.long x :: t) := ⟨_, _, rfl, ⟨x, rfl, hx⟩, h⟩
theorem zPr {n : Nat} {ad : Nat → Nat} {b : Nat} {k : Nat} {S : List zV} {t : List Value} (hx : k < n) (h : zSR n ad b S t) : zSR n ad b (.inr (.inr (.inl k)) :: S) (.ref (ad k) :: t) := ⟨_, _, rfl, ⟨hx, rfl⟩, h⟩
section ZOPS
variable {p : Program} {l : Launch} {e : Env} {R : Room} {s : State} {m : MethodId} {args : Array Value} {below : List Frame} {meth : Method} {c : Code} {Q : State → Prop} {D : va_G} {cs : zCs} {A : Nat → Prop} {b n0 s0 : Nat} {ad0 : Nat → Nat} {q : zM} {pc : Nat} {L S : List zV} {G : zG} {H : zH}
theorem zs_iconst (C : zCx p s m args meth c D cs A q) {n : Int} (hd : decode q.2.2.1 pc = .ok (.iconst n, 1)) (h1 : -1 ≤ n) (h2 : n ≤ 5) (k : zGo p l e R s m args below meth c Q D cs A b n0 s0 ad0 q (pc + 1) L (vi n :: S) G H) : zGo p l e R s m args below meth c Q D cs A b n0 s0 ad0 q pc L S G H := by
  intro ad ws Hr locs ls stk a1 a2 a3 hW hP hD hS hL hst
  obtain ⟨hx, hb, hml, hown, hts, hin, hK, hA⟩ := C
  exact lv_iconst hx hb hd rfl (k ad ws Hr locs ls _ a1 a2 a3 hW hP hD hS hL (zPi (zt32 (by omega) (by omega)) hst))
theorem zs_bipush (C : zCx p s m args meth c D cs A q) {n : Int} (hd : decode q.2.2.1 pc = .ok (.bipush n, 2)) (h1 : -128 ≤ n) (h2 : n ≤ 127) (k : zGo p l e R s m args below meth c Q D cs A b n0 s0 ad0 q (pc + 2) L (vi n :: S) G H) : zGo p l e R s m args below meth c Q D cs A b n0 s0 ad0 q pc L S G H := by
  intro ad ws Hr locs ls stk a1 a2 a3 hW hP hD hS hL hst
  obtain ⟨hx, hb, hml, hown, hts, hin, hK, hA⟩ := C
  exact lv_bipush hx hb hd rfl (k ad ws Hr locs ls _ a1 a2 a3 hW hP hD hS hL (zPi (zt8 h1 h2) hst))
theorem zs_sipush (C : zCx p s m args meth c D cs A q) {n : Int} (hd : decode q.2.2.1 pc = .ok (.sipush n, 3)) (h1 : -32768 ≤ n) (h2 : n ≤ 32767) (k : zGo p l e R s m args below meth c Q D cs A b n0 s0 ad0 q (pc + 3) L (vi n :: S) G H) : zGo p l e R s m args below meth c Q D cs A b n0 s0 ad0 q pc L S G H := by
  intro ad ws Hr locs ls stk a1 a2 a3 hW hP hD hS hL hst
  obtain ⟨hx, hb, hml, hown, hts, hin, hK, hA⟩ := C
  exact lv_sipush hx hb hd rfl (k ad ws Hr locs ls _ a1 a2 a3 hW hP hD hS hL (zPi (zt16 h1 h2) hst))
theorem zs_lconst (C : zCx p s m args meth c D cs A q) {n : Fin 2} (hd : decode q.2.2.1 pc = .ok (.lconst n, 1)) (k : zGo p l e R s m args below meth c Q D cs A b n0 s0 ad0 q (pc + 1) L (vl (n.val : Int) :: S) G H) : zGo p l e R s m args below meth c Q D cs A b n0 s0 ad0 q pc L S G H := by
  intro ad ws Hr locs ls stk a1 a2 a3 hW hP hD hS hL hst
  obtain ⟨hx, hb, hml, hown, hts, hin, hK, hA⟩ := C
  refine lv_lconst hx hb hd rfl (k ad ws Hr locs ls _ a1 a2 a3 hW hP hD hS hL (zPl ?_ hst))
  exact (by decide : ∀ n : Fin 2, (Int64.ofNat n.val).toInt = (n.val : Int)) n
theorem zs_ldc (C : zCx p s m args meth c D cs A q) {i : Nat} {z : Int} (hd : decode q.2.2.1 pc = .ok (.ldc i, 2)) (hz : zki q.1 i = some z) (k : zGo p l e R s m args below meth c Q D cs A b n0 s0 ad0 q (pc + 2) L (vi z :: S) G H) : zGo p l e R s m args below meth c Q D cs A b n0 s0 ad0 q pc L S G H := by
  intro ad ws Hr locs ls stk a1 a2 a3 hW hP hD hS hL hst
  obtain ⟨hx, hb, hml, hown, hts, hin, hK, hA⟩ := C
  obtain ⟨⟨h1, h2⟩, h3⟩ := zki_ok hz
  exact lv_ldc hx hb hown (hts _ (zTB_of h3 rfl)) hd (k ad ws Hr locs ls _ a1 a2 a3 hW hP hD hS hL (zPi (zt32 h1 h2) hst))
theorem zs_ldc2 (C : zCx p s m args meth c D cs A q) {i : Nat} {z : Int} (hd : decode q.2.2.1 pc = .ok (.ldc2_w i, 3)) (hz : zkl q.1 i = some z) (k : zGo p l e R s m args below meth c Q D cs A b n0 s0 ad0 q (pc + 3) L (vl z :: S) G H) : zGo p l e R s m args below meth c Q D cs A b n0 s0 ad0 q pc L S G H := by
  intro ad ws Hr locs ls stk a1 a2 a3 hW hP hD hS hL hst
  obtain ⟨hx, hb, hml, hown, hts, hin, hK, hA⟩ := C
  obtain ⟨⟨h1, h2⟩, h3⟩ := zkl_ok hz
  exact lv_ldc2 hx hb hown (hts _ (zTB_of h3 rfl)) hd (k ad ws Hr locs ls _ a1 a2 a3 hW hP hD hS hL (zPl (zt64 h1 h2) hst))
theorem zs_iload_n (C : zCx p s m args meth c D cs A q) {i : Fin 4} {z : Int} (hd : decode q.2.2.1 pc = .ok (.iload_n i, 1)) (hi : L[i.val]? = some (.inl z)) (k : zGo p l e R s m args below meth c Q D cs A b n0 s0 ad0 q (pc + 1) L (vi z :: S) G H) : zGo p l e R s m args below meth c Q D cs A b n0 s0 ad0 q pc L S G H := by
  intro ad ws Hr locs ls stk a1 a2 a3 hW hP hD hS hL hst
  obtain ⟨hx, hb, hml, hown, hts, hin, hK, hA⟩ := C
  obtain ⟨_, ⟨x, rfl, hz⟩, h1⟩ := zLR_at hL hi (fun h => by cases h)
  exact lv_iload_n hx hb hd rfl h1 (k ad ws Hr locs ls _ a1 a2 a3 hW hP hD hS hL (zPi hz hst))
theorem zs_iload (C : zCx p s m args meth c D cs A q) {i : Nat} {z : Int} (hd : decode q.2.2.1 pc = .ok (.iload i, 2)) (hi : L[i]? = some (.inl z)) (k : zGo p l e R s m args below meth c Q D cs A b n0 s0 ad0 q (pc + 2) L (vi z :: S) G H) : zGo p l e R s m args below meth c Q D cs A b n0 s0 ad0 q pc L S G H := by
  intro ad ws Hr locs ls stk a1 a2 a3 hW hP hD hS hL hst
  obtain ⟨hx, hb, hml, hown, hts, hin, hK, hA⟩ := C
  obtain ⟨_, ⟨x, rfl, hz⟩, h1⟩ := zLR_at hL hi (fun h => by cases h)
  exact lv_iload hx hb hd h1 (k ad ws Hr locs ls _ a1 a2 a3 hW hP hD hS hL (zPi hz hst))
theorem zs_lload_n (C : zCx p s m args meth c D cs A q) {i : Fin 4} {z : Int} (hd : decode q.2.2.1 pc = .ok (.lload_n i, 1)) (hi : L[i.val]? = some (.inr (.inl z))) (k : zGo p l e R s m args below meth c Q D cs A b n0 s0 ad0 q (pc + 1) L (vl z :: S) G H) : zGo p l e R s m args below meth c Q D cs A b n0 s0 ad0 q pc L S G H := by
  intro ad ws Hr locs ls stk a1 a2 a3 hW hP hD hS hL hst
  obtain ⟨hx, hb, hml, hown, hts, hin, hK, hA⟩ := C
  obtain ⟨_, ⟨x, rfl, hz⟩, h1⟩ := zLR_at hL hi (fun h => by cases h)
  exact lv_lload_n hx hb hd rfl h1 (k ad ws Hr locs ls _ a1 a2 a3 hW hP hD hS hL (zPl hz hst))
theorem zs_aload_n (C : zCx p s m args meth c D cs A q) {i : Fin 4} {z : Nat} (hd : decode q.2.2.1 pc = .ok (.aload_n i, 1)) (hi : L[i.val]? = some (.inr (.inr (.inl z)))) (k : zGo p l e R s m args below meth c Q D cs A b n0 s0 ad0 q (pc + 1) L (vr z :: S) G H) : zGo p l e R s m args below meth c Q D cs A b n0 s0 ad0 q pc L S G H := by
  intro ad ws Hr locs ls stk a1 a2 a3 hW hP hD hS hL hst
  obtain ⟨hx, hb, hml, hown, hts, hin, hK, hA⟩ := C
  obtain ⟨_, ⟨hz, rfl⟩, h1⟩ := zLR_at hL hi (fun h => by cases h)
  exact lv_aload_n hx hb hd rfl h1 (k ad ws Hr locs ls _ a1 a2 a3 hW hP hD hS hL (zPr hz hst))
theorem zs_aload (C : zCx p s m args meth c D cs A q) {i : Nat} {z : Nat} (hd : decode q.2.2.1 pc = .ok (.aload i, 2)) (hi : L[i]? = some (.inr (.inr (.inl z)))) (k : zGo p l e R s m args below meth c Q D cs A b n0 s0 ad0 q (pc + 2) L (vr z :: S) G H) : zGo p l e R s m args below meth c Q D cs A b n0 s0 ad0 q pc L S G H := by
  intro ad ws Hr locs ls stk a1 a2 a3 hW hP hD hS hL hst
  obtain ⟨hx, hb, hml, hown, hts, hin, hK, hA⟩ := C
  obtain ⟨_, ⟨hz, rfl⟩, h1⟩ := zLR_at hL hi (fun h => by cases h)
  exact lv_aload hx hb hd h1 (k ad ws Hr locs ls _ a1 a2 a3 hW hP hD hS hL (zPr hz hst))
theorem zs_aload_nx (C : zCx p s m args meth c D cs A q) {i : Fin 4} (hd : decode q.2.2.1 pc = .ok (.aload_n i, 1)) (hi : L[i.val]? = some (.inr (.inr (.inr 1)))) (k : zGo p l e R s m args below meth c Q D cs A b n0 s0 ad0 q (pc + 1) L (vx :: S) G H) : zGo p l e R s m args below meth c Q D cs A b n0 s0 ad0 q pc L S G H := by
  intro ad ws Hr locs ls stk a1 a2 a3 hW hP hD hS hL hst
  obtain ⟨hx, hb, hml, hown, hts, hin, hK, hA⟩ := C
  obtain ⟨_, ⟨hz, rfl⟩, h1⟩ := zLR_at hL hi (fun h => by cases h)
  exact lv_aload_n hx hb hd rfl h1 (k ad ws Hr locs ls _ a1 a2 a3 hW hP hD hS hL ⟨_, _, rfl, ⟨rfl, rfl⟩, hst⟩)
theorem zs_aloadx (C : zCx p s m args meth c D cs A q) {i : Nat} (hd : decode q.2.2.1 pc = .ok (.aload i, 2)) (hi : L[i]? = some (.inr (.inr (.inr 1)))) (k : zGo p l e R s m args below meth c Q D cs A b n0 s0 ad0 q (pc + 2) L (vx :: S) G H) : zGo p l e R s m args below meth c Q D cs A b n0 s0 ad0 q pc L S G H := by
  intro ad ws Hr locs ls stk a1 a2 a3 hW hP hD hS hL hst
  obtain ⟨hx, hb, hml, hown, hts, hin, hK, hA⟩ := C
  obtain ⟨_, ⟨hz, rfl⟩, h1⟩ := zLR_at hL hi (fun h => by cases h)
  exact lv_aload hx hb hd h1 (k ad ws Hr locs ls _ a1 a2 a3 hW hP hD hS hL ⟨_, _, rfl, ⟨rfl, rfl⟩, hst⟩)
theorem zs_istore_n (C : zCx p s m args meth c D cs A q) {i : Fin 4} {z : Int} (hd : decode q.2.2.1 pc = .ok (.istore_n i, 1)) (hi : i.val < L.length) (hn : znl L i.val = true) (k : zGo p l e R s m args below meth c Q D cs A b n0 s0 ad0 q (pc + 1) (L.set i.val (vi z)) S G H) : zGo p l e R s m args below meth c Q D cs A b n0 s0 ad0 q pc L (.inl z :: S) G H := by
  intro ad ws Hr locs ls stk a1 a2 a3 hW hP hD hS hL hst
  obtain ⟨hx, hb, hml, hown, hts, hin, hK, hA⟩ := C
  obtain ⟨x, t, rfl, hz, hst1⟩ := zSi hst
  obtain ⟨h1, lv, h2, h3⟩ := hL
  exact lv_istore_n hx hb hd rfl h2 (h1 ▸ hi) rfl (fun ls' h' => k ad ws Hr locs ls' _ a1 a2 a3 hW hP hD hS (zLR_set h1 h3 hn ⟨x, rfl, hz⟩ rfl h') hst1)
theorem zs_istore (C : zCx p s m args meth c D cs A q) {i : Nat} {z : Int} (hd : decode q.2.2.1 pc = .ok (.istore i, 2)) (hi : i < L.length) (hn : znl L i = true) (k : zGo p l e R s m args below meth c Q D cs A b n0 s0 ad0 q (pc + 2) (L.set i (vi z)) S G H) : zGo p l e R s m args below meth c Q D cs A b n0 s0 ad0 q pc L (.inl z :: S) G H := by
  intro ad ws Hr locs ls stk a1 a2 a3 hW hP hD hS hL hst
  obtain ⟨hx, hb, hml, hown, hts, hin, hK, hA⟩ := C
  obtain ⟨x, t, rfl, hz, hst1⟩ := zSi hst
  obtain ⟨h1, lv, h2, h3⟩ := hL
  exact lv_istore hx hb hd h2 (h1 ▸ hi) rfl (fun ls' h' => k ad ws Hr locs ls' _ a1 a2 a3 hW hP hD hS (zLR_set h1 h3 hn ⟨x, rfl, hz⟩ rfl h') hst1)
theorem zs_lstore_n (C : zCx p s m args meth c D cs A q) {i : Fin 4} {z : Int} (hd : decode q.2.2.1 pc = .ok (.lstore_n i, 1)) (hi : i.val + 1 < L.length) (hn : znl L i.val = true) (k : zGo p l e R s m args below meth c Q D cs A b n0 s0 ad0 q (pc + 1) ((L.set i.val (vl z)).set (i.val + 1) vu) S G H) : zGo p l e R s m args below meth c Q D cs A b n0 s0 ad0 q pc L (.inr (.inl z) :: S) G H := by
  intro ad ws Hr locs ls stk a1 a2 a3 hW hP hD hS hL hst
  obtain ⟨hx, hb, hml, hown, hts, hin, hK, hA⟩ := C
  obtain ⟨x, t, rfl, hz, hst1⟩ := zSl hst
  obtain ⟨h1, lv, h2, h3⟩ := hL
  exact lv_lstore_n hx hb hd rfl h2 (h1 ▸ hi) rfl (fun ls' h' => k ad ws Hr locs ls' _ a1 a2 a3 hW hP hD hS (zLR_set2 h1 h3 hn ⟨x, rfl, hz⟩ rfl h') hst1)
theorem zs_astore_n (C : zCx p s m args meth c D cs A q) {i : Fin 4} {z : Nat} (hd : decode q.2.2.1 pc = .ok (.astore_n i, 1)) (hi : i.val < L.length) (hn : znl L i.val = true) (k : zGo p l e R s m args below meth c Q D cs A b n0 s0 ad0 q (pc + 1) (L.set i.val (vr z)) S G H) : zGo p l e R s m args below meth c Q D cs A b n0 s0 ad0 q pc L (.inr (.inr (.inl z)) :: S) G H := by
  intro ad ws Hr locs ls stk a1 a2 a3 hW hP hD hS hL hst
  obtain ⟨hx, hb, hml, hown, hts, hin, hK, hA⟩ := C
  obtain ⟨t, rfl, hz, hst1⟩ := zSr hst
  obtain ⟨h1, lv, h2, h3⟩ := hL
  exact lv_astore_n hx hb hd rfl h2 (h1 ▸ hi) rfl (fun ls' h' => k ad ws Hr locs ls' _ a1 a2 a3 hW hP hD hS (zLR_set h1 h3 hn ⟨hz, rfl⟩ rfl h') hst1)
theorem zs_astore (C : zCx p s m args meth c D cs A q) {i : Nat} {z : Nat} (hd : decode q.2.2.1 pc = .ok (.astore i, 2)) (hi : i < L.length) (hn : znl L i = true) (k : zGo p l e R s m args below meth c Q D cs A b n0 s0 ad0 q (pc + 2) (L.set i (vr z)) S G H) : zGo p l e R s m args below meth c Q D cs A b n0 s0 ad0 q pc L (.inr (.inr (.inl z)) :: S) G H := by
  intro ad ws Hr locs ls stk a1 a2 a3 hW hP hD hS hL hst
  obtain ⟨hx, hb, hml, hown, hts, hin, hK, hA⟩ := C
  obtain ⟨t, rfl, hz, hst1⟩ := zSr hst
  obtain ⟨h1, lv, h2, h3⟩ := hL
  exact lv_astore hx hb hd h2 (h1 ▸ hi) rfl (fun ls' h' => k ad ws Hr locs ls' _ a1 a2 a3 hW hP hD hS (zLR_set h1 h3 hn ⟨hz, rfl⟩ rfl h') hst1)
theorem zs_iinc (C : zCx p s m args meth c D cs A q) {i : Nat} {n z : Int} (hd : decode q.2.2.1 pc = .ok (.iinc i n, 3)) (hi : L[i]? = some (.inl z)) (hn : znl L i = true) (k : zGo p l e R s m args below meth c Q D cs A b n0 s0 ad0 q (pc + 3) (L.set i (vi (zw (z + n)))) S G H) : zGo p l e R s m args below meth c Q D cs A b n0 s0 ad0 q pc L S G H := by
  intro ad ws Hr locs ls stk a1 a2 a3 hW hP hD hS hL hst
  obtain ⟨hx, hb, hml, hown, hts, hin, hK, hA⟩ := C
  obtain ⟨h1, lv, h2, h3⟩ := hL
  obtain ⟨_, ⟨x, rfl, hz⟩, hm⟩ := h3 i _ hi (fun h => by cases h)
  obtain ⟨j, hj⟩ := List.getElem?_of_mem hm
  have hlt : i < q.2.2.2.1 := by rw [← h1]; exact (List.getElem?_eq_some_iff.mp hi).1
  refine lv_iinc (k := j) hx hb hd h2 hj rfl hlt rfl (fun ls' h' => k ad ws Hr locs ls' _ a1 a2 a3 hW hP hD hS (zLR_set h1 h3 hn ⟨_, rfl, ?_⟩ rfl h') hst)
  rw [zw_add, hz, Int32.toInt_ofInt]
  unfold zw
  rw [show Int32.size = 4294967296 from rfl, Int.add_bmod_bmod]
theorem zs_iadd (C : zCx p s m args meth c D cs A q) {x y : Int} (hd : decode q.2.2.1 pc = .ok (.iadd, 1)) (k : zGo p l e R s m args below meth c Q D cs A b n0 s0 ad0 q (pc + 1) L (vi (zw (x + y)) :: S) G H) : zGo p l e R s m args below meth c Q D cs A b n0 s0 ad0 q pc L (.inl y :: .inl x :: S) G H := by
  intro ad ws Hr locs ls stk a1 a2 a3 hW hP hD hS hL hst
  obtain ⟨hx, hb, hml, hown, hts, hin, hK, hA⟩ := C
  obtain ⟨y', t, rfl, rfl, hst1⟩ := zSi hst
  obtain ⟨x', t, rfl, rfl, hst2⟩ := zSi hst1
  exact lv_iadd hx hb hd (k ad ws Hr locs ls _ a1 a2 a3 hW hP hD hS hL (zPi (zw_add _ _) hst2))
theorem zs_isub (C : zCx p s m args meth c D cs A q) {x y : Int} (hd : decode q.2.2.1 pc = .ok (.isub, 1)) (k : zGo p l e R s m args below meth c Q D cs A b n0 s0 ad0 q (pc + 1) L (vi (zw (x - y)) :: S) G H) : zGo p l e R s m args below meth c Q D cs A b n0 s0 ad0 q pc L (.inl y :: .inl x :: S) G H := by
  intro ad ws Hr locs ls stk a1 a2 a3 hW hP hD hS hL hst
  obtain ⟨hx, hb, hml, hown, hts, hin, hK, hA⟩ := C
  obtain ⟨y', t, rfl, rfl, hst1⟩ := zSi hst
  obtain ⟨x', t, rfl, rfl, hst2⟩ := zSi hst1
  exact lv_isub hx hb hd (k ad ws Hr locs ls _ a1 a2 a3 hW hP hD hS hL (zPi (zw_sub _ _) hst2))
theorem zs_imul (C : zCx p s m args meth c D cs A q) {x y : Int} (hd : decode q.2.2.1 pc = .ok (.imul, 1)) (k : zGo p l e R s m args below meth c Q D cs A b n0 s0 ad0 q (pc + 1) L (vi (zw (x * y)) :: S) G H) : zGo p l e R s m args below meth c Q D cs A b n0 s0 ad0 q pc L (.inl y :: .inl x :: S) G H := by
  intro ad ws Hr locs ls stk a1 a2 a3 hW hP hD hS hL hst
  obtain ⟨hx, hb, hml, hown, hts, hin, hK, hA⟩ := C
  obtain ⟨y', t, rfl, rfl, hst1⟩ := zSi hst
  obtain ⟨x', t, rfl, rfl, hst2⟩ := zSi hst1
  exact lv_imul hx hb hd (k ad ws Hr locs ls _ a1 a2 a3 hW hP hD hS hL (zPi (zw_mul _ _) hst2))
theorem zs_idiv (C : zCx p s m args meth c D cs A q) {x y : Int} (hd : decode q.2.2.1 pc = .ok (.idiv, 1)) (h0 : y ≠ 0) (k : zGo p l e R s m args below meth c Q D cs A b n0 s0 ad0 q (pc + 1) L (vi (zdiv x y) :: S) G H) : zGo p l e R s m args below meth c Q D cs A b n0 s0 ad0 q pc L (.inl y :: .inl x :: S) G H := by
  intro ad ws Hr locs ls stk a1 a2 a3 hW hP hD hS hL hst
  obtain ⟨hx, hb, hml, hown, hts, hin, hK, hA⟩ := C
  obtain ⟨y', t, rfl, rfl, hst1⟩ := zSi hst
  obtain ⟨x', t, rfl, rfl, hst2⟩ := zSi hst1
  refine lv_idiv hx hb hd (fun h => h0 (by rw [h]; rfl)) (k ad ws Hr locs ls _ a1 a2 a3 hW hP hD hS hL (zPi ?_ hst2))
  unfold zdiv
  rw [Int32.ofInt_toInt, Int32.ofInt_toInt]
theorem zs_irem (C : zCx p s m args meth c D cs A q) {x y : Int} (hd : decode q.2.2.1 pc = .ok (.irem, 1)) (h0 : y ≠ 0) (k : zGo p l e R s m args below meth c Q D cs A b n0 s0 ad0 q (pc + 1) L (vi (zrem x y) :: S) G H) : zGo p l e R s m args below meth c Q D cs A b n0 s0 ad0 q pc L (.inl y :: .inl x :: S) G H := by
  intro ad ws Hr locs ls stk a1 a2 a3 hW hP hD hS hL hst
  obtain ⟨hx, hb, hml, hown, hts, hin, hK, hA⟩ := C
  obtain ⟨y', t, rfl, rfl, hst1⟩ := zSi hst
  obtain ⟨x', t, rfl, rfl, hst2⟩ := zSi hst1
  refine lv_irem hx hb hd (fun h => h0 (by rw [h]; rfl)) (k ad ws Hr locs ls _ a1 a2 a3 hW hP hD hS hL (zPi ?_ hst2))
  unfold zrem
  rw [Int32.ofInt_toInt, Int32.ofInt_toInt]
theorem zs_iand (C : zCx p s m args meth c D cs A q) {x y : Int} (hd : decode q.2.2.1 pc = .ok (.iand, 1)) (k : zGo p l e R s m args below meth c Q D cs A b n0 s0 ad0 q (pc + 1) L (vi (zand x y) :: S) G H) : zGo p l e R s m args below meth c Q D cs A b n0 s0 ad0 q pc L (.inl y :: .inl x :: S) G H := by
  intro ad ws Hr locs ls stk a1 a2 a3 hW hP hD hS hL hst
  obtain ⟨hx, hb, hml, hown, hts, hin, hK, hA⟩ := C
  obtain ⟨y', t, rfl, rfl, hst1⟩ := zSi hst
  obtain ⟨x', t, rfl, rfl, hst2⟩ := zSi hst1
  refine lv_iand hx hb hd (k ad ws Hr locs ls _ a1 a2 a3 hW hP hD hS hL (zPi ?_ hst2))
  unfold zand
  rw [Int32.ofInt_toInt, Int32.ofInt_toInt]
theorem zs_ior (C : zCx p s m args meth c D cs A q) {x y : Int} (hd : decode q.2.2.1 pc = .ok (.ior, 1)) (k : zGo p l e R s m args below meth c Q D cs A b n0 s0 ad0 q (pc + 1) L (vi (zor x y) :: S) G H) : zGo p l e R s m args below meth c Q D cs A b n0 s0 ad0 q pc L (.inl y :: .inl x :: S) G H := by
  intro ad ws Hr locs ls stk a1 a2 a3 hW hP hD hS hL hst
  obtain ⟨hx, hb, hml, hown, hts, hin, hK, hA⟩ := C
  obtain ⟨y', t, rfl, rfl, hst1⟩ := zSi hst
  obtain ⟨x', t, rfl, rfl, hst2⟩ := zSi hst1
  refine lv_ior hx hb hd (k ad ws Hr locs ls _ a1 a2 a3 hW hP hD hS hL (zPi ?_ hst2))
  unfold zor
  rw [Int32.ofInt_toInt, Int32.ofInt_toInt]
theorem zs_ishl (C : zCx p s m args meth c D cs A q) {x y : Int} (hd : decode q.2.2.1 pc = .ok (.ishl, 1)) (k : zGo p l e R s m args below meth c Q D cs A b n0 s0 ad0 q (pc + 1) L (vi (zshl x y) :: S) G H) : zGo p l e R s m args below meth c Q D cs A b n0 s0 ad0 q pc L (.inl y :: .inl x :: S) G H := by
  intro ad ws Hr locs ls stk a1 a2 a3 hW hP hD hS hL hst
  obtain ⟨hx, hb, hml, hown, hts, hin, hK, hA⟩ := C
  obtain ⟨y', t, rfl, rfl, hst1⟩ := zSi hst
  obtain ⟨x', t, rfl, rfl, hst2⟩ := zSi hst1
  refine lv_ishl hx hb hd (k ad ws Hr locs ls _ a1 a2 a3 hW hP hD hS hL (zPi ?_ hst2))
  unfold zshl
  rw [Int32.ofInt_toInt, Int32.ofInt_toInt]
theorem zs_ishr (C : zCx p s m args meth c D cs A q) {x y : Int} (hd : decode q.2.2.1 pc = .ok (.ishr, 1)) (k : zGo p l e R s m args below meth c Q D cs A b n0 s0 ad0 q (pc + 1) L (vi (zshr x y) :: S) G H) : zGo p l e R s m args below meth c Q D cs A b n0 s0 ad0 q pc L (.inl y :: .inl x :: S) G H := by
  intro ad ws Hr locs ls stk a1 a2 a3 hW hP hD hS hL hst
  obtain ⟨hx, hb, hml, hown, hts, hin, hK, hA⟩ := C
  obtain ⟨y', t, rfl, rfl, hst1⟩ := zSi hst
  obtain ⟨x', t, rfl, rfl, hst2⟩ := zSi hst1
  refine lv_ishr hx hb hd (k ad ws Hr locs ls _ a1 a2 a3 hW hP hD hS hL (zPi ?_ hst2))
  unfold zshr
  rw [Int32.ofInt_toInt, Int32.ofInt_toInt]
theorem zs_ladd (C : zCx p s m args meth c D cs A q) {x y : Int} (hd : decode q.2.2.1 pc = .ok (.ladd, 1)) (k : zGo p l e R s m args below meth c Q D cs A b n0 s0 ad0 q (pc + 1) L (vl (zwl (x + y)) :: S) G H) : zGo p l e R s m args below meth c Q D cs A b n0 s0 ad0 q pc L (.inr (.inl y) :: .inr (.inl x) :: S) G H := by
  intro ad ws Hr locs ls stk a1 a2 a3 hW hP hD hS hL hst
  obtain ⟨hx, hb, hml, hown, hts, hin, hK, hA⟩ := C
  obtain ⟨y', t, rfl, rfl, hst1⟩ := zSl hst
  obtain ⟨x', t, rfl, rfl, hst2⟩ := zSl hst1
  exact lv_ladd hx hb hd (k ad ws Hr locs ls _ a1 a2 a3 hW hP hD hS hL (zPl (zwl_add _ _) hst2))
theorem zs_lmul (C : zCx p s m args meth c D cs A q) {x y : Int} (hd : decode q.2.2.1 pc = .ok (.lmul, 1)) (k : zGo p l e R s m args below meth c Q D cs A b n0 s0 ad0 q (pc + 1) L (vl (zwl (x * y)) :: S) G H) : zGo p l e R s m args below meth c Q D cs A b n0 s0 ad0 q pc L (.inr (.inl y) :: .inr (.inl x) :: S) G H := by
  intro ad ws Hr locs ls stk a1 a2 a3 hW hP hD hS hL hst
  obtain ⟨hx, hb, hml, hown, hts, hin, hK, hA⟩ := C
  obtain ⟨y', t, rfl, rfl, hst1⟩ := zSl hst
  obtain ⟨x', t, rfl, rfl, hst2⟩ := zSl hst1
  exact lv_lmul hx hb hd (k ad ws Hr locs ls _ a1 a2 a3 hW hP hD hS hL (zPl (zwl_mul _ _) hst2))
theorem zs_lrem (C : zCx p s m args meth c D cs A q) {x y : Int} (hd : decode q.2.2.1 pc = .ok (.lrem, 1)) (h0 : y ≠ 0) (k : zGo p l e R s m args below meth c Q D cs A b n0 s0 ad0 q (pc + 1) L (vl (zlrem x y) :: S) G H) : zGo p l e R s m args below meth c Q D cs A b n0 s0 ad0 q pc L (.inr (.inl y) :: .inr (.inl x) :: S) G H := by
  intro ad ws Hr locs ls stk a1 a2 a3 hW hP hD hS hL hst
  obtain ⟨hx, hb, hml, hown, hts, hin, hK, hA⟩ := C
  obtain ⟨y', t, rfl, rfl, hst1⟩ := zSl hst
  obtain ⟨x', t, rfl, rfl, hst2⟩ := zSl hst1
  refine lv_lrem hx hb hd (fun h => h0 (by rw [h]; rfl)) (k ad ws Hr locs ls _ a1 a2 a3 hW hP hD hS hL (zPl ?_ hst2))
  unfold zlrem
  rw [Int64.ofInt_toInt, Int64.ofInt_toInt]
theorem zs_land (C : zCx p s m args meth c D cs A q) {x y : Int} (hd : decode q.2.2.1 pc = .ok (.land, 1)) (k : zGo p l e R s m args below meth c Q D cs A b n0 s0 ad0 q (pc + 1) L (vl (zland x y) :: S) G H) : zGo p l e R s m args below meth c Q D cs A b n0 s0 ad0 q pc L (.inr (.inl y) :: .inr (.inl x) :: S) G H := by
  intro ad ws Hr locs ls stk a1 a2 a3 hW hP hD hS hL hst
  obtain ⟨hx, hb, hml, hown, hts, hin, hK, hA⟩ := C
  obtain ⟨y', t, rfl, rfl, hst1⟩ := zSl hst
  obtain ⟨x', t, rfl, rfl, hst2⟩ := zSl hst1
  refine lv_land hx hb hd (k ad ws Hr locs ls _ a1 a2 a3 hW hP hD hS hL (zPl ?_ hst2))
  unfold zland
  rw [Int64.ofInt_toInt, Int64.ofInt_toInt]
theorem zs_lor (C : zCx p s m args meth c D cs A q) {x y : Int} (hd : decode q.2.2.1 pc = .ok (.lor, 1)) (k : zGo p l e R s m args below meth c Q D cs A b n0 s0 ad0 q (pc + 1) L (vl (zlor x y) :: S) G H) : zGo p l e R s m args below meth c Q D cs A b n0 s0 ad0 q pc L (.inr (.inl y) :: .inr (.inl x) :: S) G H := by
  intro ad ws Hr locs ls stk a1 a2 a3 hW hP hD hS hL hst
  obtain ⟨hx, hb, hml, hown, hts, hin, hK, hA⟩ := C
  obtain ⟨y', t, rfl, rfl, hst1⟩ := zSl hst
  obtain ⟨x', t, rfl, rfl, hst2⟩ := zSl hst1
  refine lv_lor hx hb hd (k ad ws Hr locs ls _ a1 a2 a3 hW hP hD hS hL (zPl ?_ hst2))
  unfold zlor
  rw [Int64.ofInt_toInt, Int64.ofInt_toInt]
theorem zs_lshl (C : zCx p s m args meth c D cs A q) {x y : Int} (hd : decode q.2.2.1 pc = .ok (.lshl, 1)) (k : zGo p l e R s m args below meth c Q D cs A b n0 s0 ad0 q (pc + 1) L (vl (zlshl x y) :: S) G H) : zGo p l e R s m args below meth c Q D cs A b n0 s0 ad0 q pc L (.inl y :: .inr (.inl x) :: S) G H := by
  intro ad ws Hr locs ls stk a1 a2 a3 hW hP hD hS hL hst
  obtain ⟨hx, hb, hml, hown, hts, hin, hK, hA⟩ := C
  obtain ⟨y', t, rfl, rfl, hst1⟩ := zSi hst
  obtain ⟨x', t, rfl, rfl, hst2⟩ := zSl hst1
  refine lv_lshl hx hb hd rfl (k ad ws Hr locs ls _ a1 a2 a3 hW hP hD hS hL (zPl ?_ hst2))
  unfold zlshl
  rw [Int64.ofInt_toInt, Int32.ofInt_toInt]
theorem zs_lshr (C : zCx p s m args meth c D cs A q) {x y : Int} (hd : decode q.2.2.1 pc = .ok (.lshr, 1)) (k : zGo p l e R s m args below meth c Q D cs A b n0 s0 ad0 q (pc + 1) L (vl (zlshr x y) :: S) G H) : zGo p l e R s m args below meth c Q D cs A b n0 s0 ad0 q pc L (.inl y :: .inr (.inl x) :: S) G H := by
  intro ad ws Hr locs ls stk a1 a2 a3 hW hP hD hS hL hst
  obtain ⟨hx, hb, hml, hown, hts, hin, hK, hA⟩ := C
  obtain ⟨y', t, rfl, rfl, hst1⟩ := zSi hst
  obtain ⟨x', t, rfl, rfl, hst2⟩ := zSl hst1
  refine lv_lshr hx hb hd rfl (k ad ws Hr locs ls _ a1 a2 a3 hW hP hD hS hL (zPl ?_ hst2))
  unfold zlshr
  rw [Int64.ofInt_toInt, Int32.ofInt_toInt]
theorem zs_lushr (C : zCx p s m args meth c D cs A q) {x y : Int} (hd : decode q.2.2.1 pc = .ok (.lushr, 1)) (k : zGo p l e R s m args below meth c Q D cs A b n0 s0 ad0 q (pc + 1) L (vl (zlushr x y) :: S) G H) : zGo p l e R s m args below meth c Q D cs A b n0 s0 ad0 q pc L (.inl y :: .inr (.inl x) :: S) G H := by
  intro ad ws Hr locs ls stk a1 a2 a3 hW hP hD hS hL hst
  obtain ⟨hx, hb, hml, hown, hts, hin, hK, hA⟩ := C
  obtain ⟨y', t, rfl, rfl, hst1⟩ := zSi hst
  obtain ⟨x', t, rfl, rfl, hst2⟩ := zSl hst1
  refine lv_lushr hx hb hd rfl (k ad ws Hr locs ls _ a1 a2 a3 hW hP hD hS hL (zPl ?_ hst2))
  unfold zlushr
  rw [Int64.ofInt_toInt, Int32.ofInt_toInt]
theorem zs_i2l (C : zCx p s m args meth c D cs A q) {x : Int} (hd : decode q.2.2.1 pc = .ok (.i2l, 1)) (k : zGo p l e R s m args below meth c Q D cs A b n0 s0 ad0 q (pc + 1) L (vl x :: S) G H) : zGo p l e R s m args below meth c Q D cs A b n0 s0 ad0 q pc L (.inl x :: S) G H := by
  intro ad ws Hr locs ls stk a1 a2 a3 hW hP hD hS hL hst
  obtain ⟨hx, hb, hml, hown, hts, hin, hK, hA⟩ := C
  obtain ⟨x', t, rfl, rfl, hst1⟩ := zSi hst
  exact lv_i2l hx hb hd rfl (k ad ws Hr locs ls _ a1 a2 a3 hW hP hD hS hL (zPl (zi2l _) hst1))
theorem zs_l2i (C : zCx p s m args meth c D cs A q) {x : Int} (hd : decode q.2.2.1 pc = .ok (.l2i, 1)) (k : zGo p l e R s m args below meth c Q D cs A b n0 s0 ad0 q (pc + 1) L (vi (zw x) :: S) G H) : zGo p l e R s m args below meth c Q D cs A b n0 s0 ad0 q pc L (.inr (.inl x) :: S) G H := by
  intro ad ws Hr locs ls stk a1 a2 a3 hW hP hD hS hL hst
  obtain ⟨hx, hb, hml, hown, hts, hin, hK, hA⟩ := C
  obtain ⟨x', t, rfl, rfl, hst1⟩ := zSl hst
  exact lv_l2i hx hb hd rfl (k ad ws Hr locs ls _ a1 a2 a3 hW hP hD hS hL (zPi (zl2i _) hst1))
theorem zs_dup_i (C : zCx p s m args meth c D cs A q) {x : Int} (hd : decode q.2.2.1 pc = .ok (.dup, 1)) (k : zGo p l e R s m args below meth c Q D cs A b n0 s0 ad0 q (pc + 1) L (vi x :: vi x :: S) G H) : zGo p l e R s m args below meth c Q D cs A b n0 s0 ad0 q pc L (.inl x :: S) G H := by
  intro ad ws Hr locs ls stk a1 a2 a3 hW hP hD hS hL hst
  obtain ⟨hx, hb, hml, hown, hts, hin, hK, hA⟩ := C
  obtain ⟨x', t, rfl, rfl, hst1⟩ := zSi hst
  exact lv_dup hx hb hd rfl (k ad ws Hr locs ls _ a1 a2 a3 hW hP hD hS hL (zPi rfl (zPi rfl hst1)))
theorem zs_dup_r (C : zCx p s m args meth c D cs A q) {x : Nat} (hd : decode q.2.2.1 pc = .ok (.dup, 1)) (k : zGo p l e R s m args below meth c Q D cs A b n0 s0 ad0 q (pc + 1) L (vr x :: vr x :: S) G H) : zGo p l e R s m args below meth c Q D cs A b n0 s0 ad0 q pc L (.inr (.inr (.inl x)) :: S) G H := by
  intro ad ws Hr locs ls stk a1 a2 a3 hW hP hD hS hL hst
  obtain ⟨hx, hb, hml, hown, hts, hin, hK, hA⟩ := C
  obtain ⟨t, rfl, h, hst1⟩ := zSr hst
  exact lv_dup hx hb hd rfl (k ad ws Hr locs ls _ a1 a2 a3 hW hP hD hS hL (zPr h (zPr h hst1)))
theorem zs_dup2 (C : zCx p s m args meth c D cs A q) {x : Int} {y : Nat} (hd : decode q.2.2.1 pc = .ok (.dup2, 1)) (k : zGo p l e R s m args below meth c Q D cs A b n0 s0 ad0 q (pc + 1) L (vi x :: vr y :: vi x :: vr y :: S) G H) : zGo p l e R s m args below meth c Q D cs A b n0 s0 ad0 q pc L (.inl x :: .inr (.inr (.inl y)) :: S) G H := by
  intro ad ws Hr locs ls stk a1 a2 a3 hW hP hD hS hL hst
  obtain ⟨hx, hb, hml, hown, hts, hin, hK, hA⟩ := C
  obtain ⟨x', t, rfl, rfl, hst1⟩ := zSi hst
  obtain ⟨t, rfl, h, hst2⟩ := zSr hst1
  exact lv_dup2_11 hx hb hd rfl rfl (k ad ws Hr locs ls _ a1 a2 a3 hW hP hD hS hL (zPi rfl (zPr h (zPi rfl (zPr h hst2)))))
theorem zs_pop (C : zCx p s m args meth c D cs A q) {x : Int} (hd : decode q.2.2.1 pc = .ok (.pop, 1)) (k : zGo p l e R s m args below meth c Q D cs A b n0 s0 ad0 q (pc + 1) L S G H) : zGo p l e R s m args below meth c Q D cs A b n0 s0 ad0 q pc L (.inl x :: S) G H := by
  intro ad ws Hr locs ls stk a1 a2 a3 hW hP hD hS hL hst
  obtain ⟨hx, hb, hml, hown, hts, hin, hK, hA⟩ := C
  obtain ⟨x', t, rfl, rfl, hst1⟩ := zSi hst
  exact lv_pop hx hb hd rfl (k ad ws Hr locs ls _ a1 a2 a3 hW hP hD hS hL hst1)
theorem zjmp_eq {off : Int} (h : 0 ≤ (pc : Int) + off) : (pc : Int) + off = (zjmp pc off : Int) := by
  unfold zjmp
  omega
theorem zs_goto (C : zCx p s m args meth c D cs A q) {off : Int} (hd : decode q.2.2.1 pc = .ok (.goto off, 3)) (h0 : 0 ≤ (pc : Int) + off) (k : zGo p l e R s m args below meth c Q D cs A b n0 s0 ad0 q (zjmp pc off) L S G H) : zGo p l e R s m args below meth c Q D cs A b n0 s0 ad0 q pc L S G H := by
  intro ad ws Hr locs ls stk a1 a2 a3 hW hP hD hS hL hst
  obtain ⟨hx, hb, hml, hown, hts, hin, hK, hA⟩ := C
  exact lv_goto hx hb hd (zjmp_eq h0) (k ad ws Hr locs ls _ a1 a2 a3 hW hP hD hS hL hst)
theorem zx0 {x : Int32} : x = 0 ↔ x.toInt = 0 := ⟨fun h => by rw [h]; rfl, fun h => Int32.toInt_inj.mp (by rw [h]; rfl)⟩
theorem zs_if (C : zCx p s m args meth c D cs A q) {cd : ClassFile.Cond} {off : Int} {x : Int} (hd : decode q.2.2.1 pc = .ok (.ifCond cd off, 3)) (h0 : 0 ≤ (pc : Int) + off) (k : zGo p l e R s m args below meth c Q D cs A b n0 s0 ad0 q (if zcm cd x 0 = true then zjmp pc off else pc + 3) L S G H) : zGo p l e R s m args below meth c Q D cs A b n0 s0 ad0 q pc L (.inl x :: S) G H := by
  intro ad ws Hr locs ls stk a1 a2 a3 hW hP hD hS hL hst
  obtain ⟨hx, hb, hml, hown, hts, hin, hK, hA⟩ := C
  obtain ⟨x', t, rfl, rfl, hst1⟩ := zSi hst
  have K := k ad ws Hr locs ls _ a1 a2 a3 hW hP hD hS hL hst1
  have z0 : (0 : Int32).toInt = 0 := rfl
  cases cd with
  | eq => exact lv_if_eq hx hb hd (zjmp_eq h0) (fun h => by rw [if_pos (by simp [zcm, zx0.mp h])] at K; exact K) (fun h => by rw [if_neg (by simpa [zcm] using fun q => h (zx0.mpr q))] at K; exact K)
  | ne => exact lv_if_ne hx hb hd (zjmp_eq h0) (fun h => by rw [if_pos (by simpa [zcm] using fun q => h (zx0.mpr q))] at K; exact K) (fun h => by rw [if_neg (by simp [zcm, zx0.mp h])] at K; exact K)
  | lt => exact lv_if_lt hx hb hd (zjmp_eq h0) (fun h => by rw [if_pos (by simpa [zcm] using Int32.lt_iff_toInt_lt.mp h)] at K; exact K) (fun h => by rw [if_neg (by intro q; exact h (Int32.lt_iff_toInt_lt.mpr (by simpa [zcm] using q)))] at K; exact K)
  | ge => exact lv_if_ge hx hb hd (zjmp_eq h0) (fun h => by rw [if_pos (by simpa [zcm] using Int32.le_iff_toInt_le.mp h)] at K; exact K) (fun h => by rw [if_neg (by intro q; exact h (Int32.le_iff_toInt_le.mpr (by simpa [zcm] using q)))] at K; exact K)
  | gt => exact lv_if_gt hx hb hd (zjmp_eq h0) (fun h => by rw [if_pos (by simpa [zcm] using Int32.lt_iff_toInt_lt.mp h)] at K; exact K) (fun h => by rw [if_neg (by intro q; exact h (Int32.lt_iff_toInt_lt.mpr (by simpa [zcm] using q)))] at K; exact K)
  | le => exact lv_if_le hx hb hd (zjmp_eq h0) (fun h => by rw [if_pos (by simpa [zcm] using Int32.le_iff_toInt_le.mp h)] at K; exact K) (fun h => by rw [if_neg (by intro q; exact h (Int32.le_iff_toInt_le.mpr (by simpa [zcm] using q)))] at K; exact K)
theorem zs_icmp (C : zCx p s m args meth c D cs A q) {cd : ClassFile.Cond} {off : Int} {x y : Int} (hd : decode q.2.2.1 pc = .ok (.if_icmp cd off, 3)) (h0 : 0 ≤ (pc : Int) + off) (k : zGo p l e R s m args below meth c Q D cs A b n0 s0 ad0 q (if zcm cd x y = true then zjmp pc off else pc + 3) L S G H) : zGo p l e R s m args below meth c Q D cs A b n0 s0 ad0 q pc L (.inl y :: .inl x :: S) G H := by
  intro ad ws Hr locs ls stk a1 a2 a3 hW hP hD hS hL hst
  obtain ⟨hx, hb, hml, hown, hts, hin, hK, hA⟩ := C
  obtain ⟨y', t, rfl, rfl, hst1⟩ := zSi hst
  obtain ⟨x', t, rfl, rfl, hst2⟩ := zSi hst1
  have K := k ad ws Hr locs ls _ a1 a2 a3 hW hP hD hS hL hst2
  cases cd with
  | eq => exact lv_icmp_eq hx hb hd (zjmp_eq h0) (fun h => by rw [if_pos (by simp [zcm, h])] at K; exact K) (fun h => by rw [if_neg (by intro q; exact h (Int32.toInt_inj.mp (by simpa [zcm] using q)))] at K; exact K)
  | ne => exact lv_icmp_ne hx hb hd (zjmp_eq h0) (fun h => by rw [if_pos (by simpa [zcm, Int32.toInt_inj] using h)] at K; exact K) (fun h => by rw [if_neg (by simpa [zcm, Int32.toInt_inj] using h)] at K; exact K)
  | lt => exact lv_icmp_lt hx hb hd (zjmp_eq h0) (fun h => by rw [if_pos (by simpa [zcm] using Int32.lt_iff_toInt_lt.mp h)] at K; exact K) (fun h => by rw [if_neg (by intro q; exact h (Int32.lt_iff_toInt_lt.mpr (by simpa [zcm] using q)))] at K; exact K)
  | ge => exact lv_icmp_ge hx hb hd (zjmp_eq h0) (fun h => by rw [if_pos (by simpa [zcm] using Int32.le_iff_toInt_le.mp h)] at K; exact K) (fun h => by rw [if_neg (by intro q; exact h (Int32.le_iff_toInt_le.mpr (by simpa [zcm] using q)))] at K; exact K)
  | gt => exact lv_icmp_gt hx hb hd (zjmp_eq h0) (fun h => by rw [if_pos (by simpa [zcm] using Int32.lt_iff_toInt_lt.mp h)] at K; exact K) (fun h => by rw [if_neg (by intro q; exact h (Int32.lt_iff_toInt_lt.mpr (by simpa [zcm] using q)))] at K; exact K)
  | le => exact lv_icmp_le hx hb hd (zjmp_eq h0) (fun h => by rw [if_pos (by simpa [zcm] using Int32.le_iff_toInt_le.mp h)] at K; exact K) (fun h => by rw [if_neg (by intro q; exact h (Int32.le_iff_toInt_le.mpr (by simpa [zcm] using q)))] at K; exact K)
theorem zs_table (C : zCx p s m args meth c D cs A q) {dd lo hi : Int} {offs : Array Int} {len t : Nat} {x : Int} (hd : decode q.2.2.1 pc = .ok (.tableswitch dd lo hi offs, len)) (h0 : 0 ≤ (pc : Int) + dd) (h1 : offs.toList.all (fun q => decide (0 ≤ (pc : Int) + q)) = true) (ht : ztab pc dd lo hi offs x = some t) (k : zGo p l e R s m args below meth c Q D cs A b n0 s0 ad0 q t L S G H) : zGo p l e R s m args below meth c Q D cs A b n0 s0 ad0 q pc L (.inl x :: S) G H := by
  intro ad ws Hr locs ls stk a1 a2 a3 hW hP hD hS hL hst
  obtain ⟨hx, hb, hml, hown, hts, hin, hK, hA⟩ := C
  obtain ⟨x', u, rfl, rfl, hst1⟩ := zSi hst
  have K := k ad ws Hr locs ls _ a1 a2 a3 hW hP hD hS hL hst1
  unfold ztab at ht
  split at ht
  · rename_i h
    cases ht
    exact lv_tableOut hx hb hd h (zjmp_eq h0) K
  · rename_i h
    have hl : ¬ x'.toInt < lo := fun z => h (Or.inl z)
    have hh : ¬ hi < x'.toInt := fun z => h (Or.inr z)
    split at ht
    · rename_i off ho
      cases ht
      have hm : off ∈ offs.toList := by
        have := Array.mem_of_getElem? ho
        exact Array.mem_toList_iff.mpr this
      have hp : 0 ≤ (pc : Int) + off := by simpa using List.all_eq_true.mp h1 off hm
      exact lv_tableIn hx hb hd hl hh ho (zjmp_eq hp) K
    · cases ht
theorem zs_look (C : zCx p s m args meth c D cs A q) {dd : Int} {ps : Array (Int × Int)} {len : Nat} {x : Int} (hd : decode q.2.2.1 pc = .ok (.lookupswitch dd ps, len)) (h1 : (ps.toList.zip (ps.toList.drop 1)).all (fun (a, next) => a.1 < next.1) = true) (h0 : 0 ≤ (pc : Int) + Op.lookupswitch.offset ps.toList dd x) (k : zGo p l e R s m args below meth c Q D cs A b n0 s0 ad0 q (zjmp pc (Op.lookupswitch.offset ps.toList dd x)) L S G H) : zGo p l e R s m args below meth c Q D cs A b n0 s0 ad0 q pc L (.inl x :: S) G H := by
  intro ad ws Hr locs ls stk a1 a2 a3 hW hP hD hS hL hst
  obtain ⟨hx, hb, hml, hown, hts, hin, hK, hA⟩ := C
  obtain ⟨x', u, rfl, rfl, hst1⟩ := zSi hst
  exact lv_lookup hx hb hd h1 rfl (zjmp_eq h0) (k ad ws Hr locs ls _ a1 a2 a3 hW hP hD hS hL hst1)
end ZOPS
end
section
/-! the instructions that read and write cells -/
theorem zCb_iff {G : zG} {a c : Nat} : zCb G a c = true ↔ a < G.1 ∧ (G.2.2.1 a).1 = c := by simp [zCb]
theorem zInb_iff {G : zG} {a : Nat} {i : Int} : zInb G a i = true ↔ 0 ≤ i ∧ i < ((G.2.2.1 a).2 : Int) := by simp [zInb]
theorem zCR_same {cs : zCs} {ad : Nat → Nat} {G G' : zG} {H H' : zH} {k : Nat} {e : va_E} (h1 : G'.1 = G.1) (h2 : G'.2.2.1 k = G.2.2.1 k) (h3 : G'.2.2.2 k = G.2.2.2 k) (h4 : H' k = H k) (h : zCR cs ad G H k e) : zCR cs ad G' H' k e := by
  unfold zCR zFV at h ⊢
  rw [h1, h2, h3, h4]
  exact h
theorem zRV_mono {n n' : Nat} {ad ad' : Nat → Nat} (hn : n ≤ n') (ha : ∀ k, k < n → ad' k = ad k) {r : Nat} {v : Value} (h : zRV n ad r v) : zRV n' ad' r v := by
  rcases h with ⟨h1, h2⟩ | h
  · exact Or.inl ⟨Nat.lt_of_lt_of_le h1 hn, by rw [ha r h1]; exact h2⟩
  · exact Or.inr h
theorem zCR_mono {cs : zCs} {ad ad' : Nat → Nat} {G G' : zG} {H H' : zH} {k : Nat} {e : va_E} (h1 : G.1 ≤ G'.1) (ha : ∀ k, k < G.1 → ad' k = ad k) (h2 : G'.2.2.1 k = G.2.2.1 k) (h3 : G'.2.2.2 k = G.2.2.2 k) (h4 : H' k = H k) (h : zCR cs ad G H k e) : zCR cs ad' G' H' k e := by
  unfold zCR zFV at h ⊢
  rw [h2, h3, h4]
  rcases h with ⟨a1, a2, fs, a3, a4, a5⟩ | h | h | ⟨a1, f, a2, a3⟩ | ⟨a1, f, a2, a3⟩
  · refine Or.inl ⟨a1, a2, fs, a3, a4, fun j v hj => ?_⟩
    rcases a5 j v hj with ⟨b1, b2⟩ | b
    · exact Or.inl ⟨b1, zRV_mono h1 ha b2⟩
    · exact Or.inr b
  · exact Or.inr (Or.inl h)
  · exact Or.inr (Or.inr (Or.inl h))
  · exact Or.inr (Or.inr (Or.inr (Or.inl ⟨a1, f, a2, fun j hj => zRV_mono h1 ha (a3 j hj)⟩)))
  · exact Or.inr (Or.inr (Or.inr (Or.inr ⟨a1, f, a2, fun j hj => zRV_mono h1 ha (a3 j hj)⟩)))
theorem zWR_set {cs : zCs} {G G' : zG} {H H' : zH} {ad : Nat → Nat} {ws : va_W} {a : Nat} {e : va_E} (hW : zWR cs G H ad ws) (ha : a < G.1) (h1 : G'.1 = G.1) (h2 : ∀ k, k ≠ a → G'.2.2.1 k = G.2.2.1 k) (h3 : ∀ k, k ≠ a → G'.2.2.2 k = G.2.2.2 k) (h4 : ∀ k, k ≠ a → H' k = H k) (he : zCR cs ad G' H' a e) : zWR cs G' H' ad (ws.set a (ad a, e)) := by
  obtain ⟨w1, w2, w3⟩ := hW
  refine ⟨by rw [List.length_set, h1]; exact w1, by rw [h1]; exact w2, fun k hk => ?_⟩
  rw [h1] at hk
  rw [List.getElem?_set]
  by_cases e1 : a = k
  · subst e1
    rw [if_pos rfl, if_pos (by rw [w1]; exact ha)]
    exact ⟨e, rfl, he⟩
  · rw [if_neg e1]
    obtain ⟨e', g1, g2⟩ := w3 k hk
    have e2 : k ≠ a := fun z => e1 z.symm
    exact ⟨e', g1, zCR_same h1 (h2 k e2) (h3 k e2) (h4 k e2) g2⟩
/-- an object of a class among the cells -/
theorem zWR_obj {cs : zCs} {G : zG} {H : zH} {ad : Nat → Nat} {ws : va_W} {a t : Nat} (hW : zWR cs G H ad ws) (ha : a < G.1) (ht : (G.2.2.1 a).1 = t) (h10 : t < 10) : ∃ fs : List Value, ws[a]? = some (ad a, .inr (t, fs)) ∧ fs.length = zNN t ∧ (G.2.2.1 a).2 = zNN t ∧ ∀ (j : Nat) (v : Value), fs[j]? = some v → zFV ad G H t a j v := by
  obtain ⟨e, h1, h2⟩ := hW.2.2 a ha
  subst ht
  rcases h2 with ⟨g1, g2, fs, g3, g4, g5⟩ | ⟨g1, -⟩ | ⟨g1, -⟩ | ⟨g1, -⟩ | ⟨g1, -⟩
  · subst g3
    exact ⟨fs, h1, by rw [g4]; exact g2, g2, g5⟩
  all_goals omega
theorem zWR_int {cs : zCs} {G : zG} {H : zH} {ad : Nat → Nat} {ws : va_W} {a : Nat} (hW : zWR cs G H ad ws) (ha : a < G.1) (ht : (G.2.2.1 a).1 = 100) : ∃ f : Nat → Int32, ws[a]? = some (ad a, .inl (cs.1, (G.2.2.1 a).2, .inl f)) ∧ ∀ j : Nat, j < (G.2.2.1 a).2 → (f j).toInt = H a (j : Int) := by
  obtain ⟨e, h1, h2⟩ := hW.2.2 a ha
  rcases h2 with ⟨g1, -⟩ | ⟨g1, f, g2, g3⟩ | ⟨g1, -⟩ | ⟨g1, -⟩ | ⟨g1, -⟩
  · omega
  · subst g2
    exact ⟨f, h1, g3⟩
  all_goals omega
theorem zWR_boo {cs : zCs} {G : zG} {H : zH} {ad : Nat → Nat} {ws : va_W} {a : Nat} (hW : zWR cs G H ad ws) (ha : a < G.1) (ht : (G.2.2.1 a).1 = 101) : ∃ f : Nat → Int32, ws[a]? = some (ad a, .inl (cs.2.1, (G.2.2.1 a).2, .inl f)) ∧ ∀ j : Nat, j < (G.2.2.1 a).2 → (f j).toInt = H a (j : Int) := by
  obtain ⟨e, h1, h2⟩ := hW.2.2 a ha
  rcases h2 with ⟨g1, -⟩ | ⟨g1, -⟩ | ⟨g1, f, g2, g3⟩ | ⟨g1, -⟩ | ⟨g1, -⟩
  · omega
  · omega
  · subst g2
    exact ⟨f, h1, g3⟩
  all_goals omega
theorem zWR_bks {cs : zCs} {G : zG} {H : zH} {ad : Nat → Nat} {ws : va_W} {a : Nat} (hW : zWR cs G H ad ws) (ha : a < G.1) (ht : (G.2.2.1 a).1 = 102) : ∃ f : Nat → Option Nat, ws[a]? = some (ad a, .inl (cs.2.2.1, (G.2.2.1 a).2, .inr (.inr (.inr (.inr f))))) ∧ ∀ j : Nat, j < (G.2.2.1 a).2 → zRV G.1 ad (G.2.2.2 a (j : Int)) (va_rf (f j)) := by
  obtain ⟨e, h1, h2⟩ := hW.2.2 a ha
  rcases h2 with ⟨g1, -⟩ | ⟨g1, -⟩ | ⟨g1, -⟩ | ⟨g1, f, g2, g3⟩ | ⟨g1, -⟩
  · omega
  · omega
  · omega
  · subst g2
    exact ⟨f, h1, g3⟩
  all_goals omega
theorem zWR_row {cs : zCs} {G : zG} {H : zH} {ad : Nat → Nat} {ws : va_W} {a : Nat} (hW : zWR cs G H ad ws) (ha : a < G.1) (ht : (G.2.2.1 a).1 = 103) : ∃ f : Nat → Option Nat, ws[a]? = some (ad a, .inl (cs.2.2.2, (G.2.2.1 a).2, .inr (.inr (.inr (.inr f))))) ∧ ∀ j : Nat, j < (G.2.2.1 a).2 → zRV G.1 ad (G.2.2.2 a (j : Int)) (va_rf (f j)) := by
  obtain ⟨e, h1, h2⟩ := hW.2.2 a ha
  rcases h2 with ⟨g1, -⟩ | ⟨g1, -⟩ | ⟨g1, -⟩ | ⟨g1, -⟩ | ⟨g1, f, g2, g3⟩
  · omega
  · omega
  · omega
  · omega
  · subst g2
    exact ⟨f, h1, g3⟩
theorem zset_ne {H : zH} {a b : Nat} {f : Int → Int} (h : b ≠ a) : zset H a f b = H b := if_neg h
theorem zset_eq {H : zH} {a : Nat} {f : Int → Int} : zset H a f a = f := if_pos rfl
theorem zrset_ne {r : Nat → Int → Nat} {a b : Nat} {f : Int → Nat} (h : b ≠ a) : zrset r a f b = r b := if_neg h
theorem zrset_eq {r : Nat → Int → Nat} {a : Nat} {f : Int → Nat} : zrset r a f a = f := if_pos rfl
theorem zsh_ne {s : Nat → Nat × Nat} {a b : Nat} {x : Nat × Nat} (h : b ≠ a) : zsh s a x b = s b := if_neg h
theorem zsh_eq {s : Nat → Nat × Nat} {a : Nat} {x : Nat × Nat} : zsh s a x a = x := if_pos rfl
theorem zix {x : Int32} (h : 0 ≤ x.toInt) : ((x.toNatClampNeg : Nat) : Int) = x.toInt := by
  rw [zclamp]
  omega
theorem zvpin {x : Int32} {n : Nat} (h1 : 0 ≤ x.toInt) (h2 : x.toInt < (n : Int)) : vp_in x n := vp_in_iff.mpr ⟨h1, h2⟩
section ZHP
variable {p : Program} {l : Launch} {e : Env} {R : Room} {s : State} {m : MethodId} {args : Array Value} {below : List Frame} {meth : Method} {c : Code} {Q : State → Prop} {D : va_G} {cs : zCs} {A : Nat → Prop} {b n0 s0 : Nat} {ad0 : Nat → Nat} {q : zM} {pc : Nat} {L S : List zV} {G : zG} {H : zH}
theorem zs_geti (C : zCx p s m args meth c D cs A q) {i a t k : Nat} (hd : decode q.2.2.1 pc = .ok (.getfield i, 3)) (hf : zfd q.1 i = some (t, k)) (hr : zrf t k = false) (ha : a < G.1) (ht : (G.2.2.1 a).1 = t) (K : zGo p l e R s m args below meth c Q D cs A b n0 s0 ad0 q (pc + 3) L (vi (H a k) :: S) G H) : zGo p l e R s m args below meth c Q D cs A b n0 s0 ad0 q pc L (.inr (.inr (.inl a)) :: S) G H := by
  intro ad ws Hr locs ls stk a1 a2 a3 hW hP hD hS hL hst
  obtain ⟨hx, hb, hml, hown, hts, hin, hK, hA⟩ := C
  obtain ⟨⟨h10, hk⟩, hw⟩ := zf_ok hf
  obtain ⟨u, rfl, -, hst1⟩ := zSr hst
  obtain ⟨fs, g1, g2, -, g3⟩ := zWR_obj hW ha ht h10
  have hv : fs[k]? = some (fs[k]'(by rw [g2]; exact hk)) := List.getElem?_eq_getElem _
  rcases g3 k _ hv with ⟨z, -⟩ | ⟨-, x, e1, e2⟩
  · rw [hr] at z
    cases z
  · rw [e1] at hv
    exact va_get (D := D) (ci := t) (C := zcn t) (T := zT t) (N := zNN t) (own := zcn q.1) (ref := (zT t k).1) hx hb hts (zk_in2 h10) hown hK.1 hP a g1 (zk_cl h10) k hk (hts _ hw) (fun _ z => z) hv hd (K ad ws Hr locs ls _ a1 a2 a3 hW hP hD hS hL (zPi e2 hst1))
theorem zs_getr (C : zCx p s m args meth c D cs A q) {i a t k : Nat} (hd : decode q.2.2.1 pc = .ok (.getfield i, 3)) (hf : zfd q.1 i = some (t, k)) (hr : zrf t k = true) (ha : a < G.1) (ht : (G.2.2.1 a).1 = t) (hlt : G.2.2.2 a k < G.1) (K : zGo p l e R s m args below meth c Q D cs A b n0 s0 ad0 q (pc + 3) L (vr (G.2.2.2 a k) :: S) G H) : zGo p l e R s m args below meth c Q D cs A b n0 s0 ad0 q pc L (.inr (.inr (.inl a)) :: S) G H := by
  intro ad ws Hr locs ls stk a1 a2 a3 hW hP hD hS hL hst
  obtain ⟨hx, hb, hml, hown, hts, hin, hK, hA⟩ := C
  obtain ⟨⟨h10, hk⟩, hw⟩ := zf_ok hf
  obtain ⟨u, rfl, -, hst1⟩ := zSr hst
  obtain ⟨fs, g1, g2, -, g3⟩ := zWR_obj hW ha ht h10
  have hv : fs[k]? = some (fs[k]'(by rw [g2]; exact hk)) := List.getElem?_eq_getElem _
  rcases g3 k _ hv with ⟨-, ⟨b1, b2⟩ | ⟨b1, -⟩⟩ | ⟨z, -⟩
  · rw [b2] at hv
    exact va_get (D := D) (ci := t) (C := zcn t) (T := zT t) (N := zNN t) (own := zcn q.1) (ref := (zT t k).1) hx hb hts (zk_in2 h10) hown hK.1 hP a g1 (zk_cl h10) k hk (hts _ hw) (fun _ z => z) hv hd (K ad ws Hr locs ls _ a1 a2 a3 hW hP hD hS hL (zPr b1 hst1))
  · have := hW.2.1
    omega
  · rw [hr] at z
    cases z
theorem zs_puti (C : zCx p s m args meth c D cs A q) {i a t k : Nat} {z : Int} (hd : decode q.2.2.1 pc = .ok (.putfield i, 3)) (hf : zfd q.1 i = some (t, k)) (hr : zrf t k = false) (ha : a < G.1) (ht : (G.2.2.1 a).1 = t) (K : zGo p l e R s m args below meth c Q D cs A b n0 s0 ad0 q (pc + 3) L S G (zup H a k z)) : zGo p l e R s m args below meth c Q D cs A b n0 s0 ad0 q pc L (.inl z :: .inr (.inr (.inl a)) :: S) G H := by
  intro ad ws Hr locs ls stk a1 a2 a3 hW hP hD hS hL hst
  obtain ⟨hx, hb, hml, hown, hts, hin, hK, hA⟩ := C
  obtain ⟨⟨h10, hk⟩, hw⟩ := zf_ok hf
  obtain ⟨x, u, rfl, hz, hst0⟩ := zSi hst
  obtain ⟨u, rfl, -, hst1⟩ := zSr hst0
  obtain ⟨fs, g1, g2, g4, g3⟩ := zWR_obj hW ha ht h10
  have hpd := zk_pd h10 k hk
  have hty := (zk_ty h10 k hk).2 hr
  rw [hty] at hpd
  refine va_put (D := D) (ci := t) (C := zcn t) (T := zT t) (N := zNN t) (own := zcn q.1) (ref := (zT t k).1) hx hb hts (zk_in2 h10) (zty t) (zk_pd h10) (zk_nm h10) hown hK.1 hP hD hS a g1 (zk_cl h10) k hk (hts _ hw) (fun _ z => z) (by rw [(zk_ow h10 k hk).2]; exact hr) (ty := .int) (v := .int x) hpd rfl rfl (by rw [g2]; exact hk) hd (fun H1 locs1 hP1 hD1 hS1 => ?_)
  refine K ad _ H1 locs1 ls _ a1 a2 a3 (zWR_set hW ha rfl (fun _ _ => rfl) (fun _ _ => rfl) (fun k' hk' => zset_ne hk') ?_) hP1 hD1 hS1 hL hst1
  refine Or.inl ⟨by rw [ht]; exact h10, by rw [ht]; exact g4, fs.set k (.int x), by rw [ht], by rw [List.length_set, g2, g4], fun j v hj => ?_⟩
  rw [ht]
  rw [List.getElem?_set] at hj
  by_cases e1 : k = j
  · subst e1
    rw [if_pos rfl, if_pos (by rw [g2]; exact hk)] at hj
    cases hj
    refine Or.inr ⟨hr, x, rfl, ?_⟩
    rw [zup, zset_eq, zfu, if_pos rfl]
    exact hz
  · rw [if_neg e1] at hj
    rcases g3 j v hj with b | ⟨b1, y, b2, b3⟩
    · exact Or.inl b
    · refine Or.inr ⟨b1, y, b2, ?_⟩
      rw [zup, zset_eq, zfu, if_neg (by omega)]
      exact b3
theorem zfits_ref {ty : FieldType} {a : Nat} (h : zisr ty = true) : narrow ty (.ref a) = .ref a ∧ fits ty (.ref a) = true := by
  cases ty <;> first | (simp [zisr] at h; done) | exact ⟨rfl, rfl⟩
theorem zs_putr (C : zCx p s m args meth c D cs A q) {i a t k x : Nat} (hd : decode q.2.2.1 pc = .ok (.putfield i, 3)) (hf : zfd q.1 i = some (t, k)) (hr : zrf t k = true) (ha : a < G.1) (ht : (G.2.2.1 a).1 = t) (ho : q.1 = t) (hi : q.2.1.name = "<init>") (K : zGo p l e R s m args below meth c Q D cs A b n0 s0 ad0 q (pc + 3) L S (G.1, G.2.1, G.2.2.1, zrset G.2.2.2 a (zru (G.2.2.2 a) k x)) H) : zGo p l e R s m args below meth c Q D cs A b n0 s0 ad0 q pc L (.inr (.inr (.inl x)) :: .inr (.inr (.inl a)) :: S) G H := by
  intro ad ws Hr locs ls stk a1 a2 a3 hW hP hD hS hL hst
  obtain ⟨hx, hb, hml, hown, hts, hin, hK, hA⟩ := C
  obtain ⟨⟨h10, hk⟩, hw⟩ := zf_ok hf
  obtain ⟨u, rfl, hxl, hst0⟩ := zSr hst
  obtain ⟨u, rfl, -, hst1⟩ := zSr hst0
  obtain ⟨fs, g1, g2, g4, g3⟩ := zWR_obj hW ha ht h10
  have hpd := zk_pd h10 k hk
  have hty := (zk_ty h10 k hk).1 hr
  refine va_putF (D := D) (ci := t) (C := zcn t) (T := zT t) (N := zNN t) (own := zcn q.1) (ref := (zT t k).1) hx hb hts (zk_in2 h10) (zty t) (zk_pd h10) (zk_nm h10) hown hK.1 hP hD hS a g1 (zk_cl h10) k hk (hts _ hw) (fun _ z => z) (by rw [(zk_ow h10 k hk).2]; exact hr) (hin hi) (by rw [(zk_ow h10 k hk).1, ho]) (v := .ref (ad x)) hpd (zfits_ref hty).1 (zfits_ref hty).2 (by rw [g2]; exact hk) hd (fun H1 locs1 hP1 hD1 hS1 => ?_)
  refine K ad _ H1 locs1 ls _ a1 a2 a3 (zWR_set hW ha rfl (fun _ _ => rfl) (fun k' hk' => zrset_ne hk') (fun k' hk' => rfl) ?_) hP1 hD1 hS1 hL hst1
  refine Or.inl ⟨by show (G.2.2.1 a).1 < 10; rw [ht]; exact h10, by show (G.2.2.1 a).2 = zNN (G.2.2.1 a).1; rw [ht]; exact g4, fs.set k (.ref (ad x)), by show _ = Sum.inr ((G.2.2.1 a).1, _); rw [ht], by rw [List.length_set, g2]; exact g4.symm, fun j v hj => ?_⟩
  show zFV ad _ H (G.2.2.1 a).1 a j v
  rw [ht]
  rw [List.getElem?_set] at hj
  by_cases e1 : k = j
  · subst e1
    rw [if_pos rfl, if_pos (by rw [g2]; exact hk)] at hj
    cases hj
    refine Or.inl ⟨hr, Or.inl ?_⟩
    show zrset G.2.2.2 a (zru (G.2.2.2 a) k x) a k < G.1 ∧ Value.ref (ad x) = Value.ref (ad (zrset G.2.2.2 a (zru (G.2.2.2 a) k x) a k))
    rw [zrset_eq, zru, if_pos rfl]
    exact ⟨hxl, rfl⟩
  · rw [if_neg e1] at hj
    rcases g3 j v hj with ⟨b1, b2⟩ | b
    · refine Or.inl ⟨b1, ?_⟩
      show zRV G.1 ad (zrset G.2.2.2 a (zru (G.2.2.2 a) k x) a j) v
      rw [zrset_eq, zru, if_neg (by omega)]
      exact b2
    · exact Or.inr b
theorem zs_iald (C : zCx p s m args meth c D cs A q) {a : Nat} {i : Int} (hd : decode q.2.2.1 pc = .ok (.iaload, 1)) (ha : a < G.1) (ht : (G.2.2.1 a).1 = 100) (h0 : 0 ≤ i) (h1 : i < ((G.2.2.1 a).2 : Int)) (K : zGo p l e R s m args below meth c Q D cs A b n0 s0 ad0 q (pc + 1) L (vi (H a i) :: S) G H) : zGo p l e R s m args below meth c Q D cs A b n0 s0 ad0 q pc L (.inl i :: .inr (.inr (.inl a)) :: S) G H := by
  intro ad ws Hr locs ls stk a1 a2 a3 hW hP hD hS hL hst
  obtain ⟨hx, hb, hml, hown, hts, hin, hK, hA⟩ := C
  obtain ⟨x, u, rfl, rfl, hst0⟩ := zSi hst
  obtain ⟨u, rfl, -, hst1⟩ := zSr hst0
  obtain ⟨f, g1, g2⟩ := zWR_int hW ha ht
  have hlt : x.toNatClampNeg < (G.2.2.1 a).2 := by rw [zclamp]; omega
  exact va_iald (D := D) (tys := ztys cs) hx hb hK.1 hP a 0 g1 rfl (zvpin h0 h1) hd (K ad ws Hr locs ls _ a1 a2 a3 hW hP hD hS hL (zPi (by rw [g2 _ hlt, zix h0]) hst1))
theorem zs_bald (C : zCx p s m args meth c D cs A q) {a : Nat} {i : Int} (hd : decode q.2.2.1 pc = .ok (.baload, 1)) (ha : a < G.1) (ht : (G.2.2.1 a).1 = 101) (h0 : 0 ≤ i) (h1 : i < ((G.2.2.1 a).2 : Int)) (K : zGo p l e R s m args below meth c Q D cs A b n0 s0 ad0 q (pc + 1) L (vi (H a i) :: S) G H) : zGo p l e R s m args below meth c Q D cs A b n0 s0 ad0 q pc L (.inl i :: .inr (.inr (.inl a)) :: S) G H := by
  intro ad ws Hr locs ls stk a1 a2 a3 hW hP hD hS hL hst
  obtain ⟨hx, hb, hml, hown, hts, hin, hK, hA⟩ := C
  obtain ⟨x, u, rfl, rfl, hst0⟩ := zSi hst
  obtain ⟨u, rfl, -, hst1⟩ := zSr hst0
  obtain ⟨f, g1, g2⟩ := zWR_boo hW ha ht
  have hlt : x.toNatClampNeg < (G.2.2.1 a).2 := by rw [zclamp]; omega
  exact va_zald (D := D) (tys := ztys cs) hx hb hK.1 hP a 1 g1 rfl (zvpin h0 h1) hd (K ad ws Hr locs ls _ a1 a2 a3 hW hP hD hS hL (zPi (by rw [g2 _ hlt, zix h0]) hst1))
theorem zs_sald (C : zCx p s m args meth c D cs A q) {o : Option (Nat × (Int → Int))} (hO : zSc s A b o) {n : Nat} {f : Int → Int} (ho : o = some (n, f)) {i : Int} (hd : decode q.2.2.1 pc = .ok (.iaload, 1)) (h0 : 0 ≤ i) (h1 : i < (n : Int)) (K : zGo p l e R s m args below meth c Q D cs A b n0 s0 ad0 q (pc + 1) L (vi (f i) :: S) G H) : zGo p l e R s m args below meth c Q D cs A b n0 s0 ad0 q pc L (.inl i :: .inr (.inr (.inr 1)) :: S) G H := by
  intro ad ws Hr locs ls stk a1 a2 a3 hW hP hD hS hL hst
  obtain ⟨hx, hb, hml, hown, hts, hin, hK, hA⟩ := C
  obtain ⟨x, u, rfl, rfl, hst0⟩ := zSi hst
  obtain ⟨u, rfl, -, hst1⟩ := zSx hst0
  obtain ⟨xs, o1, o2, o3, o4, o5⟩ := hO _ ho
  have hlt : x.toNatClampNeg < n := by rw [zclamp]; omega
  exact va_sld hx hb o1 o2 o3 hS (zvpin h0 h1) hd (K ad ws Hr locs ls _ a1 a2 a3 hW hP hD hS hL (zPi (by rw [o5 _ hlt, zix h0]) hst1))
theorem zs_slen (C : zCx p s m args meth c D cs A q) {o : Option (Nat × (Int → Int))} (hO : zSc s A b o) {n : Nat} {f : Int → Int} (ho : o = some (n, f)) (hd : decode q.2.2.1 pc = .ok (.arraylength, 1)) (K : zGo p l e R s m args below meth c Q D cs A b n0 s0 ad0 q (pc + 1) L (vi (n : Int) :: S) G H) : zGo p l e R s m args below meth c Q D cs A b n0 s0 ad0 q pc L (.inr (.inr (.inr 1)) :: S) G H := by
  intro ad ws Hr locs ls stk a1 a2 a3 hW hP hD hS hL hst
  obtain ⟨hx, hb, hml, hown, hts, hin, hK, hA⟩ := C
  obtain ⟨u, rfl, -, hst1⟩ := zSx hst
  obtain ⟨xs, o1, o2, o3, o4, o5⟩ := hO _ ho
  exact va_slen hx hb o1 o2 o3 hS hd (K ad ws Hr locs ls _ a1 a2 a3 hW hP hD hS hL (zPi (nI_toInt o4) hst1))
theorem zs_iast (C : zCx p s m args meth c D cs A q) {a : Nat} {i v : Int} (hd : decode q.2.2.1 pc = .ok (.iastore, 1)) (ha : a < G.1) (ht : (G.2.2.1 a).1 = 100) (h0 : 0 ≤ i) (h1 : i < ((G.2.2.1 a).2 : Int)) (K : zGo p l e R s m args below meth c Q D cs A b n0 s0 ad0 q (pc + 1) L S G (zup H a i v)) : zGo p l e R s m args below meth c Q D cs A b n0 s0 ad0 q pc L (.inl v :: .inl i :: .inr (.inr (.inl a)) :: S) G H := by
  intro ad ws Hr locs ls stk a1 a2 a3 hW hP hD hS hL hst
  obtain ⟨hx, hb, hml, hown, hts, hin, hK, hA⟩ := C
  obtain ⟨y, u, rfl, hy, hst2⟩ := zSi hst
  obtain ⟨x, u, rfl, hxi, hst0⟩ := zSi hst2
  obtain ⟨u, rfl, -, hst1⟩ := zSr hst0
  obtain ⟨f, g1, g2⟩ := zWR_int hW ha ht
  subst hxi
  refine va_iast (D := D) (tys := ztys cs) hx hb hK.1 hP hD hS a 0 g1 rfl (zvpin h0 h1) hd (fun H1 locs1 hP1 hD1 hS1 => ?_)
  refine K ad _ H1 locs1 ls _ a1 a2 a3 (zWR_set hW ha rfl (fun _ _ => rfl) (fun _ _ => rfl) (fun k' hk' => zset_ne hk') ?_) hP1 hD1 hS1 hL hst1
  refine Or.inr (Or.inl ⟨ht, _, rfl, fun j hj => ?_⟩)
  rw [zup, zset_eq, zfu]
  unfold upd
  by_cases e1 : j = x.toNatClampNeg
  · rw [if_pos e1, if_pos (by rw [e1, zix h0])]
    exact hy
  · rw [if_neg e1, if_neg (fun z => e1 (by rw [zclamp]; omega))]
    exact g2 j hj
theorem zs_bast (C : zCx p s m args meth c D cs A q) {a : Nat} {i v : Int} (hd : decode q.2.2.1 pc = .ok (.bastore, 1)) (ha : a < G.1) (ht : (G.2.2.1 a).1 = 101) (h0 : 0 ≤ i) (h1 : i < ((G.2.2.1 a).2 : Int)) (hv : v = 0 ∨ v = 1) (K : zGo p l e R s m args below meth c Q D cs A b n0 s0 ad0 q (pc + 1) L S G (zup H a i v)) : zGo p l e R s m args below meth c Q D cs A b n0 s0 ad0 q pc L (.inl v :: .inl i :: .inr (.inr (.inl a)) :: S) G H := by
  intro ad ws Hr locs ls stk a1 a2 a3 hW hP hD hS hL hst
  obtain ⟨hx, hb, hml, hown, hts, hin, hK, hA⟩ := C
  obtain ⟨y, u, rfl, hy, hst2⟩ := zSi hst
  obtain ⟨x, u, rfl, hxi, hst0⟩ := zSi hst2
  obtain ⟨u, rfl, -, hst1⟩ := zSr hst0
  obtain ⟨f, g1, g2⟩ := zWR_boo hW ha ht
  subst hxi
  refine va_zast (D := D) (tys := ztys cs) hx hb hK.1 hP hD hS a 1 g1 rfl (zvpin h0 h1) hd (fun H1 locs1 hP1 hD1 hS1 => ?_)
  refine K ad _ H1 locs1 ls _ a1 a2 a3 (zWR_set hW ha rfl (fun _ _ => rfl) (fun _ _ => rfl) (fun k' hk' => zset_ne hk') ?_) hP1 hD1 hS1 hL hst1
  refine Or.inr (Or.inr (Or.inl ⟨ht, _, rfl, fun j hj => ?_⟩))
  have hn : (vp_nar .boolean y).toInt = v := by
    have e0 : y = Int32.ofInt v := (zof32 hy).symm
    rcases hv with rfl | rfl <;> (rw [e0]; decide)
  rw [zup, zset_eq, zfu]
  unfold upd
  by_cases e1 : j = x.toNatClampNeg
  · rw [if_pos e1, if_pos (by rw [e1, zix h0])]
    exact hn
  · rw [if_neg e1, if_neg (fun z => e1 (by rw [zclamp]; omega))]
    exact g2 j hj
theorem zs_aald (C : zCx p s m args meth c D cs A q) {a : Nat} {i : Int} (hd : decode q.2.2.1 pc = .ok (.aaload, 1)) (ha : a < G.1) (ht : (G.2.2.1 a).1 = 102 ∨ (G.2.2.1 a).1 = 103) (h0 : 0 ≤ i) (h1 : i < ((G.2.2.1 a).2 : Int)) (hlt : G.2.2.2 a i < G.1) (K : zGo p l e R s m args below meth c Q D cs A b n0 s0 ad0 q (pc + 1) L (vr (G.2.2.2 a i) :: S) G H) : zGo p l e R s m args below meth c Q D cs A b n0 s0 ad0 q pc L (.inl i :: .inr (.inr (.inl a)) :: S) G H := by
  intro ad ws Hr locs ls stk a1 a2 a3 hW hP hD hS hL hst
  obtain ⟨hx, hb, hml, hown, hts, hin, hK, hA⟩ := C
  obtain ⟨x, u, rfl, rfl, hst0⟩ := zSi hst
  obtain ⟨u, rfl, -, hst1⟩ := zSr hst0
  have hl : x.toNatClampNeg < (G.2.2.1 a).2 := by rw [zclamp]; omega
  have hnul := hW.2.1
  rcases ht with ht | ht
  · obtain ⟨f, g1, g2⟩ := zWR_bks hW ha ht
    have g3 := g2 _ hl
    rw [zix h0] at g3
    rcases g3 with ⟨b1, b2⟩ | ⟨b1, -⟩
    · refine va_aldq (D := D) (tys := ztys cs) hx hb hK.1 hP a 2 g1 rfl (zvpin h0 h1) hd ?_
      rw [b2]
      exact K ad ws Hr locs ls _ a1 a2 a3 hW hP hD hS hL (zPr b1 hst1)
    · omega
  · obtain ⟨f, g1, g2⟩ := zWR_row hW ha ht
    have g3 := g2 _ hl
    rw [zix h0] at g3
    rcases g3 with ⟨b1, b2⟩ | ⟨b1, -⟩
    · refine W.aald (v := va_rf (f x.toNatClampNeg)) (ty := .array .int) hx hb (hP a _ g1) ((hK.1.2 3 _ rfl).1 (G.2.2.1 a).2 (fun j => va_rf (f j))) rfl (fun z => by cases z) (by show ¬ (x < 0 ∨ (arrV _ _ _).slots.size ≤ _); rw [arrV_size]; exact zvpin h0 h1) (by show (arrV _ _ _).slots[_]? = _; rw [arrV_read _ _ hl]) rfl rfl hd ?_
      rw [b2]
      exact K ad ws Hr locs ls _ a1 a2 a3 hW hP hD hS hL (zPr b1 hst1)
    · omega
theorem zs_aast (C : zCx p s m args meth c D cs A q) {a y : Nat} {i : Int} (hd : decode q.2.2.1 pc = .ok (.aastore, 1)) (ha : a < G.1) (ht : (G.2.2.1 a).1 = 102) (h0 : 0 ≤ i) (h1 : i < ((G.2.2.1 a).2 : Int)) (hy : y < G.1) (hyt : (G.2.2.1 y).1 = 0) (K : zGo p l e R s m args below meth c Q D cs A b n0 s0 ad0 q (pc + 1) L S (G.1, G.2.1, G.2.2.1, zrset G.2.2.2 a (zru (G.2.2.2 a) i y)) H) : zGo p l e R s m args below meth c Q D cs A b n0 s0 ad0 q pc L (.inr (.inr (.inl y)) :: .inl i :: .inr (.inr (.inl a)) :: S) G H := by
  intro ad ws Hr locs ls stk a1 a2 a3 hW hP hD hS hL hst
  obtain ⟨hx, hb, hml, hown, hts, hin, hK, hA⟩ := C
  obtain ⟨u, rfl, -, hst2⟩ := zSr hst
  obtain ⟨x, u, rfl, hxi, hst0⟩ := zSi hst2
  obtain ⟨u, rfl, -, hst1⟩ := zSr hst0
  obtain ⟨f, g1, g2⟩ := zWR_bks hW ha ht
  obtain ⟨fs, k1, -⟩ := zWR_obj hW hy hyt (by omega)
  subst hxi
  refine va_astq (D := D) (tys := ztys cs) hx hb hK.1 hP hD hS a 2 y 0 (r := (RX0, TX0, 11)) g1 rfl k1 rfl (zvpin h0 h1) hd (fun H1 locs1 hP1 hD1 hS1 => ?_)
  refine K ad _ H1 locs1 ls _ a1 a2 a3 (zWR_set hW ha rfl (fun _ _ => rfl) (fun k' hk' => zrset_ne hk') (fun _ _ => rfl) ?_) hP1 hD1 hS1 hL hst1
  refine Or.inr (Or.inr (Or.inr (Or.inl ⟨ht, _, rfl, fun j hj => ?_⟩)))
  show zRV G.1 ad (zrset G.2.2.2 a (zru (G.2.2.2 a) x.toInt y) a j) _
  rw [zrset_eq, zru]
  unfold va_up
  by_cases e1 : j = x.toNatClampNeg
  · rw [if_pos e1, if_pos (by rw [e1, zix h0])]
    exact Or.inl ⟨hy, rfl⟩
  · rw [if_neg e1, if_neg (fun z => e1 (by rw [zclamp]; omega))]
    exact g2 j hj
theorem zs_alen (C : zCx p s m args meth c D cs A q) {a : Nat} (hd : decode q.2.2.1 pc = .ok (.arraylength, 1)) (ha : a < G.1) (h1 : 100 ≤ (G.2.2.1 a).1) (h2 : (G.2.2.1 a).1 ≤ 103) (hs : (G.2.2.1 a).2 < 2 ^ 31) (K : zGo p l e R s m args below meth c Q D cs A b n0 s0 ad0 q (pc + 1) L (vi ((G.2.2.1 a).2 : Int) :: S) G H) : zGo p l e R s m args below meth c Q D cs A b n0 s0 ad0 q pc L (.inr (.inr (.inl a)) :: S) G H := by
  intro ad ws Hr locs ls stk a1 a2 a3 hW hP hD hS hL hst
  obtain ⟨hx, hb, hml, hown, hts, hin, hK, hA⟩ := C
  obtain ⟨u, rfl, -, hst1⟩ := zSr hst
  have KK := K ad ws Hr locs ls _ a1 a2 a3 hW hP hD hS hL (zPi (nI_toInt hs) hst1)
  rcases (show (G.2.2.1 a).1 = 100 ∨ (G.2.2.1 a).1 = 101 ∨ (G.2.2.1 a).1 = 102 ∨ (G.2.2.1 a).1 = 103 by omega) with ht | ht | ht | ht
  · obtain ⟨f, g1, -⟩ := zWR_int hW ha ht
    exact va_alen (D := D) (tys := ztys cs) hx hb hK.1 hP a 0 g1 rfl rfl hd KK
  · obtain ⟨f, g1, -⟩ := zWR_boo hW ha ht
    exact va_alen (D := D) (tys := ztys cs) hx hb hK.1 hP a 1 g1 rfl rfl hd KK
  · obtain ⟨f, g1, -⟩ := zWR_bks hW ha ht
    exact va_alen (D := D) (tys := ztys cs) hx hb hK.1 hP a 2 g1 rfl rfl hd KK
  · obtain ⟨f, g1, -⟩ := zWR_row hW ha ht
    exact va_alen (D := D) (tys := ztys cs) hx hb hK.1 hP a 3 g1 rfl rfl hd KK
end ZHP
end
section
/-! new cells; the machine's own methods -/
theorem zWR_push {cs : zCs} {G : zG} {H : zH} {ad : Nat → Nat} {ws : va_W} {t n a : Nat} {e : va_E} (hW : zWR cs G H ad ws) (hn : G.1 < znul) (he : zCR cs (fun k => if k = G.1 then a else ad k) (znew G t n) (zset H G.1 (fun _ => 0)) G.1 e) : zWR cs (znew G t n) (zset H G.1 (fun _ => 0)) (fun k => if k = G.1 then a else ad k) (ws ++ [(a, e)]) := by
  obtain ⟨w1, w2, w3⟩ := hW
  refine ⟨by rw [List.length_append, w1]; rfl, hn, fun k hk => ?_⟩
  have hk : k < G.1 + 1 := hk
  by_cases e1 : k = G.1
  · subst e1
    refine ⟨e, ?_, he⟩
    rw [List.getElem?_append_right (by omega), w1]
    simp
  · have hk2 : k < G.1 := by omega
    obtain ⟨e', g1, g2⟩ := w3 k hk2
    refine ⟨e', ?_, ?_⟩
    · rw [List.getElem?_append_left (by omega), g1]
      simp [e1]
    · exact zCR_mono (Nat.le_succ G.1) (fun j hj => if_neg (by omega)) (zsh_ne e1) (zrset_ne e1) (zset_ne e1) g2
theorem zadk {G : zG} {ad ad0 : Nat → Nat} {n0 a : Nat} (a1 : ∀ k, k < n0 → ad k = ad0 k) (a2 : n0 ≤ G.1) : ∀ k, k < n0 → (fun k => if k = G.1 then a else ad k) k = ad0 k := fun k hk => by
  show (if k = G.1 then a else ad k) = ad0 k
  rw [if_neg (by omega)]
  exact a1 k hk
theorem zcat_le {n : Nat} {ad : Nat → Nat} {b : Nat} : ∀ {S : List zV} {t : List Value}, zSR n ad b S t → (t.map fun v => v.category).sum ≤ 2 * S.length
  | [], t, h => by rw [h]; simp
  | v :: S, t, ⟨x, t', e, hv, hS⟩ => by
    have ih := zcat_le hS
    rw [e]
    simp only [List.map_cons, List.sum_cons, List.length_cons]
    rcases lv_cat x with h | h <;> omega
theorem znews_n (G : zG) (H : zH) (k : Nat) : ∀ n, (znews G H k n).1.1 = G.1 + n ∧ (znews G H k n).1.2.1 = G.2.1 + n * k
  | 0 => ⟨rfl, by simp [znews]⟩
  | n + 1 => by
    obtain ⟨h1, h2⟩ := znews_n G H k n
    refine ⟨?_, ?_⟩
    · show (znews G H k n).1.1 + 1 = _
      rw [h1]
      omega
    · show (znews G H k n).1.2.1 + k = _
      rw [h2, Nat.succ_mul]
      omega
theorem znews_s (G : zG) (H : zH) (k : Nat) : ∀ (n j : Nat), (znews G H k n).1.2.2.1 j = (if G.1 ≤ j ∧ j < G.1 + n then (100, k) else G.2.2.1 j) ∧ (znews G H k n).1.2.2.2 j = (if G.1 ≤ j ∧ j < G.1 + n then (fun _ => znul) else G.2.2.2 j) ∧ (znews G H k n).2 j = (if G.1 ≤ j ∧ j < G.1 + n then (fun _ => 0) else H j)
  | 0, j => by
    rw [if_neg (by omega), if_neg (by omega), if_neg (by omega)]
    exact ⟨rfl, rfl, rfl⟩
  | n + 1, j => by
    obtain ⟨h1, h2, h3⟩ := znews_s G H k n j
    have hn := (znews_n G H k n).1
    show zsh (znews G H k n).1.2.2.1 (znews G H k n).1.1 (100, k) j = _ ∧ zrset (znews G H k n).1.2.2.2 (znews G H k n).1.1 (fun _ => znul) j = _ ∧ zset (znews G H k n).2 (znews G H k n).1.1 (fun _ => 0) j = _
    rw [hn]
    by_cases e1 : j = G.1 + n
    · subst e1
      rw [zsh_eq, zrset_eq, zset_eq, if_pos (by omega), if_pos (by omega), if_pos (by omega)]
      exact ⟨rfl, rfl, rfl⟩
    · rw [zsh_ne e1, zrset_ne e1, zset_ne e1, h1, h2, h3]
      by_cases e2 : G.1 ≤ j ∧ j < G.1 + n
      · rw [if_pos e2, if_pos e2, if_pos e2, if_pos (by omega), if_pos (by omega), if_pos (by omega)]
        exact ⟨rfl, rfl, rfl⟩
      · rw [if_neg e2, if_neg e2, if_neg e2, if_neg (by omega), if_neg (by omega), if_neg (by omega)]
        exact ⟨rfl, rfl, rfl⟩
section ZAL
variable {p : Program} {l : Launch} {e : Env} {R : Room} {s : State} {m : MethodId} {args : Array Value} {below : List Frame} {meth : Method} {c : Code} {Q : State → Prop} {D : va_G} {cs : zCs} {A : Nat → Prop} {b n0 s0 : Nat} {ad0 : Nat → Nat} {q : zM} {pc : Nat} {L S : List zV} {G : zG} {H : zH}
theorem zs_new (C : zCx p s m args meth c D cs A q) {i t : Nat} (hd : decode q.2.2.1 pc = .ok (.new i, 3)) (hi : zct q.1 i = some t) (h10 : t < 10) (hn : G.1 < znul) (r1 : G.1 + 1 - n0 ≤ R.cells) (r2 : G.2.1 + zNN t - s0 ≤ R.slots) (K : zGo p l e R s m args below meth c Q D cs A b n0 s0 ad0 q (pc + 3) L (vr G.1 :: S) (znew G t (zNN t)) (zset H G.1 (fun _ => 0))) : zGo p l e R s m args below meth c Q D cs A b n0 s0 ad0 q pc L S G H := by
  intro ad ws Hr locs ls stk a1 a2 a3 hW hP hD hS hL hst
  obtain ⟨hx, hb, hml, hown, hts, hin, hK, hA⟩ := C
  have e1 : G.1 + 1 - n0 = (G.1 - n0) + 1 := by omega
  have e2 : G.2.1 + zNN t - s0 = (G.2.1 - s0) + zNN t := by omega
  refine va_new (ci := t) (fs := (List.range (zNN t)).map (fun j => defaultValue (zty t j))) (C := zcn t) (T := zT t) (N := zNN t) (own := zcn q.1) hx hb hts (zk_in2 h10) (zty t) (zk_pd h10) hown (hts _ (zTB_of ((zct_ok hi).1 h10) rfl)) (hts _ (zk_mk h10).1) (hts _ (zk_mk h10).2) hK.1 hP hD hS hA (zk_cl h10) (fun j hj => by simp [vp_V, hj]) (by omega) (by omega) hd (fun a H1 hP1 hD1 hS1 => ?_)
  have hm : ∀ k, k < G.1 → (fun k => if k = G.1 then a else ad k) k = ad k := fun k hk => if_neg (by omega)
  have KK := K (fun k => if k = G.1 then a else ad k) _ H1 locs ls (.ref a :: stk) (zadk a1 a2) (by show n0 ≤ G.1 + 1; omega) (by show s0 ≤ G.2.1 + zNN t; omega) (zWR_push hW hn (e := .inr (t, (List.range (zNN t)).map (fun j => defaultValue (zty t j)))) ?_) hP1 hD1 hS1 (zLR_mono (Nat.le_succ _) hm hL) ⟨_, _, rfl, ⟨Nat.lt_succ_self _, by simp⟩, zSR_mono (Nat.le_succ _) hm hst⟩
  · have KK2 : W p l e R s m args below meth c H1 locs (G.1 + 1 - n0) (G.2.1 + zNN t - s0) Q (F0 m (pc + 3) ls (.ref a :: stk)) := KK
    rw [e1, e2] at KK2
    exact KK2
  · have hsh : (znew G t (zNN t)).2.2.1 G.1 = (t, zNN t) := zsh_eq
    refine Or.inl ⟨by rw [hsh]; exact h10, by rw [hsh], _, by rw [hsh], by rw [hsh]; simp, fun j v hj => ?_⟩
    rw [hsh]
    have hjl : j < zNN t := by
      have := (List.getElem?_eq_some_iff.mp hj).1
      simpa using this
    rw [List.getElem?_map, List.getElem?_range hjl] at hj
    cases hj
    cases hrf : zrf t j with
    | true =>
      have hr := (zk_ty h10 j hjl).1 hrf
      refine Or.inl ⟨hrf, Or.inr ⟨?_, ?_⟩⟩
      · show zrset G.2.2.2 G.1 (fun _ => znul) G.1 j = znul
        rw [zrset_eq]
      · show defaultValue (zty t j) = Value.null
        cases hz : zty t j <;> first | rfl | (rw [hz] at hr; simp [zisr] at hr)
    | false =>
      have hr := (zk_ty h10 j hjl).2 hrf
      refine Or.inr ⟨hrf, 0, by show defaultValue (zty t j) = Value.int 0; rw [hr]; rfl, ?_⟩
      rw [zset_eq]
      rfl
theorem zs_newi (C : zCx p s m args meth c D cs A q) {n : Int} (hd : decode q.2.2.1 pc = .ok (.newarray .int, 2)) (h0 : 0 ≤ n) (h1 : n ≤ 10000) (hn : G.1 < znul) (r1 : G.1 + 1 - n0 ≤ R.cells) (r2 : G.2.1 + n.toNat - s0 ≤ R.slots) (K : zGo p l e R s m args below meth c Q D cs A b n0 s0 ad0 q (pc + 2) L (vr G.1 :: S) (znew G 100 n.toNat) (zset H G.1 (fun _ => 0))) : zGo p l e R s m args below meth c Q D cs A b n0 s0 ad0 q pc L (.inl n :: S) G H := by
  intro ad ws Hr locs ls stk a1 a2 a3 hW hP hD hS hL hst
  obtain ⟨hx, hb, hml, hown, hts, hin, hK, hA⟩ := C
  obtain ⟨x, u, rfl, rfl, hst1⟩ := zSi hst
  have e1 : G.1 + 1 - n0 = (G.1 - n0) + 1 := by omega
  have e2 : G.2.1 + x.toInt.toNat - s0 = (G.2.1 - s0) + x.toInt.toNat := by omega
  have hx0 : ¬ x < 0 := fun z => by
    have := Int32.lt_iff_toInt_lt.mp z
    have z0 : (0 : Int32).toInt = 0 := rfl
    omega
  refine va_newa (atype := .int) (ty := .int) (a0 := (x.toInt.toNat, .inl (fun _ => 0))) hx hb (hts _ zb_arr.1) rfl hK.1 hP hD hS hA (fun cA => rfl) hx0 (zclamp x) (by show x.toInt.toNat * 4 ≤ 536870912; omega) (by omega) (by omega) hd (fun a cA H1 hK1 hP1 hD1 hS1 => ?_)
  have hcA : cA = cs.1 := by
    have k1 : s.vm.findClass ("[" ++ (FieldType.int).toString) = some cs.1 := (hK.1.2 0 _ rfl).2
    have k2 : s.vm.findClass ("[" ++ (FieldType.int).toString) = some cA := (hK1.2 4 _ rfl).2
    exact Option.some.inj (k2.symm.trans k1)
  subst hcA
  have hm : ∀ k, k < G.1 → (fun k => if k = G.1 then a else ad k) k = ad k := fun k hk => if_neg (by omega)
  have KK := K (fun k => if k = G.1 then a else ad k) _ H1 locs ls (.ref a :: u) (zadk a1 a2) (by show n0 ≤ G.1 + 1; omega) (by show s0 ≤ G.2.1 + x.toInt.toNat; omega) (zWR_push hW hn (e := .inl (cs.1, x.toInt.toNat, .inl (fun _ => 0))) ?_) hP1 hD1 hS1 (zLR_mono (Nat.le_succ _) hm hL) ⟨_, _, rfl, ⟨Nat.lt_succ_self _, by simp⟩, zSR_mono (Nat.le_succ _) hm hst1⟩
  · have KK2 : W p l e R s m args below meth c H1 locs (G.1 + 1 - n0) (G.2.1 + x.toInt.toNat - s0) Q (F0 m (pc + 2) ls (.ref a :: u)) := KK
    rw [e1, e2] at KK2
    exact KK2
  · have hsh : (znew G 100 x.toInt.toNat).2.2.1 G.1 = (100, x.toInt.toNat) := zsh_eq
    refine Or.inr (Or.inl ⟨by rw [hsh], (fun _ => 0), by rw [hsh], fun j hj => ?_⟩)
    rw [zset_eq]
    rfl
theorem zs_newz (C : zCx p s m args meth c D cs A q) {n : Int} (hd : decode q.2.2.1 pc = .ok (.newarray .boolean, 2)) (h0 : 0 ≤ n) (h1 : n ≤ 10000) (hn : G.1 < znul) (r1 : G.1 + 1 - n0 ≤ R.cells) (r2 : G.2.1 + n.toNat - s0 ≤ R.slots) (K : zGo p l e R s m args below meth c Q D cs A b n0 s0 ad0 q (pc + 2) L (vr G.1 :: S) (znew G 101 n.toNat) (zset H G.1 (fun _ => 0))) : zGo p l e R s m args below meth c Q D cs A b n0 s0 ad0 q pc L (.inl n :: S) G H := by
  intro ad ws Hr locs ls stk a1 a2 a3 hW hP hD hS hL hst
  obtain ⟨hx, hb, hml, hown, hts, hin, hK, hA⟩ := C
  obtain ⟨x, u, rfl, rfl, hst1⟩ := zSi hst
  have e1 : G.1 + 1 - n0 = (G.1 - n0) + 1 := by omega
  have e2 : G.2.1 + x.toInt.toNat - s0 = (G.2.1 - s0) + x.toInt.toNat := by omega
  have hx0 : ¬ x < 0 := fun z => by
    have := Int32.lt_iff_toInt_lt.mp z
    have z0 : (0 : Int32).toInt = 0 := rfl
    omega
  refine va_newa (atype := .boolean) (ty := .boolean) (a0 := (x.toInt.toNat, .inl (fun _ => 0))) hx hb (hts _ zb_arr.2) rfl hK.1 hP hD hS hA (fun cA => rfl) hx0 (zclamp x) (by show x.toInt.toNat * 1 ≤ 536870912; omega) (by omega) (by omega) hd (fun a cA H1 hK1 hP1 hD1 hS1 => ?_)
  have hcA : cA = cs.2.1 := by
    have k1 : s.vm.findClass ("[" ++ (FieldType.boolean).toString) = some cs.2.1 := (hK.1.2 1 _ rfl).2
    have k2 : s.vm.findClass ("[" ++ (FieldType.boolean).toString) = some cA := (hK1.2 4 _ rfl).2
    exact Option.some.inj (k2.symm.trans k1)
  subst hcA
  have hm : ∀ k, k < G.1 → (fun k => if k = G.1 then a else ad k) k = ad k := fun k hk => if_neg (by omega)
  have KK := K (fun k => if k = G.1 then a else ad k) _ H1 locs ls (.ref a :: u) (zadk a1 a2) (by show n0 ≤ G.1 + 1; omega) (by show s0 ≤ G.2.1 + x.toInt.toNat; omega) (zWR_push hW hn (e := .inl (cs.2.1, x.toInt.toNat, .inl (fun _ => 0))) ?_) hP1 hD1 hS1 (zLR_mono (Nat.le_succ _) hm hL) ⟨_, _, rfl, ⟨Nat.lt_succ_self _, by simp⟩, zSR_mono (Nat.le_succ _) hm hst1⟩
  · have KK2 : W p l e R s m args below meth c H1 locs (G.1 + 1 - n0) (G.2.1 + x.toInt.toNat - s0) Q (F0 m (pc + 2) ls (.ref a :: u)) := KK
    rw [e1, e2] at KK2
    exact KK2
  · have hsh : (znew G 101 x.toInt.toNat).2.2.1 G.1 = (101, x.toInt.toNat) := zsh_eq
    refine Or.inr (Or.inr (Or.inl ⟨by rw [hsh], (fun _ => 0), by rw [hsh], fun j hj => ?_⟩))
    rw [zset_eq]
    rfl
theorem zs_newb (C : zCx p s m args meth c D cs A q) {i : Nat} {n : Int} (hd : decode q.2.2.1 pc = .ok (.anewarray i, 3)) (hi : zct q.1 i = some 0) (h0 : 0 ≤ n) (h1 : n ≤ 10000) (hn : G.1 < znul) (r1 : G.1 + 1 - n0 ≤ R.cells) (r2 : G.2.1 + n.toNat - s0 ≤ R.slots) (K : zGo p l e R s m args below meth c Q D cs A b n0 s0 ad0 q (pc + 3) L (vr G.1 :: S) (znew G 102 n.toNat) (zset H G.1 (fun _ => 0))) : zGo p l e R s m args below meth c Q D cs A b n0 s0 ad0 q pc L (.inl n :: S) G H := by
  intro ad ws Hr locs ls stk a1 a2 a3 hW hP hD hS hL hst
  obtain ⟨hx, hb, hml, hown, hts, hin, hK, hA⟩ := C
  obtain ⟨x, u, rfl, rfl, hst1⟩ := zSi hst
  have e1 : G.1 + 1 - n0 = (G.1 - n0) + 1 := by omega
  have e2 : G.2.1 + x.toInt.toNat - s0 = (G.2.1 - s0) + x.toInt.toNat := by omega
  have hx0 : ¬ x < 0 := fun z => by
    have := Int32.lt_iff_toInt_lt.mp z
    have z0 : (0 : Int32).toInt = 0 := rfl
    omega
  refine va_newq (C := RX0) (own := zcn q.1) hx hb hown (hts _ (zTB_of ((zct_ok hi).1 (by show 0 < 10; omega)) rfl)) hK.2.2.1 hK.1 hP hD hS hA hx0 (zclamp x) (by omega) (by omega) (by omega) hd (fun a cA H1 hK1 hP1 hD1 hS1 => ?_)
  have hcA : cA = cs.2.2.1 := by
    obtain ⟨_, _, -, -, -, k1⟩ := (hK.1.2 2 _ rfl).2
    obtain ⟨_, _, -, -, -, k2⟩ := (hK1.2 4 _ rfl).2
    exact Option.some.inj (k2.symm.trans k1)
  subst hcA
  have hm : ∀ k, k < G.1 → (fun k => if k = G.1 then a else ad k) k = ad k := fun k hk => if_neg (by omega)
  have KK := K (fun k => if k = G.1 then a else ad k) _ H1 locs ls (.ref a :: u) (zadk a1 a2) (by show n0 ≤ G.1 + 1; omega) (by show s0 ≤ G.2.1 + x.toInt.toNat; omega) (zWR_push hW hn (e := .inl (cs.2.2.1, x.toInt.toNat, .inr (.inr (.inr (.inr (fun _ => none)))))) ?_) hP1 hD1 hS1 (zLR_mono (Nat.le_succ _) hm hL) ⟨_, _, rfl, ⟨Nat.lt_succ_self _, by simp⟩, zSR_mono (Nat.le_succ _) hm hst1⟩
  · have KK2 : W p l e R s m args below meth c H1 locs (G.1 + 1 - n0) (G.2.1 + x.toInt.toNat - s0) Q (F0 m (pc + 3) ls (.ref a :: u)) := KK
    rw [e1, e2] at KK2
    exact KK2
  · have hsh : (znew G 102 x.toInt.toNat).2.2.1 G.1 = (102, x.toInt.toNat) := zsh_eq
    refine Or.inr (Or.inr (Or.inr (Or.inl ⟨by rw [hsh], (fun _ => none), by rw [hsh], fun j hj => Or.inr ⟨?_, rfl⟩⟩)))
    show zrset G.2.2.2 G.1 (fun _ => znul) G.1 j = znul
    rw [zrset_eq]
theorem zs_max (C : zCx p s m args meth c D cs A q) {i : Nat} {x y : Int} {d : Nat} (h1d : 1 ≤ d) (hR : d ≤ R.frames ∧ 60 * d ≤ R.locals) (r1 : G.1 - n0 ≤ R.cells) (r2 : G.2.1 - s0 ≤ R.slots) (hd : decode q.2.2.1 pc = .ok (.invokestatic i, 3)) (hi : zbt q.1 i = some 0) (hl : S.length ≤ 4) (K : zGo p l e R s m args below meth c Q D cs A b n0 s0 ad0 q (pc + 3) L (vi (if x < y then y else x) :: S) G H) : zGo p l e R s m args below meth c Q D cs A b n0 s0 ad0 q pc L (.inl y :: .inl x :: S) G H := by
  intro ad ws Hr locs ls stk a1 a2 a3 hW hP hD hS hL hst
  obtain ⟨hx, hb, hml, hown, hts, hin, hK, hA⟩ := C
  obtain ⟨y', u, rfl, rfl, hst0⟩ := zSi hst
  obtain ⟨x', u, rfl, rfl, hst1⟩ := zSi hst0
  have hc := zcat_le hst1
  have hsz : c.maxLocals = ls.size := by rw [hml]; exact hL.2.choose_spec.1.1.symm
  refine va_mmax (own := zcn q.1) hx hb hsz hown (hts _ (zTB_of ((zbt_ok hi).1 rfl) rfl)) (hts _ zb_max.1) (hts _ zb_max.2.1) (hts _ zb_max.2.2) (by omega) (by omega) r1 r2 hd ?_
  refine K ad ws Hr locs ls _ a1 a2 a3 hW hP hD hS hL (zPi ?_ hst1)
  by_cases h : x' < y'
  · rw [if_pos h, if_pos (Int32.lt_iff_toInt_lt.mp h)]
  · rw [if_neg h, if_neg (fun z => h (Int32.lt_iff_toInt_lt.mpr z))]
theorem zs_min (C : zCx p s m args meth c D cs A q) {i : Nat} {x y : Int} {d : Nat} (h1d : 1 ≤ d) (hR : d ≤ R.frames ∧ 60 * d ≤ R.locals) (r1 : G.1 - n0 ≤ R.cells) (r2 : G.2.1 - s0 ≤ R.slots) (hd : decode q.2.2.1 pc = .ok (.invokestatic i, 3)) (hi : zbt q.1 i = some 1) (hl : S.length ≤ 4) (K : zGo p l e R s m args below meth c Q D cs A b n0 s0 ad0 q (pc + 3) L (vi (if y < x then y else x) :: S) G H) : zGo p l e R s m args below meth c Q D cs A b n0 s0 ad0 q pc L (.inl y :: .inl x :: S) G H := by
  intro ad ws Hr locs ls stk a1 a2 a3 hW hP hD hS hL hst
  obtain ⟨hx, hb, hml, hown, hts, hin, hK, hA⟩ := C
  obtain ⟨y', u, rfl, rfl, hst0⟩ := zSi hst
  obtain ⟨x', u, rfl, rfl, hst1⟩ := zSi hst0
  have hc := zcat_le hst1
  have hsz : c.maxLocals = ls.size := by rw [hml]; exact hL.2.choose_spec.1.1.symm
  refine va_mmin (own := zcn q.1) hx hb hsz hown (hts _ (zTB_of ((zbt_ok hi).2.1 rfl) rfl)) (hts _ zb_min.1) (hts _ zb_max.2.1) (hts _ zb_min.2) (by omega) (by omega) r1 r2 hd ?_
  refine K ad ws Hr locs ls _ a1 a2 a3 hW hP hD hS hL (zPi ?_ hst1)
  by_cases h : y' < x'
  · rw [if_pos h, if_pos (Int32.lt_iff_toInt_lt.mp h)]
  · rw [if_neg h, if_neg (fun z => h (Int32.lt_iff_toInt_lt.mpr z))]
theorem zs_objinit (C : zCx p s m args meth c D cs A q) {i a : Nat} {d : Nat} (h1d : 1 ≤ d) (hR : d ≤ R.frames ∧ 60 * d ≤ R.locals) (hd : decode q.2.2.1 pc = .ok (.invokespecial i, 3)) (hi : zbt q.1 i = some 3) (hl : S.length ≤ 4) (K : zGo p l e R s m args below meth c Q D cs A b n0 s0 ad0 q (pc + 3) L S G H) : zGo p l e R s m args below meth c Q D cs A b n0 s0 ad0 q pc L (.inr (.inr (.inl a)) :: S) G H := by
  intro ad ws Hr locs ls stk a1 a2 a3 hW hP hD hS hL hst
  obtain ⟨hx, hb, hml, hown, hts, hin, hK, hA⟩ := C
  obtain ⟨u, rfl, -, hst1⟩ := zSr hst
  have hc := zcat_le hst1
  have hsz : ls.size = c.maxLocals := by rw [hml]; exact hL.2.choose_spec.1.1
  exact W.objInit (own := zcn q.1) hx hb hown (hts _ (zTB_of ((zbt_ok hi).2.2.2 rfl) rfl)) (hts _ zb_obj.1) (hts _ zb_obj.2) rfl hsz rfl hd (by omega) (by show 2 * 0 + _ + 12 ≤ _; omega) (K ad ws Hr locs ls _ a1 a2 a3 hW hP hD hS hL hst1)
theorem zs_copy (C : zCx p s m args meth c D cs A q) {i a a' : Nat} {sp dp n : Int} {d : Nat} (h1d : 1 ≤ d) (hR : d ≤ R.frames ∧ 60 * d ≤ R.locals) (hd : decode q.2.2.1 pc = .ok (.invokestatic i, 3)) (hi : zbt q.1 i = some 2) (hl : S.length ≤ 4) (ha : a < G.1) (ht : (G.2.2.1 a).1 = 100) (ha' : a' < G.1) (ht' : (G.2.2.1 a').1 = 100) (h1 : 0 ≤ sp) (h2 : 0 ≤ dp) (h3 : 0 ≤ n) (h4 : sp + n ≤ ((G.2.2.1 a).2 : Int)) (h5 : dp + n ≤ ((G.2.2.1 a').2 : Int))
    (K : zGo p l e R s m args below meth c Q D cs A b n0 s0 ad0 q (pc + 3) L S G (zset H a' (zcpy H a a' sp dp n))) : zGo p l e R s m args below meth c Q D cs A b n0 s0 ad0 q pc L (.inl n :: .inl dp :: .inr (.inr (.inl a')) :: .inl sp :: .inr (.inr (.inl a)) :: S) G H := by
  intro ad ws Hr locs ls stk a1 a2 a3 hW hP hD hS hL hst
  obtain ⟨hx, hb, hml, hown, hts, hin, hK, hA⟩ := C
  obtain ⟨n', u, rfl, hn', hst0⟩ := zSi hst
  obtain ⟨dp', u, rfl, hdp, hst1⟩ := zSi hst0
  obtain ⟨u, rfl, -, hst2⟩ := zSr hst1
  obtain ⟨sp', u, rfl, hsp, hst3⟩ := zSi hst2
  obtain ⟨u, rfl, -, hst4⟩ := zSr hst3
  have hc := zcat_le hst4
  have hsz : c.maxLocals = ls.size := by rw [hml]; exact hL.2.choose_spec.1.1.symm
  obtain ⟨f, g1, g2⟩ := zWR_int hW ha ht
  obtain ⟨f', g3, g4⟩ := zWR_int hW ha' ht'
  have nn : ∀ z : Int32, 0 ≤ z.toInt → ¬ z < 0 := fun z hz w => by
    have := Int32.lt_iff_toInt_lt.mp w
    have z0 : (0 : Int32).toInt = 0 := rfl
    omega
  subst hn'; subst hdp; subst hsp
  refine va_copyi (D := D) (tys := ztys cs) (own := zcn q.1) hx hb hsz hown (hts _ (zTB_of ((zbt_ok hi).2.2.1 rfl) rfl)) (hts _ zb_cpy.1) (hts _ zb_cpy.2.1) (hts _ zb_cpy.2.2) hK.1 hP hD hS a a' 0 0 g1 g3 rfl rfl rfl (nn _ h1) (nn _ h2) (nn _ h3) (by rw [zclamp, zclamp]; omega) (by rw [zclamp, zclamp]; omega) (fun _ _ => rfl) (by omega) (by show _ + (5 + 2 + 11) ≤ _; omega) hd (fun H1 locs1 hP1 hD1 hS1 => ?_)
  refine K ad _ H1 locs1 ls _ a1 a2 a3 (zWR_set hW ha' rfl (fun _ _ => rfl) (fun _ _ => rfl) (fun k' hk' => zset_ne hk') ?_) hP1 hD1 hS1 hL hst4
  refine Or.inr (Or.inl ⟨ht', _, rfl, fun j hj => ?_⟩)
  rw [zset_eq]
  unfold zcpy va_cpy
  rw [zclamp, zclamp, zclamp]
  by_cases e1 : dp'.toInt ≤ (j : Int) ∧ (j : Int) < dp'.toInt + n'.toInt
  · rw [if_pos e1, if_pos (by omega), g2 _ (by omega)]
    congr 1
    omega
  · rw [if_neg e1, if_neg (by omega)]
    exact g4 j hj
theorem zs_newm (C : zCx p s m args meth c D cs A q) {i : Nat} {n k : Int} (hd : decode q.2.2.1 pc = .ok (.multianewarray i 2, 4)) (hi : zct q.1 i = some 200) (h0 : 0 ≤ n) (h1 : n ≤ 100) (k0 : 0 ≤ k) (k1 : k ≤ 100) (hn : G.1 + n.toNat < znul) (r1 : G.1 + 1 + n.toNat - n0 ≤ R.cells) (r2 : G.2.1 + n.toNat + n.toNat * k.toNat - s0 ≤ R.slots) {G' : zG} {H' : zH} (g1 : G'.1 = G.1 + 1 + n.toNat) (g2 : G'.2.1 = G.2.1 + n.toNat + n.toNat * k.toNat)
    (g3 : ∀ j, G'.2.2.1 j = if j = G.1 then (103, n.toNat) else if G.1 + 1 ≤ j ∧ j < G.1 + 1 + n.toNat then (100, k.toNat) else G.2.2.1 j) (g4 : ∀ j, G'.2.2.2 j = if j = G.1 then (fun i => if 0 ≤ i ∧ i < n then G.1 + 1 + i.toNat else znul) else if G.1 + 1 ≤ j ∧ j < G.1 + 1 + n.toNat then (fun _ => znul) else G.2.2.2 j) (g5 : ∀ j, H' j = if G.1 ≤ j ∧ j < G.1 + 1 + n.toNat then (fun _ => 0) else H j)
    (K : zGo p l e R s m args below meth c Q D cs A b n0 s0 ad0 q (pc + 4) L (vr G.1 :: S) G' H') : zGo p l e R s m args below meth c Q D cs A b n0 s0 ad0 q pc L (.inl k :: .inl n :: S) G H := by
  intro ad ws Hr locs ls stk a1 a2 a3 hW hP hD hS hL hst
  obtain ⟨hx, hb, hml, hown, hts, hin, hK, hA⟩ := C
  obtain ⟨y, u, rfl, rfl, hst0⟩ := zSi hst
  obtain ⟨x, u, rfl, rfl, hst1⟩ := zSi hst0
  have nn : ∀ z : Int32, 0 ≤ z.toInt → ¬ z < 0 := fun z hz w => by
    have := Int32.lt_iff_toInt_lt.mp w
    have z0 : (0 : Int32).toInt = 0 := rfl
    omega
  have hNK : x.toInt.toNat * y.toInt.toNat ≤ 100 * 100 := Nat.mul_le_mul (by omega) (by omega)
  have hws : ws ++ va_pl [] (fun _ => (.inl (cs.1, 0, .inl (fun _ => 0)) : va_E)) = ws := by simp [va_pl]
  refine va_mna (own := zcn q.1) (X := ws) (L := []) (f := fun _ => .inl (cs.1, 0, .inl (fun _ => 0))) (ty := .int) (cy := cs.1) (z := (y.toInt.toNat, .inl (fun _ => 0))) hx hb hown (hts _ (zTB_of ((zct_ok hi).2 rfl) rfl)) hK.2.2.2 (hts _ zb_arr.1) ((hK.1.2 0 _ rfl).2) hK.1 (by rw [hws]; exact hP) (by rw [hws]; exact hD) hS hA (nn _ h0) (nn _ k0) (zclamp x) (zclamp y) (by omega) (by show y.toInt.toNat * 4 ≤ 536870912; omega) (by omega) rfl rfl (by omega) (by omega) (fun cA => ?_) hd (fun a r cA H1 r1' r2' hK1 hP1 hD1 hS1 => ?_)
  · rw [vp_cell_i, ← arrV_new]
    rfl
  have hcA : cA = cs.2.2.2 := by
    have k1 : s.vm.findClass ("[" ++ (FieldType.array .int).toString) = some cs.2.2.2 := (hK.1.2 3 _ rfl).2
    have k2 : s.vm.findClass ("[" ++ (FieldType.array .int).toString) = some cA := (hK1.2 4 _ rfl).2
    exact Option.some.inj (k2.symm.trans k1)
  subst hcA
  generalize hN : x.toInt.toNat = N at *
  generalize hM : y.toInt.toNat = M at *
  have hrow : va_pl ([] ++ (List.range N).map r) (vr_up (fun _ => .inl (cs.1, 0, .inl (fun _ => 0))) ((List.range N).map r) (.inl (cs.1, M, .inl (fun _ => 0)))) = (List.range N).map (fun j => (r j, (.inl (cs.1, M, .inl (fun _ => 0)) : va_E))) := by
    unfold va_pl
    rw [List.nil_append, List.map_map]
    apply List.map_congr_left
    intro j hj
    simp only [Function.comp]
    rw [vr_up_in (List.mem_map.mpr ⟨j, hj, rfl⟩)]
  rw [hrow] at hP1 hD1
  obtain ⟨w1, w2, w3⟩ := hW
  obtain ⟨adn, hm, hm1, hm2⟩ : ∃ adn : Nat → Nat, (∀ k, k < G.1 → adn k = ad k) ∧ adn G.1 = a ∧ ∀ k, G.1 < k → adn k = r (k - G.1 - 1) := ⟨fun k => if k < G.1 then ad k else if k = G.1 then a else r (k - G.1 - 1), fun k hk => if_pos hk, by show (if G.1 < G.1 then _ else if G.1 = G.1 then a else _) = a; rw [if_neg (by omega), if_pos rfl], fun k hk => by show (if k < G.1 then _ else if k = G.1 then a else _) = _; rw [if_neg (by omega), if_neg (by omega)]⟩
  have KK := K adn _ H1 locs ls (.ref a :: u) (fun k hk => by rw [hm k (by omega)]; exact a1 k hk) (by rw [g1]; omega) (by rw [g2]; omega) ?_ hP1 hD1 hS1 (zLR_mono (by rw [g1]; omega) hm hL) ⟨_, _, rfl, ⟨by rw [g1]; omega, by rw [hm1]⟩, zSR_mono (by rw [g1]; omega) hm hst1⟩
  · rw [g1, g2] at KK
    have e1 : G.1 + 1 + N - n0 = (G.1 - n0) + 1 + N := by omega
    have e2 : G.2.1 + N + N * M - s0 = (G.2.1 - s0) + N + N * M := by omega
    rw [e1, e2] at KK
    exact KK
  · refine ⟨?_, by rw [g1]; omega, fun j hj => ?_⟩
    · rw [g1]
      simp [w1]
      omega
    · rw [g1] at hj
      by_cases c1 : j < G.1
      · obtain ⟨e', b1, b2⟩ := w3 j c1
        refine ⟨e', ?_, ?_⟩
        · rw [List.getElem?_append_left (by simp [w1]; omega), List.getElem?_append_left (by omega), b1, hm j c1]
        · exact zCR_mono (by rw [g1]; omega) hm (by rw [g3, if_neg (by omega), if_neg (by omega)]) (by rw [g4, if_neg (by omega), if_neg (by omega)]) (by rw [g5, if_neg (by omega)]) b2
      · by_cases c2 : j = G.1
        · subst c2
          refine ⟨.inl (cs.2.2.2, N, .inr (.inr (.inr (.inr (fun i => if i < N then some (r i) else none))))), ?_, ?_⟩
          · rw [List.getElem?_append_left (by simp [w1]), List.getElem?_append_right (by omega), w1, hm1]
            simp
          · refine Or.inr (Or.inr (Or.inr (Or.inr ⟨by rw [g3, if_pos rfl], _, by rw [g3, if_pos rfl], fun i hi => ?_⟩)))
            rw [g3, if_pos rfl] at hi
            have hi : i < N := hi
            rw [g4, if_pos rfl, if_pos hi]
            have e0 : (if 0 ≤ (i : Int) ∧ (i : Int) < x.toInt then G.1 + 1 + (i : Int).toNat else znul) = G.1 + 1 + i := by
              rw [if_pos (by omega)]
              omega
            rw [e0]
            refine Or.inl ⟨by rw [g1]; omega, ?_⟩
            show Value.ref (r i) = _
            rw [hm2 _ (by omega)]
            congr 2
            omega
        · refine ⟨.inl (cs.1, M, .inl (fun _ => 0)), ?_, ?_⟩
          · rw [List.getElem?_append_right (by simp [w1]; omega), List.getElem?_map]
            have e3 : j - (ws ++ [(a, (.inl (cs.2.2.2, N, .inr (.inr (.inr (.inr (fun i => if i < N then some (r i) else none))))) : va_E))]).length = j - G.1 - 1 := by
              simp [w1]
              omega
            rw [e3, List.getElem?_range (by omega), hm2 j (by omega)]
            rfl
          · refine Or.inr (Or.inl ⟨by rw [g3, if_neg c2, if_pos (by omega)], (fun _ => 0), by rw [g3, if_neg c2, if_pos (by omega)], fun i hi => ?_⟩)
            rw [g5, if_pos (by omega)]
            rfl
end ZAL
end
section
/-! one step of the small machine that is no call and no end -/
theorem zld_some {i pc : Nat} {L S : List zV} {G : zG} {H : zH} {x : zN} (h : zld i pc L S G H = some (.inl x)) : ∃ z, L[i]? = some (.inl z) ∧ x = (pc, L, vi z :: S, G, H) := by
  unfold zld zgo at h
  split at h
  · rename_i z e
    exact ⟨z, e, (Sum.inl.inj (Option.some.inj h)).symm⟩
  · cases h
theorem zlld_some {i pc : Nat} {L S : List zV} {G : zG} {H : zH} {x : zN} (h : zlld i pc L S G H = some (.inl x)) : ∃ z, L[i]? = some (.inr (.inl z)) ∧ x = (pc, L, vl z :: S, G, H) := by
  unfold zlld zgo at h
  split at h
  · rename_i z e
    exact ⟨z, e, (Sum.inl.inj (Option.some.inj h)).symm⟩
  · cases h
theorem zald_some {i pc : Nat} {L S : List zV} {G : zG} {H : zH} {x : zN} (h : zald i pc L S G H = some (.inl x)) : (∃ z, L[i]? = some (.inr (.inr (.inl z))) ∧ x = (pc, L, vr z :: S, G, H)) ∨ (L[i]? = some (.inr (.inr (.inr 1))) ∧ x = (pc, L, vx :: S, G, H)) := by
  unfold zald zgo at h
  split at h
  · rename_i z e
    exact Or.inl ⟨z, e, (Sum.inl.inj (Option.some.inj h)).symm⟩
  · rename_i e
    exact Or.inr ⟨e, (Sum.inl.inj (Option.some.inj h)).symm⟩
  · cases h
theorem zgo_eq {pc : Nat} {L S : List zV} {G : zG} {H : zH} {x : zN} (h : zgo pc L S G H = some (.inl x)) : x = (pc, L, S, G, H) := (Sum.inl.inj (Option.some.inj h)).symm
theorem zif_go {b : Bool} {pc : Nat} {L S : List zV} {G : zG} {H : zH} {x : zN} (h : zif b (zgo pc L S G H) = some (.inl x)) : b = true ∧ x = (pc, L, S, G, H) := ⟨(zif_some h).1, zgo_eq (zif_some h).2⟩
theorem zist_some {i pc : Nat} {L S : List zV} {G : zG} {H : zH} {x : zN} (h : zist i pc L S G H = some (.inl x)) : ∃ z S', S = .inl z :: S' ∧ i < L.length ∧ znl L i = true ∧ x = (pc, L.set i (vi z), S', G, H) := by
  unfold zist at h
  split at h
  · rename_i z S'
    obtain ⟨h1, h2⟩ := zif_go h
    simp only [Bool.and_eq_true, decide_eq_true_eq] at h1
    exact ⟨z, S', rfl, h1.1, h1.2, h2⟩
  · cases h
theorem zlst_some {i pc : Nat} {L S : List zV} {G : zG} {H : zH} {x : zN} (h : zlst i pc L S G H = some (.inl x)) : ∃ z S', S = .inr (.inl z) :: S' ∧ i + 1 < L.length ∧ znl L i = true ∧ x = (pc, (L.set i (vl z)).set (i + 1) vu, S', G, H) := by
  unfold zlst at h
  split at h
  · rename_i z S'
    obtain ⟨h1, h2⟩ := zif_go h
    simp only [Bool.and_eq_true, decide_eq_true_eq] at h1
    exact ⟨z, S', rfl, h1.1, h1.2, h2⟩
  · cases h
theorem zast_some {i pc : Nat} {L S : List zV} {G : zG} {H : zH} {x : zN} (h : zast i pc L S G H = some (.inl x)) : ∃ z S', S = .inr (.inr (.inl z)) :: S' ∧ i < L.length ∧ znl L i = true ∧ x = (pc, L.set i (vr z), S', G, H) := by
  unfold zast at h
  split at h
  · rename_i z S'
    obtain ⟨h1, h2⟩ := zif_go h
    simp only [Bool.and_eq_true, decide_eq_true_eq] at h1
    exact ⟨z, S', rfl, h1.1, h1.2, h2⟩
  · cases h
theorem zint2_some {f : Int → Int → Int} {pc : Nat} {L S : List zV} {G : zG} {H : zH} {x : zN} (h : zint2 f pc L S G H = some (.inl x)) : ∃ a b S', S = .inl b :: .inl a :: S' ∧ x = (pc, L, vi (f a b) :: S', G, H) := by
  unfold zint2 at h
  split at h
  · rename_i b a S'
    exact ⟨a, b, S', rfl, zgo_eq h⟩
  · cases h
theorem zlong2_some {f : Int → Int → Int} {pc : Nat} {L S : List zV} {G : zG} {H : zH} {x : zN} (h : zlong2 f pc L S G H = some (.inl x)) : ∃ a b S', S = .inr (.inl b) :: .inr (.inl a) :: S' ∧ x = (pc, L, vl (f a b) :: S', G, H) := by
  unfold zlong2 at h
  split at h
  · rename_i b a S'
    exact ⟨a, b, S', rfl, zgo_eq h⟩
  · cases h
theorem zlongi_some {f : Int → Int → Int} {pc : Nat} {L S : List zV} {G : zG} {H : zH} {x : zN} (h : zlongi f pc L S G H = some (.inl x)) : ∃ a b S', S = .inl b :: .inr (.inl a) :: S' ∧ x = (pc, L, vl (f a b) :: S', G, H) := by
  unfold zlongi at h
  split at h
  · rename_i b a S'
    exact ⟨a, b, S', rfl, zgo_eq h⟩
  · cases h
theorem zdivs_some {f : Int → Int → Int} {pc : Nat} {L S : List zV} {G : zG} {H : zH} {x : zN} (h : zdivs f pc L S G H = some (.inl x)) : ∃ a b S', S = .inl b :: .inl a :: S' ∧ b ≠ 0 ∧ x = (pc, L, vi (f a b) :: S', G, H) := by
  unfold zdivs at h
  split at h
  · rename_i b a S'
    obtain ⟨h1, h2⟩ := zif_go h
    exact ⟨a, b, S', rfl, by simpa using h1, h2⟩
  · cases h
section ZST
variable {p : Program} {l : Launch} {e : Env} {R : Room} {s : State} {m : MethodId} {args : Array Value} {below : List Frame} {meth : Method} {c : Code} {Q : State → Prop} {D : va_G} {cs : zCs} {A : Nat → Prop} {b n0 s0 : Nat} {ad0 : Nat → Nat} {q : zM} {pc : Nat} {L S : List zV} {G : zG} {H : zH}
theorem zs_bui (C : zCx p s m args meth c D cs A q) {i : Nat} {d : Nat} (h1d : 1 ≤ d) (hR : d ≤ R.frames ∧ 60 * d ≤ R.locals) {bb : Nat} (hi : zbt q.1 i = some bb) (hd : (bb = 3 → decode q.2.2.1 pc = .ok (.invokespecial i, 3)) ∧ (bb ≠ 3 → decode q.2.2.1 pc = .ok (.invokestatic i, 3))) {pc' : Nat} {L' S' : List zV} {G' : zG} {H' : zH} (h : zbui bb (pc + 3) L S G H = some (.inl (pc', L', S', G', H'))) (r1 : G'.1 - n0 ≤ R.cells) (r2 : G'.2.1 - s0 ≤ R.slots) (K : zGo p l e R s m args below meth c Q D cs A b n0 s0 ad0 q pc' L' S' G' H') : zGo p l e R s m args below meth c Q D cs A b n0 s0 ad0 q pc L S G H := by
  unfold zbui at h
  split at h
  · obtain ⟨h1, h2⟩ := zif_go h
    injection h2 with e1 h2; injection h2 with e2 h2; injection h2 with e3 h2; injection h2 with e4 e5
    subst e1; subst e2; subst e3; subst e4; subst e5
    exact zs_max C h1d hR r1 r2 (hd.2 (by omega)) hi (by simpa using h1) K
  · obtain ⟨h1, h2⟩ := zif_go h
    injection h2 with e1 h2; injection h2 with e2 h2; injection h2 with e3 h2; injection h2 with e4 e5
    subst e1; subst e2; subst e3; subst e4; subst e5
    exact zs_min C h1d hR r1 r2 (hd.2 (by omega)) hi (by simpa using h1) K
  · obtain ⟨h1, h2⟩ := zif_go h
    injection h2 with e1 h2; injection h2 with e2 h2; injection h2 with e3 h2; injection h2 with e4 e5
    subst e1; subst e2; subst e3; subst e4; subst e5
    simp only [Bool.and_eq_true, decide_eq_true_eq, zCb_iff] at h1
    obtain ⟨c1, ⟨⟨c2, c3⟩, ⟨c4, c5⟩⟩, ⟨c6, c7⟩, c8, c9, c10⟩ := h1
    exact zs_copy C h1d hR (hd.2 (by omega)) hi c1 c2 c3 c4 c5 c6 c7 c8 c9 c10 K
  · obtain ⟨h1, h2⟩ := zif_go h
    injection h2 with e1 h2; injection h2 with e2 h2; injection h2 with e3 h2; injection h2 with e4 e5
    subst e1; subst e2; subst e3; subst e4; subst e5
    exact zs_objinit C h1d hR (hd.1 rfl) hi (by simpa using h1) K
  · cases h
end ZST
end
section
/-! one step, all kinds -/
theorem zgetf_some {m : zM} {i pc : Nat} {L S : List zV} {G : zG} {H : zH} {x : zN} (h : zgetf m i pc L S G H = some (.inl x)) : ∃ a S' t k, S = .inr (.inr (.inl a)) :: S' ∧ zfd m.1 i = some (t, k) ∧ (a < G.1 ∧ (G.2.2.1 a).1 = t) ∧ ((zrf t k = true ∧ G.2.2.2 a k < G.1 ∧ x = (pc, L, vr (G.2.2.2 a k) :: S', G, H)) ∨ (zrf t k = false ∧ x = (pc, L, vi (H a k) :: S', G, H))) := by
  unfold zgetf at h
  split at h
  · rename_i a S'
    split at h
    · rename_i t k e
      obtain ⟨h1, h2⟩ := zif_some h
      refine ⟨a, S', t, k, rfl, e, zCb_iff.mp h1, ?_⟩
      split at h2
      · rename_i e2
        obtain ⟨h3, h4⟩ := zif_go h2
        exact Or.inl ⟨e2, by simpa using h3, h4⟩
      · rename_i e2
        exact Or.inr ⟨e2, zgo_eq h2⟩
    · cases h
  · cases h
theorem zputf_some {m : zM} {i pc : Nat} {L S : List zV} {G : zG} {H : zH} {x : zN} (h : zputf m i pc L S G H = some (.inl x)) : ∃ a S' t k, zfd m.1 i = some (t, k) ∧ (a < G.1 ∧ (G.2.2.1 a).1 = t) ∧ ((zrf t k = false ∧ ∃ z, S = .inl z :: .inr (.inr (.inl a)) :: S' ∧ x = (pc, L, S', G, zup H a k z)) ∨ (zrf t k = true ∧ m.1 = t ∧ m.2.1.name = "<init>" ∧ ∃ y, S = .inr (.inr (.inl y)) :: .inr (.inr (.inl a)) :: S' ∧ x = (pc, L, S', (G.1, G.2.1, G.2.2.1, zrset G.2.2.2 a (zru (G.2.2.2 a) k y)), H))) := by
  unfold zputf at h
  split at h
  · cases h
  · rename_i t k e
    split at h
    · rename_i z a S' e2
      obtain ⟨h1, h2⟩ := zif_go h
      exact ⟨a, S', t, k, e, zCb_iff.mp h1, Or.inl ⟨e2, z, rfl, h2⟩⟩
    · rename_i y a S' e2
      obtain ⟨h1, h2⟩ := zif_go h
      simp only [Bool.and_eq_true, decide_eq_true_eq, zCb_iff] at h1
      exact ⟨a, S', t, k, e, h1.1, Or.inr ⟨e2, h1.2.1, h1.2.2, y, rfl, h2⟩⟩
    · cases h
theorem zarld_some {o : Option (Nat × (Int → Int))} {t pc : Nat} {L S : List zV} {G : zG} {H : zH} {x : zN} (h : zarld o t pc L S G H = some (.inl x)) : (∃ i a S', S = .inl i :: .inr (.inr (.inl a)) :: S' ∧ (a < G.1 ∧ (G.2.2.1 a).1 = t) ∧ (0 ≤ i ∧ i < ((G.2.2.1 a).2 : Int)) ∧ x = (pc, L, vi (H a i) :: S', G, H)) ∨ (∃ i S' n f, S = .inl i :: .inr (.inr (.inr 1)) :: S' ∧ o = some (n, f) ∧ t = 100 ∧ (0 ≤ i ∧ i < (n : Int)) ∧ x = (pc, L, vi (f i) :: S', G, H)) := by
  unfold zarld at h
  split at h
  · rename_i i a S'
    obtain ⟨h1, h2⟩ := zif_go h
    simp only [Bool.and_eq_true, zCb_iff, zInb_iff] at h1
    exact Or.inl ⟨i, a, S', rfl, h1.1, h1.2, h2⟩
  · rename_i i S'
    split at h
    · rename_i n f
      obtain ⟨h1, h2⟩ := zif_go h
      simp only [Bool.and_eq_true, decide_eq_true_eq] at h1
      exact Or.inr ⟨i, S', n, f, rfl, rfl, h1.1, h1.2, h2⟩
    · cases h
  · cases h
theorem zarst_some {t pc : Nat} {L S : List zV} {G : zG} {H : zH} {x : zN} (h : zarst t pc L S G H = some (.inl x)) : ∃ v i a S', S = .inl v :: .inl i :: .inr (.inr (.inl a)) :: S' ∧ (a < G.1 ∧ (G.2.2.1 a).1 = t) ∧ (0 ≤ i ∧ i < ((G.2.2.1 a).2 : Int)) ∧ (t = 100 ∨ (v = 0 ∨ v = 1)) ∧ x = (pc, L, S', G, zup H a i v) := by
  unfold zarst at h
  split at h
  · rename_i v i a S'
    obtain ⟨h1, h2⟩ := zif_go h
    simp only [Bool.and_eq_true, Bool.or_eq_true, decide_eq_true_eq, zCb_iff, zInb_iff] at h1
    exact ⟨v, i, a, S', rfl, h1.1.1, h1.1.2, h1.2, h2⟩
  · cases h
section ZSS
variable {p : Program} {l : Launch} {e : Env} {R : Room} {s : State} {m : MethodId} {args : Array Value} {below : List Frame} {meth : Method} {c : Code} {Q : State → Prop} {D : va_G} {cs : zCs} {A : Nat → Prop} {b n0 s0 : Nat} {ad0 : Nat → Nat} {q : zM} {pc : Nat} {L S : List zV} {G : zG} {H : zH}
set_option maxHeartbeats 4000000 in
theorem zs_step (C : zCx p s m args meth c D cs A q) {o : Option (Nat × (Int → Int))} (hO : zSc s A b o) {d : Nat} (hR : d ≤ R.frames ∧ 60 * d ≤ R.locals) {x : zN} (h : zst o d q pc L S G H = some (.inl x)) (r1 : x.2.2.2.1.1 - n0 ≤ R.cells) (r2 : x.2.2.2.1.2.1 - s0 ≤ R.slots) (K : zGo p l e R s m args below meth c Q D cs A b n0 s0 ad0 q x.1 x.2.1 x.2.2.1 x.2.2.2.1 x.2.2.2.2) : zGo p l e R s m args below meth c Q D cs A b n0 s0 ad0 q pc L S G H := by
  unfold zst at h
  split at h
  next op len hd =>
    obtain ⟨hl, h⟩ := zif_some h
    cases op with
    | iconst n =>
      obtain ⟨h1, rfl⟩ := zif_go (show zif _ (zgo _ _ _ _ _) = _ from h)
      obtain rfl : len = 1 := by simpa [zlo] using hl
      simp only [Bool.and_eq_true, decide_eq_true_eq] at h1
      exact zs_iconst C hd h1.1 h1.2 K
    | bipush n =>
      obtain ⟨h1, rfl⟩ := zif_go (show zif _ (zgo _ _ _ _ _) = _ from h)
      obtain rfl : len = 2 := by simpa [zlo] using hl
      simp only [Bool.and_eq_true, decide_eq_true_eq] at h1
      exact zs_bipush C hd h1.1 h1.2 K
    | sipush n =>
      obtain ⟨h1, rfl⟩ := zif_go (show zif _ (zgo _ _ _ _ _) = _ from h)
      obtain rfl : len = 3 := by simpa [zlo] using hl
      simp only [Bool.and_eq_true, decide_eq_true_eq] at h1
      exact zs_sipush C hd h1.1 h1.2 K
    | lconst n =>
      obtain rfl := zgo_eq (show zgo _ _ _ _ _ = _ from h)
      obtain rfl : len = 1 := by simpa [zlo] using hl
      exact zs_lconst C hd K
    | ldc i =>
      obtain rfl : len = 2 := by simpa [zlo] using hl
      simp only [zstp] at h
      split at h
      · rename_i z e
        obtain rfl := zgo_eq h
        exact zs_ldc C hd e K
      · cases h
    | ldc2_w i =>
      obtain rfl : len = 3 := by simpa [zlo] using hl
      simp only [zstp] at h
      split at h
      · rename_i z e
        obtain rfl := zgo_eq h
        exact zs_ldc2 C hd e K
      · cases h
    | iload_n i =>
      obtain rfl : len = 1 := by simpa [zlo] using hl
      obtain ⟨z, h1, rfl⟩ := zld_some (show zld _ _ _ _ _ _ = _ from h)
      exact zs_iload_n C hd h1 K
    | iload i =>
      obtain rfl : len = 2 := by simpa [zlo] using hl
      obtain ⟨z, h1, rfl⟩ := zld_some (show zld _ _ _ _ _ _ = _ from h)
      exact zs_iload C hd h1 K
    | lload_n i =>
      obtain rfl : len = 1 := by simpa [zlo] using hl
      obtain ⟨z, h1, rfl⟩ := zlld_some (show zlld _ _ _ _ _ _ = _ from h)
      exact zs_lload_n C hd h1 K
    | aload_n i =>
      obtain rfl : len = 1 := by simpa [zlo] using hl
      rcases zald_some (show zald _ _ _ _ _ _ = _ from h) with ⟨z, h1, rfl⟩ | ⟨h1, rfl⟩
      · exact zs_aload_n C hd h1 K
      · exact zs_aload_nx C hd h1 K
    | aload i =>
      obtain rfl : len = 2 := by simpa [zlo] using hl
      rcases zald_some (show zald _ _ _ _ _ _ = _ from h) with ⟨z, h1, rfl⟩ | ⟨h1, rfl⟩
      · exact zs_aload C hd h1 K
      · exact zs_aloadx C hd h1 K
    | istore_n i =>
      obtain rfl : len = 1 := by simpa [zlo] using hl
      obtain ⟨z, S', rfl, h1, h2, rfl⟩ := zist_some (show zist _ _ _ _ _ _ = _ from h)
      exact zs_istore_n C hd h1 h2 K
    | istore i =>
      obtain rfl : len = 2 := by simpa [zlo] using hl
      obtain ⟨z, S', rfl, h1, h2, rfl⟩ := zist_some (show zist _ _ _ _ _ _ = _ from h)
      exact zs_istore C hd h1 h2 K
    | lstore_n i =>
      obtain rfl : len = 1 := by simpa [zlo] using hl
      obtain ⟨z, S', rfl, h1, h2, rfl⟩ := zlst_some (show zlst _ _ _ _ _ _ = _ from h)
      exact zs_lstore_n C hd h1 h2 K
    | astore_n i =>
      obtain rfl : len = 1 := by simpa [zlo] using hl
      obtain ⟨z, S', rfl, h1, h2, rfl⟩ := zast_some (show zast _ _ _ _ _ _ = _ from h)
      exact zs_astore_n C hd h1 h2 K
    | astore i =>
      obtain rfl : len = 2 := by simpa [zlo] using hl
      obtain ⟨z, S', rfl, h1, h2, rfl⟩ := zast_some (show zast _ _ _ _ _ _ = _ from h)
      exact zs_astore C hd h1 h2 K
    | iinc i n =>
      obtain rfl : len = 3 := by simpa [zlo] using hl
      have h : ziinc i n (pc + 3) L S G H = _ := h
      unfold ziinc at h
      split at h
      · rename_i z e
        obtain ⟨h1, rfl⟩ := zif_go h
        exact zs_iinc C hd e h1 K
      · cases h
    | iadd =>
      obtain rfl : len = 1 := by simpa [zlo] using hl
      obtain ⟨a, b', S', rfl, rfl⟩ := zint2_some (show zint2 _ _ _ _ _ _ = _ from h)
      exact zs_iadd C hd K
    | isub =>
      obtain rfl : len = 1 := by simpa [zlo] using hl
      obtain ⟨a, b', S', rfl, rfl⟩ := zint2_some (show zint2 _ _ _ _ _ _ = _ from h)
      exact zs_isub C hd K
    | imul =>
      obtain rfl : len = 1 := by simpa [zlo] using hl
      obtain ⟨a, b', S', rfl, rfl⟩ := zint2_some (show zint2 _ _ _ _ _ _ = _ from h)
      exact zs_imul C hd K
    | idiv =>
      obtain rfl : len = 1 := by simpa [zlo] using hl
      obtain ⟨a, b', S', rfl, h0, rfl⟩ := zdivs_some (show zdivs _ _ _ _ _ _ = _ from h)
      exact zs_idiv C hd h0 K
    | irem =>
      obtain rfl : len = 1 := by simpa [zlo] using hl
      obtain ⟨a, b', S', rfl, h0, rfl⟩ := zdivs_some (show zdivs _ _ _ _ _ _ = _ from h)
      exact zs_irem C hd h0 K
    | iand =>
      obtain rfl : len = 1 := by simpa [zlo] using hl
      obtain ⟨a, b', S', rfl, rfl⟩ := zint2_some (show zint2 _ _ _ _ _ _ = _ from h)
      exact zs_iand C hd K
    | ior =>
      obtain rfl : len = 1 := by simpa [zlo] using hl
      obtain ⟨a, b', S', rfl, rfl⟩ := zint2_some (show zint2 _ _ _ _ _ _ = _ from h)
      exact zs_ior C hd K
    | ishl =>
      obtain rfl : len = 1 := by simpa [zlo] using hl
      obtain ⟨a, b', S', rfl, rfl⟩ := zint2_some (show zint2 _ _ _ _ _ _ = _ from h)
      exact zs_ishl C hd K
    | ishr =>
      obtain rfl : len = 1 := by simpa [zlo] using hl
      obtain ⟨a, b', S', rfl, rfl⟩ := zint2_some (show zint2 _ _ _ _ _ _ = _ from h)
      exact zs_ishr C hd K
    | ladd =>
      obtain rfl : len = 1 := by simpa [zlo] using hl
      obtain ⟨a, b', S', rfl, rfl⟩ := zlong2_some (show zlong2 _ _ _ _ _ _ = _ from h)
      exact zs_ladd C hd K
    | lmul =>
      obtain rfl : len = 1 := by simpa [zlo] using hl
      obtain ⟨a, b', S', rfl, rfl⟩ := zlong2_some (show zlong2 _ _ _ _ _ _ = _ from h)
      exact zs_lmul C hd K
    | lrem =>
      obtain rfl : len = 1 := by simpa [zlo] using hl
      simp only [zstp] at h
      split at h
      · obtain ⟨h1, rfl⟩ := zif_go h
        exact zs_lrem C hd (by simpa using h1) K
      · cases h
    | land =>
      obtain rfl : len = 1 := by simpa [zlo] using hl
      obtain ⟨a, b', S', rfl, rfl⟩ := zlong2_some (show zlong2 _ _ _ _ _ _ = _ from h)
      exact zs_land C hd K
    | lor =>
      obtain rfl : len = 1 := by simpa [zlo] using hl
      obtain ⟨a, b', S', rfl, rfl⟩ := zlong2_some (show zlong2 _ _ _ _ _ _ = _ from h)
      exact zs_lor C hd K
    | lshl =>
      obtain rfl : len = 1 := by simpa [zlo] using hl
      obtain ⟨a, b', S', rfl, rfl⟩ := zlongi_some (show zlongi _ _ _ _ _ _ = _ from h)
      exact zs_lshl C hd K
    | lshr =>
      obtain rfl : len = 1 := by simpa [zlo] using hl
      obtain ⟨a, b', S', rfl, rfl⟩ := zlongi_some (show zlongi _ _ _ _ _ _ = _ from h)
      exact zs_lshr C hd K
    | lushr =>
      obtain rfl : len = 1 := by simpa [zlo] using hl
      obtain ⟨a, b', S', rfl, rfl⟩ := zlongi_some (show zlongi _ _ _ _ _ _ = _ from h)
      exact zs_lushr C hd K
    | i2l =>
      obtain rfl : len = 1 := by simpa [zlo] using hl
      simp only [zstp] at h
      split at h
      · obtain rfl := zgo_eq h
        exact zs_i2l C hd K
      · cases h
    | l2i =>
      obtain rfl : len = 1 := by simpa [zlo] using hl
      simp only [zstp] at h
      split at h
      · obtain rfl := zgo_eq h
        exact zs_l2i C hd K
      · cases h
    | dup =>
      obtain rfl : len = 1 := by simpa [zlo] using hl
      simp only [zstp, zdup] at h
      split at h
      · obtain rfl := zgo_eq h
        exact zs_dup_i C hd K
      · obtain rfl := zgo_eq h
        exact zs_dup_r C hd K
      · cases h
    | dup2 =>
      obtain rfl : len = 1 := by simpa [zlo] using hl
      simp only [zstp, zdup2] at h
      split at h
      · obtain rfl := zgo_eq h
        exact zs_dup2 C hd K
      · cases h
    | pop =>
      obtain rfl : len = 1 := by simpa [zlo] using hl
      simp only [zstp, zpop] at h
      split at h
      · obtain rfl := zgo_eq h
        exact zs_pop C hd K
      · cases h
    | ifCond cd off =>
      obtain rfl : len = 3 := by simpa [zlo] using hl
      obtain ⟨h1, h⟩ := zif_some (show zif _ (zift _ _ _ _ _ _ _) = _ from h)
      simp only [zift] at h
      split at h
      · obtain rfl := zgo_eq h
        exact zs_if C hd (by simpa using h1) K
      · cases h
    | if_icmp cd off =>
      obtain rfl : len = 3 := by simpa [zlo] using hl
      obtain ⟨h1, h⟩ := zif_some (show zif _ (zicm _ _ _ _ _ _ _) = _ from h)
      simp only [zicm] at h
      split at h
      · obtain rfl := zgo_eq h
        exact zs_icmp C hd (by simpa using h1) K
      · cases h
    | goto off =>
      obtain rfl : len = 3 := by simpa [zlo] using hl
      obtain ⟨h1, rfl⟩ := zif_go (show zif _ (zgo _ _ _ _ _) = _ from h)
      exact zs_goto C hd (by simpa using h1) K
    | tableswitch dd lo hi offs =>
      simp only [zstp] at h
      split at h
      · obtain ⟨h1, h⟩ := zif_some h
        simp only [Bool.and_eq_true, decide_eq_true_eq] at h1
        split at h
        · rename_i t e
          obtain rfl := zgo_eq h
          exact zs_table C hd h1.1 h1.2 e K
        · cases h
      · cases h
    | lookupswitch dd ps =>
      simp only [zstp] at h
      split at h
      · obtain ⟨h1, rfl⟩ := zif_go h
        simp only [Bool.and_eq_true, decide_eq_true_eq] at h1
        exact zs_look C hd h1.1 h1.2 K
      · cases h
    | getfield i =>
      obtain rfl : len = 3 := by simpa [zlo] using hl
      obtain ⟨a, S', t, k, rfl, h1, h2, ⟨h3, h4, rfl⟩ | ⟨h3, rfl⟩⟩ := zgetf_some (show zgetf _ _ _ _ _ _ _ = _ from h)
      · exact zs_getr C hd h1 h3 h2.1 h2.2 h4 K
      · exact zs_geti C hd h1 h3 h2.1 h2.2 K
    | putfield i =>
      obtain rfl : len = 3 := by simpa [zlo] using hl
      obtain ⟨a, S', t, k, h1, h2, ⟨h3, z, rfl, rfl⟩ | ⟨h3, h4, h5, y, rfl, rfl⟩⟩ := zputf_some (show zputf _ _ _ _ _ _ _ = _ from h)
      · exact zs_puti C hd h1 h3 h2.1 h2.2 K
      · exact zs_putr C hd h1 h3 h2.1 h2.2 h4 h5 K
    | iaload =>
      obtain rfl : len = 1 := by simpa [zlo] using hl
      rcases zarld_some (show zarld _ _ _ _ _ _ _ = _ from h) with ⟨i, a, S', rfl, h1, h2, rfl⟩ | ⟨i, S', n, f, rfl, h1, -, h2, rfl⟩
      · exact zs_iald C hd h1.1 h1.2 h2.1 h2.2 K
      · exact zs_sald C hO h1 hd h2.1 h2.2 K
    | baload =>
      obtain rfl : len = 1 := by simpa [zlo] using hl
      rcases zarld_some (show zarld _ _ _ _ _ _ _ = _ from h) with ⟨i, a, S', rfl, h1, h2, rfl⟩ | ⟨i, S', n, f, rfl, h1, h3, h2, rfl⟩
      · exact zs_bald C hd h1.1 h1.2 h2.1 h2.2 K
      · omega
    | iastore =>
      obtain rfl : len = 1 := by simpa [zlo] using hl
      obtain ⟨v, i, a, S', rfl, h1, h2, -, rfl⟩ := zarst_some (show zarst _ _ _ _ _ _ = _ from h)
      exact zs_iast C hd h1.1 h1.2 h2.1 h2.2 K
    | bastore =>
      obtain rfl : len = 1 := by simpa [zlo] using hl
      obtain ⟨v, i, a, S', rfl, h1, h2, h3, rfl⟩ := zarst_some (show zarst _ _ _ _ _ _ = _ from h)
      exact zs_bast C hd h1.1 h1.2 h2.1 h2.2 (by omega) K
    | aaload =>
      obtain rfl : len = 1 := by simpa [zlo] using hl
      simp only [zstp, zaald] at h
      split at h
      · obtain ⟨h1, rfl⟩ := zif_go h
        simp only [Bool.and_eq_true, Bool.or_eq_true, decide_eq_true_eq, zCb_iff, zInb_iff] at h1
        obtain ⟨⟨h1, h2⟩, h3⟩ := h1
        exact zs_aald C hd (by rcases h1 with h1 | h1 <;> exact h1.1) (by rcases h1 with h1 | h1; exact Or.inl h1.2; exact Or.inr h1.2) h2.1 h2.2 h3 K
      · cases h
    | aastore =>
      obtain rfl : len = 1 := by simpa [zlo] using hl
      simp only [zstp, zaast] at h
      split at h
      · obtain ⟨h1, rfl⟩ := zif_go h
        simp only [Bool.and_eq_true, zCb_iff, zInb_iff] at h1
        obtain ⟨⟨h1, h2⟩, h3⟩ := h1
        exact zs_aast C hd h1.1 h1.2 h2.1 h2.2 h3.1 h3.2 K
      · cases h
    | arraylength =>
      obtain rfl : len = 1 := by simpa [zlo] using hl
      simp only [zstp, zalen] at h
      split at h
      · obtain ⟨h1, rfl⟩ := zif_go h
        simp only [Bool.and_eq_true, decide_eq_true_eq] at h1
        exact zs_alen C hd h1.1 h1.2.1.1 h1.2.1.2 h1.2.2 K
      · split at h
        · rename_i n f
          obtain rfl := zgo_eq h
          exact zs_slen C hO rfl hd K
        · cases h
      · cases h
    | new i =>
      obtain rfl : len = 3 := by simpa [zlo] using hl
      simp only [zstp, znewo] at h
      split at h
      · rename_i t e
        obtain ⟨h1, rfl⟩ := zif_go h
        simp only [Bool.and_eq_true, decide_eq_true_eq] at h1
        exact zs_new C hd e h1.1 h1.2 r1 r2 K
      · cases h
    | newarray ty =>
      obtain rfl : len = 2 := by simpa [zlo] using hl
      cases ty <;> first | (simp [zstp] at h; done) | skip
      · simp only [zstp, znewa] at h
        split at h
        · obtain ⟨h1, rfl⟩ := zif_go h
          simp only [Bool.and_eq_true, decide_eq_true_eq] at h1
          exact zs_newz C hd h1.1.1 h1.1.2 h1.2 r1 r2 K
        · cases h
      · simp only [zstp, znewa] at h
        split at h
        · obtain ⟨h1, rfl⟩ := zif_go h
          simp only [Bool.and_eq_true, decide_eq_true_eq] at h1
          exact zs_newi C hd h1.1.1 h1.1.2 h1.2 r1 r2 K
        · cases h
    | anewarray i =>
      obtain rfl : len = 3 := by simpa [zlo] using hl
      simp only [zstp] at h
      split at h
      · rename_i e
        simp only [znewa] at h
        split at h
        · obtain ⟨h1, rfl⟩ := zif_go h
          simp only [Bool.and_eq_true, decide_eq_true_eq] at h1
          exact zs_newb C hd e h1.1.1 h1.1.2 h1.2 r1 r2 K
        · cases h
      · cases h
    | multianewarray i dims =>
      obtain rfl : len = 4 := by simpa [zlo] using hl
      by_cases hdm : dims = 2
      · subst hdm
        simp only [zstp] at h
        split at h
        · rename_i e
          simp only [znewm] at h
          split at h
          · rename_i k n S' _
            obtain ⟨h1, h2⟩ := zif_some h
            have h2 := zgo_eq h2
            simp only [Bool.and_eq_true, decide_eq_true_eq] at h1
            obtain ⟨⟨⟨c1, c2⟩, c3, c4⟩, c5⟩ := h1
            have N1 := znews_n (znew G 103 n.toNat) (zset H G.1 (fun _ => 0)) k.toNat n.toNat
            have N2 := znews_s (znew G 103 n.toNat) (zset H G.1 (fun _ => 0)) k.toNat n.toNat
            have z1 : (znew G 103 n.toNat).1 = G.1 + 1 := rfl
            have z2 : (znew G 103 n.toNat).2.1 = G.2.1 + n.toNat := rfl
            rw [z1] at N1
            rw [z2] at N1
            rw [z1] at N2
            generalize znews (znew G 103 n.toNat) (zset H G.1 (fun _ => 0)) k.toNat n.toNat = Z at h2 N1 N2
            subst h2
            have r1 : Z.1.1 - n0 ≤ R.cells := r1
            have r2 : Z.1.2.1 - s0 ≤ R.slots := r2
            refine zs_newm C hd e c1 c2 c3 c4 c5 (by omega) (by omega) (n := n) (k := k) (G' := (Z.1.1, Z.1.2.1, Z.1.2.2.1, zrset Z.1.2.2.2 G.1 (fun i => if 0 ≤ i ∧ i < n then G.1 + 1 + i.toNat else znul))) (H' := Z.2) N1.1 N1.2 (fun j => ?_) (fun j => ?_) (fun j => ?_) K
            · show Z.1.2.2.1 j = _
              rw [(N2 j).1]
              show (if G.1 + 1 ≤ j ∧ j < G.1 + 1 + n.toNat then (100, k.toNat) else zsh G.2.2.1 G.1 (103, n.toNat) j) = _
              by_cases e1 : j = G.1
              · subst e1
                rw [if_neg (by omega), zsh_eq, if_pos rfl]
              · rw [if_neg e1, zsh_ne e1]
            · show zrset Z.1.2.2.2 G.1 _ j = _
              by_cases e1 : j = G.1
              · subst e1
                rw [zrset_eq, if_pos rfl]
              · rw [if_neg e1, zrset_ne e1, (N2 j).2.1]
                show (if G.1 + 1 ≤ j ∧ j < G.1 + 1 + n.toNat then (fun _ => znul) else zrset G.2.2.2 G.1 (fun _ => znul) j) = _
                rw [zrset_ne e1]
            · show Z.2 j = _
              rw [(N2 j).2.2]
              by_cases e1 : j = G.1
              · subst e1
                rw [if_neg (by omega), zset_eq, if_pos (by omega)]
              · rw [zset_ne e1]
                by_cases e2 : G.1 + 1 ≤ j ∧ j < G.1 + 1 + n.toNat
                · rw [if_pos e2, if_pos (by omega)]
                · rw [if_neg e2, if_neg (by omega)]
          · cases h
        · cases h
      · exfalso
        have : zstp o d q pc (.multianewarray i dims) 4 L S G H = none := by
          unfold zstp
          split <;> simp_all
        rw [this] at h
        cases h
    | invokevirtual i =>
      obtain ⟨h1, h⟩ := zif_some (show zif _ (zinv _ _ _ _ _ _ _ _) = _ from h)
      simp only [zinv] at h
      split at h
      · have := (zif_some h).1
        simp at this
      · split at h
        · obtain ⟨-, h⟩ := zif_some h
          split at h
          · have := (zif_some h).2
            cases this
          all_goals cases h
        · cases h
    | invokestatic i =>
      obtain rfl : len = 3 := by simpa [zlo] using hl
      obtain ⟨h1, h⟩ := zif_some (show zif _ (zinv _ _ _ _ _ _ _ _) = _ from h)
      simp only [zinv] at h
      split at h
      · rename_i bb e
        obtain ⟨h2, h⟩ := zif_some h
        simp at h2
        exact zs_bui C (by simpa using h1) hR e ⟨fun z => absurd z h2, fun _ => hd⟩ h r1 r2 K
      · split at h
        · obtain ⟨-, h⟩ := zif_some h
          cases h
        · cases h
    | invokespecial i =>
      obtain rfl : len = 3 := by simpa [zlo] using hl
      obtain ⟨h1, h⟩ := zif_some (show zif _ (zinv _ _ _ _ _ _ _ _) = _ from h)
      simp only [zinv] at h
      split at h
      · rename_i bb e
        obtain ⟨h2, h⟩ := zif_some h
        simp at h2
        exact zs_bui C (by simpa using h1) hR e ⟨fun _ => hd, fun z => absurd h2 z⟩ h r1 r2 K
      · split at h
        · obtain ⟨-, h⟩ := zif_some h
          split at h
          · have := (zif_some h).2
            cases this
          all_goals cases h
        · cases h
    | ireturn =>
      simp only [zstp, zret] at h
      split at h
      · split at h
        · cases h
        · have := (zif_some h).2
          cases this
        · cases h
      · cases h
    | return_ =>
      simp only [zstp] at h
      split at h <;> cases h
    | _ => simp [zstp] at h
  next => cases h
end ZSS
end
section
/-! no step takes cells away -/
theorem zbui_mono {bb pc : Nat} {L S : List zV} {G : zG} {H : zH} {x : zN} (h : zbui bb pc L S G H = some (.inl x)) : G.1 ≤ x.2.2.2.1.1 ∧ G.2.1 ≤ x.2.2.2.1.2.1 := by
  unfold zbui at h
  split at h
  · obtain ⟨h1, rfl⟩ := zif_go h
    exact ⟨Nat.le_refl _, Nat.le_refl _⟩
  · obtain ⟨h1, rfl⟩ := zif_go h
    exact ⟨Nat.le_refl _, Nat.le_refl _⟩
  · obtain ⟨h1, rfl⟩ := zif_go h
    exact ⟨Nat.le_refl _, Nat.le_refl _⟩
  · obtain ⟨h1, rfl⟩ := zif_go h
    exact ⟨Nat.le_refl _, Nat.le_refl _⟩
  · cases h
set_option maxHeartbeats 4000000 in
theorem zst_mono {o : Option (Nat × (Int → Int))} {d : Nat} {q : zM} {pc : Nat} {L S : List zV} {G : zG} {H : zH} {x : zN} (h : zst o d q pc L S G H = some (.inl x)) : G.1 ≤ x.2.2.2.1.1 ∧ G.2.1 ≤ x.2.2.2.1.2.1 := by
  unfold zst at h
  split at h
  next op len hd =>
    obtain ⟨hl, h⟩ := zif_some h
    cases op with
    | iconst n =>
      obtain ⟨h1, rfl⟩ := zif_go (show zif _ (zgo _ _ _ _ _) = _ from h)
      obtain rfl : len = 1 := by simpa [zlo] using hl
      simp only [Bool.and_eq_true, decide_eq_true_eq] at h1
      exact ⟨Nat.le_refl _, Nat.le_refl _⟩
    | bipush n =>
      obtain ⟨h1, rfl⟩ := zif_go (show zif _ (zgo _ _ _ _ _) = _ from h)
      obtain rfl : len = 2 := by simpa [zlo] using hl
      simp only [Bool.and_eq_true, decide_eq_true_eq] at h1
      exact ⟨Nat.le_refl _, Nat.le_refl _⟩
    | sipush n =>
      obtain ⟨h1, rfl⟩ := zif_go (show zif _ (zgo _ _ _ _ _) = _ from h)
      obtain rfl : len = 3 := by simpa [zlo] using hl
      simp only [Bool.and_eq_true, decide_eq_true_eq] at h1
      exact ⟨Nat.le_refl _, Nat.le_refl _⟩
    | lconst n =>
      obtain rfl := zgo_eq (show zgo _ _ _ _ _ = _ from h)
      obtain rfl : len = 1 := by simpa [zlo] using hl
      exact ⟨Nat.le_refl _, Nat.le_refl _⟩
    | ldc i =>
      obtain rfl : len = 2 := by simpa [zlo] using hl
      simp only [zstp] at h
      split at h
      · rename_i z e
        obtain rfl := zgo_eq h
        exact ⟨Nat.le_refl _, Nat.le_refl _⟩
      · cases h
    | ldc2_w i =>
      obtain rfl : len = 3 := by simpa [zlo] using hl
      simp only [zstp] at h
      split at h
      · rename_i z e
        obtain rfl := zgo_eq h
        exact ⟨Nat.le_refl _, Nat.le_refl _⟩
      · cases h
    | iload_n i =>
      obtain rfl : len = 1 := by simpa [zlo] using hl
      obtain ⟨z, h1, rfl⟩ := zld_some (show zld _ _ _ _ _ _ = _ from h)
      exact ⟨Nat.le_refl _, Nat.le_refl _⟩
    | iload i =>
      obtain rfl : len = 2 := by simpa [zlo] using hl
      obtain ⟨z, h1, rfl⟩ := zld_some (show zld _ _ _ _ _ _ = _ from h)
      exact ⟨Nat.le_refl _, Nat.le_refl _⟩
    | lload_n i =>
      obtain rfl : len = 1 := by simpa [zlo] using hl
      obtain ⟨z, h1, rfl⟩ := zlld_some (show zlld _ _ _ _ _ _ = _ from h)
      exact ⟨Nat.le_refl _, Nat.le_refl _⟩
    | aload_n i =>
      obtain rfl : len = 1 := by simpa [zlo] using hl
      rcases zald_some (show zald _ _ _ _ _ _ = _ from h) with ⟨z, h1, rfl⟩ | ⟨h1, rfl⟩
      · exact ⟨Nat.le_refl _, Nat.le_refl _⟩
      · exact ⟨Nat.le_refl _, Nat.le_refl _⟩
    | aload i =>
      obtain rfl : len = 2 := by simpa [zlo] using hl
      rcases zald_some (show zald _ _ _ _ _ _ = _ from h) with ⟨z, h1, rfl⟩ | ⟨h1, rfl⟩
      · exact ⟨Nat.le_refl _, Nat.le_refl _⟩
      · exact ⟨Nat.le_refl _, Nat.le_refl _⟩
    | istore_n i =>
      obtain rfl : len = 1 := by simpa [zlo] using hl
      obtain ⟨z, S', rfl, h1, h2, rfl⟩ := zist_some (show zist _ _ _ _ _ _ = _ from h)
      exact ⟨Nat.le_refl _, Nat.le_refl _⟩
    | istore i =>
      obtain rfl : len = 2 := by simpa [zlo] using hl
      obtain ⟨z, S', rfl, h1, h2, rfl⟩ := zist_some (show zist _ _ _ _ _ _ = _ from h)
      exact ⟨Nat.le_refl _, Nat.le_refl _⟩
    | lstore_n i =>
      obtain rfl : len = 1 := by simpa [zlo] using hl
      obtain ⟨z, S', rfl, h1, h2, rfl⟩ := zlst_some (show zlst _ _ _ _ _ _ = _ from h)
      exact ⟨Nat.le_refl _, Nat.le_refl _⟩
    | astore_n i =>
      obtain rfl : len = 1 := by simpa [zlo] using hl
      obtain ⟨z, S', rfl, h1, h2, rfl⟩ := zast_some (show zast _ _ _ _ _ _ = _ from h)
      exact ⟨Nat.le_refl _, Nat.le_refl _⟩
    | astore i =>
      obtain rfl : len = 2 := by simpa [zlo] using hl
      obtain ⟨z, S', rfl, h1, h2, rfl⟩ := zast_some (show zast _ _ _ _ _ _ = _ from h)
      exact ⟨Nat.le_refl _, Nat.le_refl _⟩
    | iinc i n =>
      obtain rfl : len = 3 := by simpa [zlo] using hl
      have h : ziinc i n (pc + 3) L S G H = _ := h
      unfold ziinc at h
      split at h
      · rename_i z e
        obtain ⟨h1, rfl⟩ := zif_go h
        exact ⟨Nat.le_refl _, Nat.le_refl _⟩
      · cases h
    | iadd =>
      obtain rfl : len = 1 := by simpa [zlo] using hl
      obtain ⟨a, b', S', rfl, rfl⟩ := zint2_some (show zint2 _ _ _ _ _ _ = _ from h)
      exact ⟨Nat.le_refl _, Nat.le_refl _⟩
    | isub =>
      obtain rfl : len = 1 := by simpa [zlo] using hl
      obtain ⟨a, b', S', rfl, rfl⟩ := zint2_some (show zint2 _ _ _ _ _ _ = _ from h)
      exact ⟨Nat.le_refl _, Nat.le_refl _⟩
    | imul =>
      obtain rfl : len = 1 := by simpa [zlo] using hl
      obtain ⟨a, b', S', rfl, rfl⟩ := zint2_some (show zint2 _ _ _ _ _ _ = _ from h)
      exact ⟨Nat.le_refl _, Nat.le_refl _⟩
    | idiv =>
      obtain rfl : len = 1 := by simpa [zlo] using hl
      obtain ⟨a, b', S', rfl, h0, rfl⟩ := zdivs_some (show zdivs _ _ _ _ _ _ = _ from h)
      exact ⟨Nat.le_refl _, Nat.le_refl _⟩
    | irem =>
      obtain rfl : len = 1 := by simpa [zlo] using hl
      obtain ⟨a, b', S', rfl, h0, rfl⟩ := zdivs_some (show zdivs _ _ _ _ _ _ = _ from h)
      exact ⟨Nat.le_refl _, Nat.le_refl _⟩
    | iand =>
      obtain rfl : len = 1 := by simpa [zlo] using hl
      obtain ⟨a, b', S', rfl, rfl⟩ := zint2_some (show zint2 _ _ _ _ _ _ = _ from h)
      exact ⟨Nat.le_refl _, Nat.le_refl _⟩
    | ior =>
      obtain rfl : len = 1 := by simpa [zlo] using hl
      obtain ⟨a, b', S', rfl, rfl⟩ := zint2_some (show zint2 _ _ _ _ _ _ = _ from h)
      exact ⟨Nat.le_refl _, Nat.le_refl _⟩
    | ishl =>
      obtain rfl : len = 1 := by simpa [zlo] using hl
      obtain ⟨a, b', S', rfl, rfl⟩ := zint2_some (show zint2 _ _ _ _ _ _ = _ from h)
      exact ⟨Nat.le_refl _, Nat.le_refl _⟩
    | ishr =>
      obtain rfl : len = 1 := by simpa [zlo] using hl
      obtain ⟨a, b', S', rfl, rfl⟩ := zint2_some (show zint2 _ _ _ _ _ _ = _ from h)
      exact ⟨Nat.le_refl _, Nat.le_refl _⟩
    | ladd =>
      obtain rfl : len = 1 := by simpa [zlo] using hl
      obtain ⟨a, b', S', rfl, rfl⟩ := zlong2_some (show zlong2 _ _ _ _ _ _ = _ from h)
      exact ⟨Nat.le_refl _, Nat.le_refl _⟩
    | lmul =>
      obtain rfl : len = 1 := by simpa [zlo] using hl
      obtain ⟨a, b', S', rfl, rfl⟩ := zlong2_some (show zlong2 _ _ _ _ _ _ = _ from h)
      exact ⟨Nat.le_refl _, Nat.le_refl _⟩
    | lrem =>
      obtain rfl : len = 1 := by simpa [zlo] using hl
      simp only [zstp] at h
      split at h
      · obtain ⟨h1, rfl⟩ := zif_go h
        exact ⟨Nat.le_refl _, Nat.le_refl _⟩
      · cases h
    | land =>
      obtain rfl : len = 1 := by simpa [zlo] using hl
      obtain ⟨a, b', S', rfl, rfl⟩ := zlong2_some (show zlong2 _ _ _ _ _ _ = _ from h)
      exact ⟨Nat.le_refl _, Nat.le_refl _⟩
    | lor =>
      obtain rfl : len = 1 := by simpa [zlo] using hl
      obtain ⟨a, b', S', rfl, rfl⟩ := zlong2_some (show zlong2 _ _ _ _ _ _ = _ from h)
      exact ⟨Nat.le_refl _, Nat.le_refl _⟩
    | lshl =>
      obtain rfl : len = 1 := by simpa [zlo] using hl
      obtain ⟨a, b', S', rfl, rfl⟩ := zlongi_some (show zlongi _ _ _ _ _ _ = _ from h)
      exact ⟨Nat.le_refl _, Nat.le_refl _⟩
    | lshr =>
      obtain rfl : len = 1 := by simpa [zlo] using hl
      obtain ⟨a, b', S', rfl, rfl⟩ := zlongi_some (show zlongi _ _ _ _ _ _ = _ from h)
      exact ⟨Nat.le_refl _, Nat.le_refl _⟩
    | lushr =>
      obtain rfl : len = 1 := by simpa [zlo] using hl
      obtain ⟨a, b', S', rfl, rfl⟩ := zlongi_some (show zlongi _ _ _ _ _ _ = _ from h)
      exact ⟨Nat.le_refl _, Nat.le_refl _⟩
    | i2l =>
      obtain rfl : len = 1 := by simpa [zlo] using hl
      simp only [zstp] at h
      split at h
      · obtain rfl := zgo_eq h
        exact ⟨Nat.le_refl _, Nat.le_refl _⟩
      · cases h
    | l2i =>
      obtain rfl : len = 1 := by simpa [zlo] using hl
      simp only [zstp] at h
      split at h
      · obtain rfl := zgo_eq h
        exact ⟨Nat.le_refl _, Nat.le_refl _⟩
      · cases h
    | dup =>
      obtain rfl : len = 1 := by simpa [zlo] using hl
      simp only [zstp, zdup] at h
      split at h
      · obtain rfl := zgo_eq h
        exact ⟨Nat.le_refl _, Nat.le_refl _⟩
      · obtain rfl := zgo_eq h
        exact ⟨Nat.le_refl _, Nat.le_refl _⟩
      · cases h
    | dup2 =>
      obtain rfl : len = 1 := by simpa [zlo] using hl
      simp only [zstp, zdup2] at h
      split at h
      · obtain rfl := zgo_eq h
        exact ⟨Nat.le_refl _, Nat.le_refl _⟩
      · cases h
    | pop =>
      obtain rfl : len = 1 := by simpa [zlo] using hl
      simp only [zstp, zpop] at h
      split at h
      · obtain rfl := zgo_eq h
        exact ⟨Nat.le_refl _, Nat.le_refl _⟩
      · cases h
    | ifCond cd off =>
      obtain rfl : len = 3 := by simpa [zlo] using hl
      obtain ⟨h1, h⟩ := zif_some (show zif _ (zift _ _ _ _ _ _ _) = _ from h)
      simp only [zift] at h
      split at h
      · obtain rfl := zgo_eq h
        exact ⟨Nat.le_refl _, Nat.le_refl _⟩
      · cases h
    | if_icmp cd off =>
      obtain rfl : len = 3 := by simpa [zlo] using hl
      obtain ⟨h1, h⟩ := zif_some (show zif _ (zicm _ _ _ _ _ _ _) = _ from h)
      simp only [zicm] at h
      split at h
      · obtain rfl := zgo_eq h
        exact ⟨Nat.le_refl _, Nat.le_refl _⟩
      · cases h
    | goto off =>
      obtain rfl : len = 3 := by simpa [zlo] using hl
      obtain ⟨h1, rfl⟩ := zif_go (show zif _ (zgo _ _ _ _ _) = _ from h)
      exact ⟨Nat.le_refl _, Nat.le_refl _⟩
    | tableswitch dd lo hi offs =>
      simp only [zstp] at h
      split at h
      · obtain ⟨h1, h⟩ := zif_some h
        simp only [Bool.and_eq_true, decide_eq_true_eq] at h1
        split at h
        · rename_i t e
          obtain rfl := zgo_eq h
          exact ⟨Nat.le_refl _, Nat.le_refl _⟩
        · cases h
      · cases h
    | lookupswitch dd ps =>
      simp only [zstp] at h
      split at h
      · obtain ⟨h1, rfl⟩ := zif_go h
        simp only [Bool.and_eq_true, decide_eq_true_eq] at h1
        exact ⟨Nat.le_refl _, Nat.le_refl _⟩
      · cases h
    | getfield i =>
      obtain rfl : len = 3 := by simpa [zlo] using hl
      obtain ⟨a, S', t, k, rfl, h1, h2, ⟨h3, h4, rfl⟩ | ⟨h3, rfl⟩⟩ := zgetf_some (show zgetf _ _ _ _ _ _ _ = _ from h)
      · exact ⟨Nat.le_refl _, Nat.le_refl _⟩
      · exact ⟨Nat.le_refl _, Nat.le_refl _⟩
    | putfield i =>
      obtain rfl : len = 3 := by simpa [zlo] using hl
      obtain ⟨a, S', t, k, h1, h2, ⟨h3, z, rfl, rfl⟩ | ⟨h3, h4, h5, y, rfl, rfl⟩⟩ := zputf_some (show zputf _ _ _ _ _ _ _ = _ from h)
      · exact ⟨Nat.le_refl _, Nat.le_refl _⟩
      · exact ⟨Nat.le_refl _, Nat.le_refl _⟩
    | iaload =>
      obtain rfl : len = 1 := by simpa [zlo] using hl
      rcases zarld_some (show zarld _ _ _ _ _ _ _ = _ from h) with ⟨i, a, S', rfl, h1, h2, rfl⟩ | ⟨i, S', n, f, rfl, h1, -, h2, rfl⟩
      · exact ⟨Nat.le_refl _, Nat.le_refl _⟩
      · exact ⟨Nat.le_refl _, Nat.le_refl _⟩
    | baload =>
      obtain rfl : len = 1 := by simpa [zlo] using hl
      rcases zarld_some (show zarld _ _ _ _ _ _ _ = _ from h) with ⟨i, a, S', rfl, h1, h2, rfl⟩ | ⟨i, S', n, f, rfl, h1, h3, h2, rfl⟩
      · exact ⟨Nat.le_refl _, Nat.le_refl _⟩
      · omega
    | iastore =>
      obtain rfl : len = 1 := by simpa [zlo] using hl
      obtain ⟨v, i, a, S', rfl, h1, h2, -, rfl⟩ := zarst_some (show zarst _ _ _ _ _ _ = _ from h)
      exact ⟨Nat.le_refl _, Nat.le_refl _⟩
    | bastore =>
      obtain rfl : len = 1 := by simpa [zlo] using hl
      obtain ⟨v, i, a, S', rfl, h1, h2, h3, rfl⟩ := zarst_some (show zarst _ _ _ _ _ _ = _ from h)
      exact ⟨Nat.le_refl _, Nat.le_refl _⟩
    | aaload =>
      obtain rfl : len = 1 := by simpa [zlo] using hl
      simp only [zstp, zaald] at h
      split at h
      · obtain ⟨h1, rfl⟩ := zif_go h
        simp only [Bool.and_eq_true, Bool.or_eq_true, decide_eq_true_eq, zCb_iff, zInb_iff] at h1
        obtain ⟨⟨h1, h2⟩, h3⟩ := h1
        exact ⟨Nat.le_refl _, Nat.le_refl _⟩
      · cases h
    | aastore =>
      obtain rfl : len = 1 := by simpa [zlo] using hl
      simp only [zstp, zaast] at h
      split at h
      · obtain ⟨h1, rfl⟩ := zif_go h
        simp only [Bool.and_eq_true, zCb_iff, zInb_iff] at h1
        obtain ⟨⟨h1, h2⟩, h3⟩ := h1
        exact ⟨Nat.le_refl _, Nat.le_refl _⟩
      · cases h
    | arraylength =>
      obtain rfl : len = 1 := by simpa [zlo] using hl
      simp only [zstp, zalen] at h
      split at h
      · obtain ⟨h1, rfl⟩ := zif_go h
        simp only [Bool.and_eq_true, decide_eq_true_eq] at h1
        exact ⟨Nat.le_refl _, Nat.le_refl _⟩
      · split at h
        · rename_i n f
          obtain rfl := zgo_eq h
          exact ⟨Nat.le_refl _, Nat.le_refl _⟩
        · cases h
      · cases h
    | new i =>
      obtain rfl : len = 3 := by simpa [zlo] using hl
      simp only [zstp, znewo] at h
      split at h
      · rename_i t e
        obtain ⟨h1, rfl⟩ := zif_go h
        simp only [Bool.and_eq_true, decide_eq_true_eq] at h1
        exact ⟨Nat.le_succ _, Nat.le_add_right _ _⟩
      · cases h
    | newarray ty =>
      obtain rfl : len = 2 := by simpa [zlo] using hl
      cases ty <;> first | (simp [zstp] at h; done) | skip
      · simp only [zstp, znewa] at h
        split at h
        · obtain ⟨h1, rfl⟩ := zif_go h
          simp only [Bool.and_eq_true, decide_eq_true_eq] at h1
          exact ⟨Nat.le_succ _, Nat.le_add_right _ _⟩
        · cases h
      · simp only [zstp, znewa] at h
        split at h
        · obtain ⟨h1, rfl⟩ := zif_go h
          simp only [Bool.and_eq_true, decide_eq_true_eq] at h1
          exact ⟨Nat.le_succ _, Nat.le_add_right _ _⟩
        · cases h
    | anewarray i =>
      obtain rfl : len = 3 := by simpa [zlo] using hl
      simp only [zstp] at h
      split at h
      · rename_i e
        simp only [znewa] at h
        split at h
        · obtain ⟨h1, rfl⟩ := zif_go h
          simp only [Bool.and_eq_true, decide_eq_true_eq] at h1
          exact ⟨Nat.le_succ _, Nat.le_add_right _ _⟩
        · cases h
      · cases h
    | multianewarray i dims =>
      obtain rfl : len = 4 := by simpa [zlo] using hl
      by_cases hdm : dims = 2
      · subst hdm
        simp only [zstp] at h
        split at h
        · rename_i e
          simp only [znewm] at h
          split at h
          · rename_i k n S' _
            obtain ⟨h1, h2⟩ := zif_some h
            have h2 := zgo_eq h2
            skip
            have N1 := znews_n (znew G 103 n.toNat) (zset H G.1 (fun _ => 0)) k.toNat n.toNat
            have N2 := znews_s (znew G 103 n.toNat) (zset H G.1 (fun _ => 0)) k.toNat n.toNat
            have z1 : (znew G 103 n.toNat).1 = G.1 + 1 := rfl
            have z2 : (znew G 103 n.toNat).2.1 = G.2.1 + n.toNat := rfl
            rw [z1] at N1
            rw [z2] at N1
            rw [z1] at N2
            generalize znews (znew G 103 n.toNat) (zset H G.1 (fun _ => 0)) k.toNat n.toNat = Z at h2 N1 N2
            subst h2
            exact ⟨by show G.1 ≤ Z.1.1; omega, by show G.2.1 ≤ Z.1.2.1; omega⟩
          · cases h
        · cases h
      · exfalso
        have : zstp o d q pc (.multianewarray i dims) 4 L S G H = none := by
          unfold zstp
          split <;> simp_all
        rw [this] at h
        cases h
    | invokevirtual i =>
      obtain ⟨h1, h⟩ := zif_some (show zif _ (zinv _ _ _ _ _ _ _ _) = _ from h)
      simp only [zinv] at h
      split at h
      · have := (zif_some h).1
        simp at this
      · split at h
        · obtain ⟨-, h⟩ := zif_some h
          split at h
          · have := (zif_some h).2
            cases this
          all_goals cases h
        · cases h
    | invokestatic i =>
      obtain rfl : len = 3 := by simpa [zlo] using hl
      obtain ⟨h1, h⟩ := zif_some (show zif _ (zinv _ _ _ _ _ _ _ _) = _ from h)
      simp only [zinv] at h
      split at h
      · rename_i bb e
        obtain ⟨h2, h⟩ := zif_some h
        simp at h2
        exact zbui_mono h
      · split at h
        · obtain ⟨-, h⟩ := zif_some h
          cases h
        · cases h
    | invokespecial i =>
      obtain rfl : len = 3 := by simpa [zlo] using hl
      obtain ⟨h1, h⟩ := zif_some (show zif _ (zinv _ _ _ _ _ _ _ _) = _ from h)
      simp only [zinv] at h
      split at h
      · rename_i bb e
        obtain ⟨h2, h⟩ := zif_some h
        simp at h2
        exact zbui_mono h
      · split at h
        · obtain ⟨-, h⟩ := zif_some h
          split at h
          · have := (zif_some h).2
            cases this
          all_goals cases h
        · cases h
    | ireturn =>
      simp only [zstp, zret] at h
      split at h
      · split at h
        · cases h
        · have := (zif_some h).2
          cases this
        · cases h
      · cases h
    | return_ =>
      simp only [zstp] at h
      split at h <;> cases h
    | _ => simp [zstp] at h
  next => cases h
end
section
/-! calls: the stack's arguments, the locals at the entry, what a call and an end are -/
theorem zSR_app {n : Nat} {ad : Nat → Nat} {b : Nat} : ∀ {X Y : List zV} {t : List Value}, zSR n ad b (X ++ Y) t → ∃ t1 t2, t = t1 ++ t2 ∧ zSR n ad b X t1 ∧ zSR n ad b Y t2
  | [], Y, t, h => ⟨[], t, rfl, rfl, h⟩
  | v :: X, Y, t, ⟨x, t', e, hv, hS⟩ => by
    obtain ⟨t1, t2, e1, h1, h2⟩ := zSR_app hS
    exact ⟨x :: t1, t2, by rw [e, e1]; rfl, ⟨x, t1, rfl, hv, h1⟩, h2⟩
theorem zSR_cat {n : Nat} {ad : Nat → Nat} {b : Nat} : ∀ {X Y : List zV} {t1 t2 : List Value}, zSR n ad b X t1 → zSR n ad b Y t2 → zSR n ad b (X ++ Y) (t1 ++ t2)
  | [], Y, t1, t2, h1, h2 => by rw [show t1 = [] from h1]; exact h2
  | v :: X, Y, t1, t2, ⟨x, t', e, hv, hS⟩, h2 => by
    rw [e]
    exact ⟨x, t' ++ t2, rfl, hv, zSR_cat hS h2⟩
theorem zSR_rev {n : Nat} {ad : Nat → Nat} {b : Nat} : ∀ {X : List zV} {t : List Value}, zSR n ad b X t → zSR n ad b X.reverse t.reverse
  | [], t, h => by rw [show t = [] from h]; exact rfl
  | v :: X, t, ⟨x, t', e, hv, hS⟩ => by
    rw [e, List.reverse_cons, List.reverse_cons]
    exact zSR_cat (zSR_rev hS) ⟨x, [], rfl, hv, rfl⟩
theorem zSR_len {n : Nat} {ad : Nat → Nat} {b : Nat} : ∀ {X : List zV} {t : List Value}, zSR n ad b X t → t.length = X.length
  | [], t, h => by rw [show t = [] from h]; rfl
  | v :: X, t, ⟨x, t', e, hv, hS⟩ => by rw [e, List.length_cons, List.length_cons, zSR_len hS]
theorem zcat1 {n : Nat} {ad : Nat → Nat} {b : Nat} {v : zV} {x : Value} (h : zVR n ad b v x) (hv : ∀ z, v ≠ .inr (.inl z)) : ¬ x.category = 2 := fun hc => by
  obtain ⟨z, hz⟩ := zVR_cat h hc
  exact hv z hz
theorem zlx_len {n : Nat} {ad : Nat → Nat} {b : Nat} : ∀ {as : List zV} {vs : List Value}, zSR n ad b as vs → (lg_sl vs).length = (zlx as).length
  | [], t, h => by rw [show t = [] from h]; rfl
  | .inl z :: X, t, ⟨x, t', e, hv, hS⟩ => by
    have ih := zlx_len hS
    have hc := zcat1 hv (fun z h => by cases h)
    rw [e]
    simp only [lg_sl, List.flatMap_cons, if_neg hc, zlx, List.length_append, List.length_cons, List.length_nil] at ih ⊢
    omega
  | .inr (.inl z) :: X, t, ⟨x, t', e, hv, hS⟩ => by
    have ih := zlx_len hS
    obtain ⟨y, rfl, -⟩ := hv
    have hc : (Value.long y).category = 2 := rfl
    rw [e]
    simp only [lg_sl, List.flatMap_cons, if_pos hc, zlx, List.length_append, List.length_cons, List.length_nil] at ih ⊢
    omega
  | .inr (.inr z) :: X, t, ⟨x, t', e, hv, hS⟩ => by
    have ih := zlx_len hS
    have hc := zcat1 hv (fun z h => by cases h)
    rw [e]
    simp only [lg_sl, List.flatMap_cons, if_neg hc, zlx, List.length_append, List.length_cons, List.length_nil] at ih ⊢
    omega
theorem zlx_at {n : Nat} {ad : Nat → Nat} {b : Nat} : ∀ {as : List zV} {vs : List Value}, zSR n ad b as vs → ∀ (i j : Nat) (v : zV), (zlx as)[j]? = some v → v ≠ vu → ∃ x, zVR n ad b v x ∧ (i + j, x) ∈ lv_args i vs
  | [], t, h, i, j, v, hj, hv => by simp [zlx] at hj
  | .inl z :: X, t, ⟨x, t', e, hv, hS⟩, i, j, v, hj, hn => by
    have hc := zcat1 hv (fun z h => by cases h)
    rw [e]
    simp only [lv_args, if_neg hc]
    cases j with
    | zero =>
      simp only [zlx, List.getElem?_cons_zero] at hj
      cases hj
      exact ⟨x, hv, List.mem_cons_self⟩
    | succ j =>
      simp only [zlx, List.getElem?_cons_succ] at hj
      obtain ⟨y, h1, h2⟩ := zlx_at hS (i + 1) j v hj hn
      exact ⟨y, h1, List.mem_cons_of_mem _ (by rw [show i + (j + 1) = i + 1 + j by omega]; exact h2)⟩
  | .inr (.inl z) :: X, t, ⟨x, t', e, hv, hS⟩, i, j, v, hj, hn => by
    have hc : x.category = 2 := by
      obtain ⟨y, rfl, -⟩ := hv
      rfl
    rw [e]
    simp only [lv_args, if_pos hc]
    match j, hj with
    | 0, hj =>
      simp only [zlx, List.getElem?_cons_zero] at hj
      cases hj
      exact ⟨x, hv, List.mem_cons_self⟩
    | 1, hj =>
      simp only [zlx, List.getElem?_cons_succ, List.getElem?_cons_zero] at hj
      cases hj
      exact absurd rfl hn
    | j + 2, hj =>
      simp only [zlx, List.getElem?_cons_succ] at hj
      obtain ⟨y, h1, h2⟩ := zlx_at hS (i + 2) j v hj hn
      exact ⟨y, h1, List.mem_cons_of_mem _ (by rw [show i + (j + 2) = i + 2 + j by omega]; exact h2)⟩
  | .inr (.inr z) :: X, t, ⟨x, t', e, hv, hS⟩, i, j, v, hj, hn => by
    have hc := zcat1 hv (fun z h => by cases h)
    rw [e]
    simp only [lv_args, if_neg hc]
    cases j with
    | zero =>
      simp only [zlx, List.getElem?_cons_zero] at hj
      cases hj
      exact ⟨x, hv, List.mem_cons_self⟩
    | succ j =>
      simp only [zlx, List.getElem?_cons_succ] at hj
      obtain ⟨y, h1, h2⟩ := zlx_at hS (i + 1) j v hj hn
      exact ⟨y, h1, List.mem_cons_of_mem _ (by rw [show i + (j + 1) = i + 1 + j by omega]; exact h2)⟩
theorem zent {n : Nat} {ad : Nat → Nat} {b : Nat} {m : zM} {as : List zV} {vs : List Value} (h : zSR n ad b as vs) (hl : (zlx as).length ≤ m.2.2.2.1) : zLR n ad b m.2.2.2.1 (zloc m as) ((lg_sl vs ++ List.replicate (m.2.2.2.1 - (lg_sl vs).length) Slot.unset).toArray) := by
  have e := zlx_len h
  refine ⟨?_, lv_args 0 vs, lv_entry vs (by rw [e]; exact hl), fun j v hj hv => ?_⟩
  · unfold zloc
    rw [List.length_append, List.length_replicate]
    omega
  · unfold zloc at hj
    rcases Nat.lt_or_ge j (zlx as).length with q | q
    · rw [List.getElem?_append_left q] at hj
      obtain ⟨x, h1, h2⟩ := zlx_at h 0 j v hj hv
      exact ⟨x, h1, by rw [Nat.zero_add] at h2; exact h2⟩
    · rw [List.getElem?_append_right q, List.getElem?_replicate] at hj
      split at hj
      · cases hj
        exact absurd rfl hv
      · cases hj
/-- what an end is -/
theorem zst_ret {o : Option (Nat × (Int → Int))} {d : Nat} {q : zM} {pc : Nat} {L S : List zV} {G : zG} {H : zH} {r : Option zV} (h : zst o d q pc L S G H = some (.inr (.inl r))) :
    (decode q.2.2.1 pc = .ok (.ireturn, 1) ∧ ∃ z, S = [.inl z] ∧ r = some (vi z) ∧ (q.2.2.2.2.1 = some .int ∨ (q.2.2.2.2.1 = some .boolean ∧ (z = 0 ∨ z = 1)))) ∨ (decode q.2.2.1 pc = .ok (.return_, 1) ∧ S = [] ∧ r = none ∧ q.2.2.2.2.1 = none) := by
  unfold zst at h
  split at h
  next op len hd =>
    obtain ⟨hl, h⟩ := zif_some h
    cases op with
    | ireturn =>
      obtain rfl : len = 1 := by simpa [zlo] using hl
      refine Or.inl ⟨hd, ?_⟩
      simp only [zstp, zret] at h
      split at h
      · rename_i z _
        split at h
        · rename_i e
          cases h
          exact ⟨z, rfl, rfl, Or.inl e⟩
        · rename_i e
          obtain ⟨h1, h2⟩ := zif_some h
          cases h2
          simp only [Bool.or_eq_true, decide_eq_true_eq] at h1
          exact ⟨z, rfl, rfl, Or.inr ⟨e, h1⟩⟩
        · cases h
      · cases h
    | return_ =>
      obtain rfl : len = 1 := by simpa [zlo] using hl
      refine Or.inr ⟨hd, ?_⟩
      simp only [zstp] at h
      split at h
      · rename_i e _
        cases h
        exact ⟨rfl, rfl, e⟩
      · cases h
    | _ =>
      exfalso
      revert h
      simp only [zstp, zld, zlld, zald, zist, zlst, zast, zint2, zlong2, zlongi, zdivs, zgetf, zputf, zarld, zarst, zaald, zaast, zalen, znewo, znewa, znewm, zdup, zdup2, zpop, ziinc, zift, zicm, zinv, zbui, zgo, zif]
      intro h
      repeat' (split at h)
      all_goals (first | contradiction | cases h | (exact absurd h (by simp)))
  next => cases h
/-- what a call is -/
def zcall (q : zM) (d pc i k na : Nat) (m' : zM) (as S S' : List zV) (G : zG) : Prop := 1 ≤ d ∧ zmt q.1 i = some (k, m', na) ∧ S = as.reverse ++ S' ∧ as.length = na ∧ S'.length ≤ 4 ∧ (zlx as).length ≤ m'.2.2.2.1 ∧
  ((k = 0 ∧ decode q.2.2.1 pc = .ok (.invokevirtual i, 3) ∧ ∃ a as', as = .inr (.inr (.inl a)) :: as' ∧ a < G.1 ∧ (G.2.2.1 a).1 = m'.1) ∨ ((k = 1 ∨ k = 2) ∧ decode q.2.2.1 pc = .ok (.invokestatic i, 3)) ∨ ((k = 3 ∨ k = 4) ∧ decode q.2.2.1 pc = .ok (.invokespecial i, 3) ∧ ∃ a as', as = .inr (.inr (.inl a)) :: as'))
theorem zinv_some {q : zM} {t i pc : Nat} {L S : List zV} {G : zG} {H : zH} {m' : zM} {as S' : List zV} (h : zinv q t i pc L S G H = some (.inr (.inr (m', as, S')))) : ∃ k na, zmt q.1 i = some (k, m', na) ∧ S = as.reverse ++ S' ∧ as.length = na ∧ S'.length ≤ 4 ∧ (zlx as).length ≤ m'.2.2.2.1 ∧ (k = t ∨ (t ≠ 0 ∧ k = t + 1)) ∧ ((t = 0 ∧ ∃ a as', as = .inr (.inr (.inl a)) :: as' ∧ a < G.1 ∧ (G.2.2.1 a).1 = m'.1) ∨ (t = 3 ∧ ∃ a as', as = .inr (.inr (.inl a)) :: as') ∨ t = 1) := by
  unfold zinv at h
  split at h
  · exfalso
    obtain ⟨-, h⟩ := zif_some h
    unfold zbui zgo at h
    split at h
    all_goals (first | (have := (zif_some h).2; cases this; done) | cases h)
  · split at h
    · rename_i k m1 na e
      obtain ⟨h1, h⟩ := zif_some h
      simp only [Bool.and_eq_true, decide_eq_true_eq] at h1
      obtain ⟨⟨⟨c1, c2⟩, c3⟩, c4⟩ := h1
      have hS : S = (S.take na).reverse.reverse ++ S.drop na := by rw [List.reverse_reverse, List.take_append_drop]
      have hn : (S.take na).reverse.length = na := by rw [List.length_reverse, List.length_take]; omega
      have hd : (S.drop na).length ≤ 4 := by rw [List.length_drop]; omega
      split at h
      · rename_i a as' e2 _
        obtain ⟨h2, h⟩ := zif_some h
        cases h
        rw [e2] at hS hn c3
        exact ⟨k, na, e, hS, hn, hd, c3, c4, Or.inl ⟨rfl, a, as', rfl, zCb_iff.mp h2⟩⟩
      · rename_i a as' e2 _
        cases h
        rw [e2] at hS hn c3
        exact ⟨k, na, e, hS, hn, hd, c3, c4, Or.inr (Or.inl ⟨rfl, a, as', rfl⟩)⟩
      · cases h
        exact ⟨k, na, e, hS, hn, hd, c3, c4, Or.inr (Or.inr rfl)⟩
      · cases h
    · cases h
theorem zst_call {o : Option (Nat × (Int → Int))} {d : Nat} {q : zM} {pc : Nat} {L S : List zV} {G : zG} {H : zH} {m' : zM} {as S' : List zV} (h : zst o d q pc L S G H = some (.inr (.inr (m', as, S')))) : ∃ i k na, zcall q d pc i k na m' as S S' G := by
  unfold zst at h
  split at h
  next op len hd =>
    obtain ⟨hl, h⟩ := zif_some h
    cases op with
    | invokevirtual i =>
      obtain rfl : len = 3 := by simpa [zlo] using hl
      obtain ⟨h1, h⟩ := zif_some (show zif _ (zinv _ _ _ _ _ _ _ _) = _ from h)
      obtain ⟨k, na, c1, c2, c3, c4, c5, c6, c7⟩ := zinv_some h
      refine ⟨i, k, na, by simpa using h1, c1, c2, c3, c4, c5, ?_⟩
      rcases c7 with ⟨-, c7⟩ | ⟨c7, -⟩ | c7
      · exact Or.inl ⟨by omega, hd, c7⟩
      · omega
      · omega
    | invokestatic i =>
      obtain rfl : len = 3 := by simpa [zlo] using hl
      obtain ⟨h1, h⟩ := zif_some (show zif _ (zinv _ _ _ _ _ _ _ _) = _ from h)
      obtain ⟨k, na, c1, c2, c3, c4, c5, c6, c7⟩ := zinv_some h
      refine ⟨i, k, na, by simpa using h1, c1, c2, c3, c4, c5, ?_⟩
      exact Or.inr (Or.inl ⟨by omega, hd⟩)
    | invokespecial i =>
      obtain rfl : len = 3 := by simpa [zlo] using hl
      obtain ⟨h1, h⟩ := zif_some (show zif _ (zinv _ _ _ _ _ _ _ _) = _ from h)
      obtain ⟨k, na, c1, c2, c3, c4, c5, c6, c7⟩ := zinv_some h
      refine ⟨i, k, na, by simpa using h1, c1, c2, c3, c4, c5, ?_⟩
      rcases c7 with ⟨c7, -⟩ | ⟨-, c7⟩ | c7
      · omega
      · exact Or.inr (Or.inr ⟨by omega, hd, c7⟩)
      · omega
    | _ =>
      exfalso
      revert h
      simp only [zstp, zld, zlld, zald, zist, zlst, zast, zint2, zlong2, zlongi, zdivs, zgetf, zputf, zarld, zarst, zaald, zaast, zalen, znewo, znewa, znewm, zdup, zdup2, zpop, ziinc, zift, zicm, zret, zgo, zif]
      intro h
      repeat' (split at h)
      all_goals (first | contradiction | cases h | (exact absurd h (by simp)))
  next => cases h
theorem zexec_mono : ∀ (n : Nat) {o : Option (Nat × (Int → Int))} {d : Nat} {q : zM} {pc : Nat} {L S : List zV} {G G' : zG} {H H' : zH} {r : Option zV}, zexec n o d q pc L S G H = some (r, G', H') → G.1 ≤ G'.1 ∧ G.2.1 ≤ G'.2.1
  | 0, o, d, q, pc, L, S, G, G', H, H', r, h => by simp [zexec] at h
  | n + 1, o, d, q, pc, L, S, G, G', H, H', r, h => by
    rw [zexec] at h
    split at h
    · cases h
    · rename_i pc1 L1 S1 G1 H1 e
      have m1 := zst_mono e
      have m2 := zexec_mono n h
      exact ⟨Nat.le_trans m1.1 m2.1, Nat.le_trans m1.2 m2.2⟩
    · cases h
      exact ⟨Nat.le_refl _, Nat.le_refl _⟩
    · split at h
      · cases h
      · rename_i r1 G1 H1 e2
        have m1 := zexec_mono n e2
        have m2 := zexec_mono n h
        exact ⟨Nat.le_trans m1.1 m2.1, Nat.le_trans m1.2 m2.2⟩
theorem zexec_ret : ∀ (n : Nat) {o : Option (Nat × (Int → Int))} {d : Nat} {q : zM} {pc : Nat} {L S : List zV} {G G' : zG} {H H' : zH} {r : Option zV}, zexec n o d q pc L S G H = some (r, G', H') → ((q.2.2.2.2.1 = some .int ∨ q.2.2.2.2.1 = some .boolean) ∧ ∃ z, r = some (vi z)) ∨ (q.2.2.2.2.1 = none ∧ r = none)
  | 0, o, d, q, pc, L, S, G, G', H, H', r, h => by simp [zexec] at h
  | n + 1, o, d, q, pc, L, S, G, G', H, H', r, h => by
    rw [zexec] at h
    split at h
    · cases h
    · exact zexec_ret n h
    · rename_i r0 e
      cases h
      rcases zst_ret e with ⟨-, z, -, h1, h2⟩ | ⟨-, -, h1, h2⟩
      · exact Or.inl ⟨by rcases h2 with h2 | h2; exact Or.inl h2; exact Or.inr h2.1, z, h1⟩
      · exact Or.inr ⟨h2, h1⟩
    · split at h
      · cases h
      · exact zexec_ret n h
end
section
/-! THE SMALL MACHINE's RUNS ARE THE MACHINE's -/
/-- an answer -/
def zAns (n : Nat) (ad : Nat → Nat) (b : Nat) : Option zV → Option Value → Prop
  | none, rv => rv = none
  | some v, rv => ∃ x, rv = some x ∧ zVR n ad b v x
/-- the world behind a call -/
def zBk (D : va_G) (cs : zCs) (A1 : Nat → Prop) (G G1 : zG) (H1 : zH) (ad : Nat → Nat) (b : Nat) (r : Option zV) (rv : Option Value) (t : State) : Prop :=
  ∃ (ad' : Nat → Nat) (ws' : va_W), (∀ k, k < G.1 → ad' k = ad k) ∧ zWR cs G1 H1 ad' ws' ∧ va_P D vwCl ws' t.heap ∧ va_D A1 ws' ∧ zAns G1.1 ad' b r rv
def zrm (d mc ms : Nat) : Room := { frames := d, cells := mc, slots := ms, locals := 60 * d }
def zIH (o : Option (Nat × (Int → Int))) (d : Nat) (q : zM) (pc : Nat) (L S : List zV) (G : zG) (H : zH) (r : Option zV) (G' : zG) (H' : zH) : Prop :=
  ∀ (p : Program) (l : Launch) (e : Env) (R : Room) (s : State) (m : MethodId) (args : Array Value) (below : List Frame) (meth : Method) (c : Code) (Q : State → Prop) (D : va_G) (cs : zCs) (A : Nat → Prop) (b n0 s0 : Nat) (ad0 : Nat → Nat), zCx p s m args meth c D cs A q → zSc s A b o → (d ≤ R.frames ∧ 60 * d ≤ R.locals) → G'.1 - n0 ≤ R.cells → G'.2.1 - s0 ≤ R.slots → (∀ (pc' : Nat) (L' S' : List zV), zst o d q pc' L' S' G' H' = some (.inr (.inl r)) → zGo p l e R s m args below meth c Q D cs A b n0 s0 ad0 q pc' L' S' G' H') → zGo p l e R s m args below meth c Q D cs A b n0 s0 ad0 q pc L S G H
theorem zKn_moved {D : va_G} {cs : zCs} {s U : State} (hW : s.WarmedH U.vm) (h : zKn D cs s) : zKn D cs U := ⟨va_K.moved hW.alike h.1, fun q hq => va_Nw.warmM hW (h.2.1 q hq), va_AO.moved hW.alike h.2.2.1, zAOA_moved hW.alike h.2.2.2⟩
theorem zKn_calling {D : va_G} {cs : zCs} {U : State} {g : JFrame} {mk : MethodId} {a : Array Value} (h : zKn D cs U) : zKn D cs (U.calling g mk a) := ⟨va_K.moved (u := U) (U := U.calling g mk a) (Vm.Alike.refl U.vm) h.1, fun q hq => va_Nw.same rfl rfl (h.2.1 q hq), va_AO.moved (u := U) (U := U.calling g mk a) (Vm.Alike.refl U.vm) h.2.2.1, zAOA_moved (u := U) (U := U.calling g mk a) (Vm.Alike.refl U.vm) h.2.2.2⟩
/-- a callee's contract at a heap -/
theorem zmet {l : Launch} {D : va_G} {cs : zCs} {b d : Nat} {q : zM} {as : List zV} {vs : List Value} {G G1 : zG} {H H1 : zH} {r : Option zV} {ad : Nat → Nat} {ws : va_W} {Hr : Heap} {A : Nat → Prop} (hpl : plainName q.2.1.cls = true) (hcl : q.2.1.cls = zcn q.1) (IH : zIH none d q 0 (zloc q as) [] G H r G1 H1) (hm : G.1 ≤ G1.1 ∧ G.2.1 ≤ G1.2.1)
    (hW : zWR cs G H ad ws) (hP : va_P D vwCl ws Hr) (hD : va_D A ws) (hA : zSR G.1 ad b as vs) (hl : (zlx as).length ≤ q.2.2.2.1) (Qc : Array Value → State → Outcome → State → Prop)
    (hq : ∀ (s' t : State) (rv : Option Value), s'.heap = Hr → zBk D cs (va_A ws Hr.size) G G1 H1 ad b r rv t → va_F (va_A ws Hr.size) s' t → Qc vs.toArray s' (.returned rv) t) :
    Met l q.2.1 (Cond.code q.2.1 q.2.2.1 q.2.2.2.1 q.2.2.2.2.1 :: zTB) (zrm d (G1.1 - G.1) (G1.2.1 - G.2.1)) (fun v U => v = vs.toArray ∧ U.heap = Hr ∧ zKn D cs U) Qc (G1.1 - G.1) (G1.2.1 - G.2.1) (va_A ws Hr.size) := by
  refine Met.ofW (cc := q.2.2.1) (maxL := q.2.2.2.1) (ret := q.2.2.2.2.1) hpl rfl ?_
  intro p e s m args below meth c s₁ B hml hv
  obtain ⟨rfl, hh, hKn⟩ := hv
  have hts := atoms_spec (ws := Cond.code q.2.1 q.2.2.1 q.2.2.2.1 q.2.2.2.2.1 :: zTB) B.pre
  have hown : s.vm.findClass q.2.1.cls = some m.cls := findClass_of_methodNamed B.named
  rw [hcl] at hown
  have hC : zCx p s m vs.toArray meth c D cs (va_A ws Hr.size) q := ⟨B.exec, B.bytes, hml, hown, fun w hw => hts w (List.mem_cons_of_mem _ hw), fun hn => by rw [← hn]; exact (name_of_methodNamed B.named B.method).1, hKn, fun x hx => Or.inr (by rw [← hh]; exact hx)⟩
  have hlocks := B.notSynchronized
  have hr := B.returns
  have hx := B.exec
  have hb := B.bytes
  rw [lg_entry_eq]
  have K := IH p l e (zrm d (G1.1 - G.1) (G1.2.1 - G.2.1)) s m vs.toArray below meth c (MQ below Qc vs.toArray s (G1.1 - G.1) (G1.2.1 - G.2.1) (va_A ws Hr.size)) D cs (va_A ws Hr.size) b G.1 G.2.1 ad hC (fun x h => by cases h) ⟨Nat.le_refl _, Nat.le_refl _⟩ (Nat.le_refl _) (Nat.le_refl _) ?_ ad ws s.heap [] _ [] (fun _ _ => rfl) (Nat.le_refl _) (Nat.le_refl _) hW (by rw [hh]; exact hP) hD.self va_S.rf (zent hA hl) rfl
  · rw [Nat.sub_self, Nat.sub_self] at K
    exact K
  · intro pc' L' S' hst
    intro ad' ws' Hr' locs ls stk a1 a2 a3 hW' hP' hD' hS' hL' hstk
    rcases zst_ret hst with ⟨hd, z, rfl, rfl, hty⟩ | ⟨hd, rfl, rfl, hty⟩
    · obtain ⟨x, t, rfl, hz, ht⟩ := zSi hstk
      obtain rfl : t = [] := ht
      have hQ : ∀ t : State, t.heap = Hr' → s.WarmedH t.vm → Qc vs.toArray s (.returned (some (.int x))) t := fun t ht hw => hq s t _ hh ⟨ad', ws', a1, hW', by rw [ht]; exact hP', hD', ⟨_, rfl, x, rfl, hz⟩⟩ (hS'.F ht)
      rcases hty with hty | ⟨hty, hz01⟩
      · exact W.iret hx hb (by rw [hr, hty]) hQ hS'.2.2 hd
      · refine W.zret (ty := .boolean) hx hb (by rw [hr, hty]) ?_ hQ hS'.2.2 hd
        have e0 : x = Int32.ofInt z := (zof32 hz).symm
        rcases hz01 with rfl | rfl <;> (rw [e0]; rfl)
    · obtain rfl : stk = [] := hstk
      exact W.vret hx hb (by rw [hr, hty]) (fun t ht hw => hq s t _ hh ⟨ad', ws', a1, hW', by rw [ht]; exact hP', hD', rfl⟩ (hS'.F ht)) hS'.2.2 hd
theorem zar1 {a b n r : Nat} (h1 : n ≤ a) (h2 : a ≤ b) (h3 : b - n ≤ r) : (a - n) + (b - a) ≤ r := by omega
theorem zar2 {a b n : Nat} (h1 : n ≤ a) (h2 : a ≤ b) : (a - n) + (b - a) = b - n := by omega
theorem zgood {ws : List Cond} (h1 : ∀ w ∈ ws, w ∈ zTB) : GoodIn zTB ws := fun w hw => ⟨h1 w hw, good_of_word (List.mem_filter.mp (h1 w hw)).2⟩
section ZCL
variable {p : Program} {l : Launch} {e : Env} {R : Room} {s : State} {m : MethodId} {args : Array Value} {below : List Frame} {meth : Method} {c : Code} {Q : State → Prop} {D : va_G} {cs : zCs} {A : Nat → Prop} {b n0 s0 : Nat} {ad0 : Nat → Nat} {q : zM} {pc : Nat} {L S : List zV} {G : zG} {H : zH}
/-- a call -/
theorem zs_call (C : zCx p s m args meth c D cs A q) {d i k na : Nat} {m' : zM} {as S' : List zV} {G1 : zG} {H1 : zH} {r : Option zV} (hR : d ≤ R.frames ∧ 60 * d ≤ R.locals) (hc : zcall q d pc i k na m' as S S' G) (IH : zIH none (zdn d m') m' 0 (zloc m' as) [] G H r G1 H1) (hm : G.1 ≤ G1.1 ∧ G.2.1 ≤ G1.2.1) (hret : ((m'.2.2.2.2.1 = some .int ∨ m'.2.2.2.2.1 = some .boolean) ∧ ∃ z, r = some (vi z)) ∨ (m'.2.2.2.2.1 = none ∧ r = none)) (r1 : G1.1 - n0 ≤ R.cells) (r2 : G1.2.1 - s0 ≤ R.slots)
    (K : zGo p l e R s m args below meth c Q D cs A b n0 s0 ad0 q (pc + 3) L (r.toList ++ S') G1 H1) : zGo p l e R s m args below meth c Q D cs A b n0 s0 ad0 q pc L S G H := by
  intro ad ws Hr locs ls stk a1 a2 a3 hW hP hD hS hL hst
  obtain ⟨hx, hb, hml, hown, hts, hin, hK, hA⟩ := C
  obtain ⟨hd1, hmt, rfl, hna, hS4, hlx, hkind⟩ := hc
  obtain ⟨hc11, hin⟩ := zm_in hmt
  obtain ⟨⟨A1, A2⟩, A3, A4⟩ := zm_A _ hc11 _ hin
  obtain ⟨B1, B2, B3⟩ := zm_C _ hc11 _ hin
  obtain ⟨D1, D2⟩ := zm_D _ hc11 _ hin
  obtain ⟨W1, W2, W3, W4, W5⟩ := zm_w hmt
  have hini : Cond.initialized m'.2.1.cls ∈ zTB := by rw [A2]; exact (zk_mk A1).2
  have hcode : Cond.code m'.2.1 m'.2.2.1 m'.2.2.2.1 m'.2.2.2.2.1 ∈ zTB := zTB_of W1 rfl
  have hwords : ∀ w ∈ Cond.code m'.2.1 m'.2.2.1 m'.2.2.2.1 m'.2.2.2.2.1 :: zTB, w ∈ zTB := fun w hw => by
    rcases List.mem_cons.mp hw with rfl | h
    · exact hcode
    · exact h
  obtain ⟨t1, t2, rfl, hs1, hs2⟩ := zSR_app hst
  have hvs : zSR G.1 ad b as t1.reverse := by
    have := zSR_rev hs1
    rw [List.reverse_reverse] at this
    exact this
  have hcat := zcat_le hs2
  have hdn : zdn d m' + 1 ≤ d := by
    unfold zdn
    split <;> omega
  have hsz : ls.size = q.2.2.2.1 := hL.2.choose_spec.1.1
  generalize hA1 : va_A ws Hr.size = A1' at *
  have hA0 : ∀ x, A1' x → A x := by
    intro x hx1
    rw [← hA1] at hx1
    rcases hx1 with ⟨j, e', hj⟩ | hx1
    · exact hD.2 j _ hj
    · exact hA x (Nat.le_trans hS.1 hx1)
  have hRR : (zrm (zdn d m') (G1.1 - G.1) (G1.2.1 - G.2.1)).frames + 1 ≤ R.frames ∧ 8 + (m'.2.2.2.1 + 11) + (zrm (zdn d m') (G1.1 - G.1) (G1.2.1 - G.2.1)).locals ≤ R.locals := by
    refine ⟨by show zdn d m' + 1 ≤ _; omega, ?_⟩
    show 8 + (m'.2.2.2.1 + 11) + 60 * zdn d m' ≤ _
    have : m'.2.2.2.1 ≤ 40 := A3
    omega
  have hf : (G.1 - n0) + (G1.1 - G.1) ≤ R.cells ∧ (G.2.1 - s0) + (G1.2.1 - G.2.1) ≤ R.slots := ⟨zar1 a2 hm.1 r1, zar1 a3 hm.2 r2⟩
  have hlen : t1.reverse.length = na := by rw [zSR_len hvs, hna]
  have hPb : FrameBlind (fun (v : Array Value) (U : State) => v = t1.reverse.toArray ∧ U.heap = Hr ∧ zKn D cs U) := fun a U g mk z => ⟨z.1, z.2.1, zKn_calling z.2.2⟩
  have hPs : ∀ U : State, U.heap = Hr → s.WarmedH U.vm → (fun (v : Array Value) (U : State) => v = t1.reverse.toArray ∧ U.heap = Hr ∧ zKn D cs U) t1.reverse.toArray U := fun U h1 h2 => ⟨rfl, h1, zKn_moved h2 hK⟩
  have hroom : 2 * (F0 m pc ls (t1 ++ t2)).monitorRoom + (t2.map fun v => v.category).sum ≤ 8 := lv_room (by omega)
  have hstk : t1 ++ t2 = t1.reverse.reverse ++ t2 := by rw [List.reverse_reverse]
  -- the run, whatever the end is
  have run : ∀ (Qc : Array Value → State → Outcome → State → Prop), (∀ (s' t : State) (rv : Option Value), s'.heap = Hr → zBk D cs A1' G G1 H1 ad b r rv t → va_F A1' s' t → Qc t1.reverse.toArray s' (.returned rv) t) →
      va_Run p l e R s m args below meth c Hr locs (G.1 - n0) (G.2.1 - s0) (G1.1 - G.1) (G1.2.1 - G.2.1) (F0 m pc ls (t1 ++ t2)) t2 (Qc t1.reverse.toArray) A1' := by
    intro Qc hq
    have hM := zmet (l := l) (D := D) (cs := cs) (b := b) (vs := t1.reverse) B1 A2 IH hm hW hP hD hvs hlx Qc (by rw [hA1]; exact hq)
    rw [hA1] at hM
    rcases hkind with ⟨rfl, hdc, a, as', rfl, ha, hta⟩ | ⟨hk, hdc⟩ | ⟨hk, hdc, a, as', rfl⟩
    · obtain ⟨x, vs', hv', ⟨hal, rfl⟩, hvs'⟩ := hvs
      rw [hv'] at hM hstk hlen hPb hPs ⊢
      obtain ⟨fs, g1, -⟩ := zWR_obj hW ha hta A1
      have hrec := va_recv (D := D) (tys := ztys cs) hK.1 hP (zk_cl A1) g1
      refine va_runV (As := vs') (C := m'.2.1.cls) (own := zcn q.1) (Ts := zTB) ⟨hx, hb, hml, hown, hts⟩ hM (cwV (na - 1) hts (zgood ?_) rfl rfl rfl ⟨rfl, B2, B3, by simpa using D1⟩ hRR) ⟨hPb, ?_, hPs⟩ rfl (by simp at hlen; omega) hsz (by rw [hstk]; simp) hroom hdc hf
      · intro w hw
        unfold wsV at hw
        rcases List.mem_append.mp hw with h | h
        · simp only [List.mem_cons, List.not_mem_nil, or_false] at h
          rcases h with rfl | rfl | rfl | rfl
          · exact zTB_of (W2 (Or.inl rfl)) rfl
          · exact zTB_of (W3 (Or.inl rfl)) rfl
          · exact zTB_of (W4 rfl) rfl
          · exact hini
        · exact hwords w h
      · rw [A2]
        exact hrec
    · rcases hk with rfl | rfl
      · refine va_runS (As := t1.reverse) (own := zcn q.1) (Ts := zTB) ⟨hx, hb, hml, hown, hts⟩ hM (cwS na hts (zgood ?_) rfl rfl rfl ⟨zm_K _ hc11 _ hin rfl, B2, B3, by simpa using D1⟩ hRR) ⟨hPb, hPs⟩ rfl hlen hsz hstk hroom hdc hf
        intro w hw
        unfold wsS at hw
        rcases List.mem_append.mp hw with h | h
        · simp only [List.mem_cons, List.not_mem_nil, or_false] at h
          rcases h with rfl | rfl | rfl
          · exact zTB_of (W2 (Or.inr (Or.inl rfl))) rfl
          · exact zTB_of (W5 (Or.inl rfl)) rfl
          · have := zm_K _ hc11 _ hin rfl
            rw [← this]
            exact hini
        · exact hwords w h
      · exact va_runSN (As := t1.reverse) (own := zcn q.1) (host := "YearsLent") (Ts := zTB) ⟨hx, hb, hml, hown, hts⟩ hM ⟨va_cnB na hts (zgood hwords) rfl rfl rfl (hK.2.1 _ (zm_G _ hc11 _ hin rfl)) (hts _ hini) ⟨B2, B3, by simpa using D1⟩ hRR, hts _ (zTB_of (W5 (Or.inr rfl)) rfl), trivial⟩ ⟨hPb, hPs⟩ rfl hlen hsz hstk hroom hdc hf
    · obtain ⟨x, vs', hv', ⟨hal, rfl⟩, hvs'⟩ := hvs
      rw [hv'] at hM hstk hlen hPb hPs ⊢
      have hnone := (zm_J _ hc11 _ hin (by rcases hk with rfl | rfl; exact Or.inl rfl; exact Or.inr rfl)).2
      have hname := (zm_J _ hc11 _ hin (by rcases hk with rfl | rfl; exact Or.inl rfl; exact Or.inr rfl)).1
      have hnone : m'.2.2.2.2.1 = none := hnone
      have hname : m'.2.1.name = "<init>" := hname
      rw [hnone] at hM hwords
      rcases hk with rfl | rfl
      · exact va_runI (As := vs') (own := zcn q.1) (Ts := zTB) ⟨hx, hb, hml, hown, hts⟩ hM (cwI (na - 1) hts (zgood hwords) rfl rfl rfl (hts _ hini) (hts _ (zTB_of (W2 (Or.inr (Or.inr rfl))) rfl)) (hts _ (zTB_of (W3 (Or.inr (Or.inl rfl))) rfl)) hname ⟨B2, B3, by simpa using D1⟩ hRR) ⟨hPb, hPs⟩ rfl (by simp at hlen; omega) hsz (by rw [hstk]; simp) hroom hdc hf
      · exact va_runIN (As := vs') (own := zcn q.1) (host := "YearsLent") (Ts := zTB) ⟨hx, hb, hml, hown, hts⟩ hM ⟨va_cnB (na - 1) hts (zgood hwords) rfl rfl rfl (hK.2.1 _ (zm_I _ hc11 _ hin rfl)) (hts _ hini) ⟨B2, B3, by simpa using D1⟩ hRR, hname, hts _ (zTB_of (W3 (Or.inr (Or.inr rfl))) rfl)⟩ ⟨hPb, hPs⟩ rfl (by simp at hlen; omega) hsz (by rw [hstk]; simp) hroom hdc hf
  have ec : (G.1 - n0) + (G1.1 - G.1) = G1.1 - n0 := zar2 a2 hm.1
  have es : (G.2.1 - s0) + (G1.2.1 - G.2.1) = G1.2.1 - s0 := zar2 a3 hm.2
  -- and on
  have on : ∀ (rv : Option Value) (t : State) (H1r : Heap) (locs1 : List Loc), t.heap = H1r → zBk D cs A1' G G1 H1 ad b r rv t → va_S A s.heap H1r locs1 → W p l e R s m args below meth c H1r locs1 (G.1 - n0 + (G1.1 - G.1)) (G.2.1 - s0 + (G1.2.1 - G.2.1)) Q (F0 m (pc + 3) ls (rv.toList ++ t2)) := by
    intro rv t H1r locs1 ht hB hS1
    obtain ⟨ad', ws', b1, b2, b3, b4, b5⟩ := hB
    rw [ec, es]
    refine K ad' ws' H1r locs1 ls _ (fun k hk => by rw [b1 k (by omega)]; exact a1 k hk) (by omega) (by omega) b2 (by rw [← ht]; exact b3) (b4.weaken (fun _ _ _ h => hA0 _ h)) hS1 (zLR_mono hm.1 b1 hL) ?_
    have hs3 := zSR_mono hm.1 b1 hs2
    cases r with
    | none =>
      obtain rfl : rv = none := b5
      exact hs3
    | some v =>
      obtain ⟨x, rfl, hx1⟩ := b5
      exact ⟨x, t2, rfl, hx1, hs3⟩
  rcases hret with ⟨-, z, rfl⟩ | ⟨-, rfl⟩
  · refine va_calli (S := Int32) (post := fun (r' u : Int32) => r' = u) (B := fun u t => zBk D cs A1' G G1 H1 ad b (some (vi z)) (some (.int u)) t) (A1 := A1') (run _ ?_) hS (fun x _ h => hA0 x h) hA0 (fun r' u t H1r locs1 ht hvm hp hB hz1 hk1 hS1 => ?_)
    · intro s' t rv hh hB hF
      obtain ⟨ad', ws', b1, b2, b3, b4, x, rfl, y, rfl, hy2⟩ := id hB
      exact ⟨⟨y, y, rfl, rfl, hB⟩, hF⟩
    · have hp : r' = u := hp
      subst hp
      exact on (some (.int r')) t H1r locs1 ht hB hS1
  · refine va_callv (S := Unit) (post := fun (_ : Unit) => True) (B := fun _ t => zBk D cs A1' G G1 H1 ad b none none t) (A1 := A1') (run _ ?_) hS (fun x _ h => hA0 x h) hA0 (fun u t H1r locs1 ht hvm hp hB hz1 hk1 hS1 => on none t H1r locs1 ht hB hS1)
    intro s' t rv hh hB hF
    obtain ⟨ad', ws', b1, b2, b3, b4, rfl⟩ := id hB
    exact ⟨⟨(), rfl, trivial, hB⟩, hF⟩
end ZCL
/-- a run of the small machine, walked by the machine -/
theorem zsound : ∀ (n : Nat) {o : Option (Nat × (Int → Int))} {d : Nat} {q : zM} {pc : Nat} {L S : List zV} {G G' : zG} {H H' : zH} {r : Option zV}, zexec n o d q pc L S G H = some (r, G', H') → zIH o d q pc L S G H r G' H'
  | 0, o, d, q, pc, L, S, G, G', H, H', r, h => by simp [zexec] at h
  | n + 1, o, d, q, pc, L, S, G, G', H, H', r, h => by
    intro p l e R s m args below meth c Q D cs A b n0 s0 ad0 C hO hR r1 r2 hend
    rw [zexec] at h
    split at h
    · cases h
    · rename_i pc1 L1 S1 G1 H1 e1
      have m2 := zexec_mono n h
      have K := zsound n h _ _ _ _ _ _ _ _ _ _ _ _ _ _ _ _ _ _ C hO hR r1 r2 hend
      exact zs_step C hO hR e1 (Nat.le_trans (Nat.sub_le_sub_right m2.1 _) r1) (Nat.le_trans (Nat.sub_le_sub_right m2.2 _) r2) K
    · rename_i r0 e1
      cases h
      exact hend pc L S e1
    · rename_i m' as S' e1
      split at h
      · cases h
      · rename_i r0 G1 H1 e2
        have m2 := zexec_mono n h
        have K := zsound n h _ _ _ _ _ _ _ _ _ _ _ _ _ _ _ _ _ _ C hO hR r1 r2 hend
        obtain ⟨i, k, na, hc⟩ := zst_call e1
        exact zs_call C hR hc (zsound n e2) (zexec_mono n e2) (zexec_ret n e2) (Nat.le_trans (Nat.sub_le_sub_right m2.1 _) r1) (Nat.le_trans (Nat.sub_le_sub_right m2.2 _) r2) K
end
section
/-! THE CLAIM OUT OF ONE WALK OF THE LAW'S BODY. Your part is whole_start (and what it stands on); all else here is the same for every law, but numbers. -/
def R_law : String := "YearsLentLaw"
def lw_P (b : Addr) (xs : List Int32) (args : Array Value) (s : State) : Prop := args = #[.ref b] ∧ s.IntsAt b xs ∧ xs.length ≤ 2560 ∧ (Jvm.Cond.and given_1 narrow_1).before args s = true
def lw_Q (_ : Array Value) (s : State) (o : Outcome) (t : State) : Prop := o = .returned (some (.int 1)) ∧ Framed s o t [] 600000 7302249
def lw_Z (below : List Frame) (a : Array Value) (s : State) : State → Prop := fun t => ∃ o, t.status = .running ∧ Ended t below o ∧ lw_Q a s o t
/-- the law's own end, with 1 on the stack, nothing written that was there before, its room as the claim has it -/
theorem lw_ret {p : Program} {l : Launch} {e : Env} {s : State} {m : MethodId} {below : List Frame} {meth : Method} {c : Code} {b : Nat} (hx : p.tables.exec = Jvm.exec) (hb : c.code = code) (hr : meth.sig.returnType = ret) (hlocks : meth.locks = false) {pc : Nat} {H : Heap} {ls : Array Slot} (hdg : decode code pc = .ok (.ireturn, 1)) : W p l e room_1 s m #[Value.ref b] below meth c H [] 600000 7302249 (lw_Z below #[Value.ref b] s) (F0 m pc ls [.int 1]) := by
  intro T hT X
  obtain ⟨fs, hret, hrun, hended, hW, hframe⟩ := X.leave (v := some (.int 1)) (hlocks := hlocks) (fun h => by rw [hr] at h; cases h)
  have hmeth' : T.vm.method? m = some meth := X.method'
  refine ⟨T.setFrames fs, ?_, .returned (some (.int 1)), hrun, hended, rfl, ⟨_, rfl⟩, hW, hframe⟩
  jvm_step X.here [X.here.top, hx, hb, hdg, hmeth', hr, ret, narrow_b1]
  (try refine ⟨rfl, ?_⟩); (try refine ⟨rfl, ?_⟩)
  first | (intro acts; rw [hret _ acts rfl rfl rfl]) | rw [hret _ _ rfl rfl rfl]
  exact Steps.refl _
/-- what holds at the law's entry: the machine, the code, the tables' words (any of lw_tbl by 'hts w (by decide +kernel)'), the script of L ints xs at the cell b, what the Statement gives of the start (any of its parts by flat_of_before) -/
def lw_At (p : Program) (s : State) (m : MethodId) (meth : Method) (c : Code) (b L : Nat) (xs : Nat → Int32) : Prop :=
  p.tables.exec = Jvm.exec ∧ c.code = code ∧ meth.sig.returnType = ret ∧ c.maxLocals = 4 ∧ s.vm.findClass R_law = some m.cls ∧ (∀ w ∈ lw_tbl, w.before #[Value.ref b] s = true) ∧ va_X b L xs s s.heap ∧ b < s.heap.size ∧ meth.locks = false ∧ (Jvm.Cond.and given_1 narrow_1).before #[Value.ref b] s = true
/-! the law's walk out of a run of the small machine -/
def zG0 : zG := (0, 0, fun _ => (999, 0), fun _ _ => znul)
def zH0 : zH := fun _ _ => 0
/-- the law's run, on the small machine -/
def zLawOK : Prop := ∀ (n : Nat) (f : Int → Int), n ≤ 2560 → (∀ j : Int, 0 ≤ j → j < n → -2147483648 ≤ f j ∧ f j ≤ 2147483647) → ∃ (k : Nat) (G' : zG) (H' : zH), zexec k (some (n, f)) 14 qL_law 0 [vx, vu, vu, vu] [] zG0 zH0 = some (some (vi 1), G', H') ∧ G'.1 ≤ 600000 ∧ G'.2.1 ≤ 7302249
theorem zknow {args : Array Value} {s : State} (hts : ∀ w ∈ lw_tbl, w.before args s = true) : ∃ (D : va_G) (cs : zCs), zKn D cs s := by
  have hT : ∀ w ∈ zTB, w.before args s = true := fun w hw => hts w (List.mem_filter.mp hw).1
  have h0 : ∀ c : Nat, ∃ x : ClassId × (Nat → Nat), c < 10 → u_Kn s (zcn c) (zT c) (zNN c) x.1 x.2 := by
    intro c
    by_cases hc : c < 10
    · obtain ⟨c0, i0, h⟩ := u_known (C := zcn c) (T := zT c) (N := zNN c) (n := zNN c) hT (zk_in2 hc) (hT _ (zk_mk hc).1)
      exact ⟨(c0, i0), fun _ => h⟩
    · exact ⟨(0, fun _ => 0), fun h => absurd h hc⟩
  obtain ⟨g, hg⟩ := Classical.axiomOfChoice h0
  obtain ⟨cI, kI, pI, i1, i2, i3⟩ := Cond.arrayClass_spec (hT _ zb_arr.1)
  obtain ⟨cZ, kZ, pZ, z1, z2, z3⟩ := Cond.arrayClass_spec (hT _ zb_arr.2)
  obtain ⟨pB, cB, kB, b1, b2, b3, b4, b5⟩ := Cond.arrayOver_spec (hts _ zb_ovr.1)
  obtain ⟨pJ, cJ, kJ, j1, j2, j3, j4, j5⟩ := arrayOverA_spec (hts _ zb_ovr.2)
  refine ⟨(fun c => (g c).1, fun c => (g c).2), (cI, cZ, cB, cJ), ⟨fun c q hq => ?_, fun k q hq => ?_⟩, fun q hq => va_Nw.of rfl (hts _ (znst_ok q hq)), va_AO.of (hts _ zb_ovr.1), hts _ zb_ovr.2⟩
  · have hc : c < 10 := by
      have := (List.getElem?_eq_some_iff.mp hq).1
      simpa using this
    rw [zk_cl hc] at hq
    cases hq
    exact hg c hc
  · match k, hq with
    | 0, hq => cases hq; exact ⟨fun N z => ⟨(fun q hq => by cases hq), kI, i2, pI, i3⟩, i1⟩
    | 1, hq => cases hq; exact ⟨fun N z => ⟨(fun q hq => by cases hq), kZ, z2, pZ, z3⟩, z1⟩
    | 2, hq => cases hq; exact ⟨fun N z => ⟨(fun q hq => by cases hq), kB, b3, pB, b4⟩, kB, pB, b3, b4, b1, b5⟩
    | 3, hq => cases hq; exact ⟨fun N z => ⟨(fun q hq => by cases hq), kJ, j3, pJ, j4⟩, j5⟩
    | k + 4, hq => simp [ztys] at hq
theorem whole_from (hlaw : zLawOK) {p : Program} {e : Env} {s : State} {m : MethodId} {below : List Frame} {meth : Method} {c : Code} (l : Launch) {b L : Nat} {xs : Nat → Int32} (hL : L ≤ 2560) (C0 : lw_At p s m meth c b L xs) : W p l e room_1 s m #[Value.ref b] below meth c s.heap [] 0 0 (lw_Z below #[Value.ref b] s) (entryFrame m ([Value.ref b] : List Value).toArray 4) := by
  obtain ⟨hx, hb, hr, hml, hown, hts, hX, hbl, hlocks, hgv⟩ := id C0
  obtain ⟨D, cs, hKn⟩ := zknow hts
  have hT : ∀ w ∈ zTB, w.before #[Value.ref b] s = true := fun w hw => hts w (List.mem_filter.mp hw).1
  obtain ⟨k, G', H', hk, g1, g2⟩ := hlaw L (fun j => (xs j.toNat).toInt) hL (fun j _ _ => by
    have h1 := Int32.le_toInt (xs j.toNat)
    have h2 := Int32.toInt_lt (xs j.toNat)
    omega)
  have C : zCx p s m #[Value.ref b] meth c D cs (fun x => s.heap.size ≤ x) qL_law := ⟨hx, hb, hml, hown, hT, fun h => absurd h (by decide), hKn, fun _ h => h⟩
  have hO : zSc s (fun x => s.heap.size ≤ x) b (some (L, fun j => (xs j.toNat).toInt)) := by
    intro x hx1
    cases hx1
    exact ⟨xs, hX, hbl, Nat.not_le.mpr hbl, by show L < 2 ^ 31; omega, fun j _ => rfl⟩
  have hW : zWR cs zG0 zH0 (fun _ => 0) [] := ⟨rfl, Nat.zero_le _, fun k hk => absurd hk (Nat.not_lt_zero k)⟩
  have hl := lv_entry ([.ref b]) (n := 4) (Nat.le_of_ble_eq_true rfl)
  rw [lg_entry_eq]
  have K := zsound k hk p l e room_1 s m #[Value.ref b] below meth c (lw_Z below #[Value.ref b] s) D cs (fun x => s.heap.size ≤ x) b 0 0 (fun _ => 0) C hO ⟨Nat.le_of_ble_eq_true rfl, Nat.le_of_ble_eq_true rfl⟩ (by show G'.1 - 0 ≤ 600000; omega) (by show G'.2.1 - 0 ≤ 7302249; omega) ?_ (fun _ => 0) [] s.heap [] _ [] (fun _ _ => rfl) (Nat.le_refl _) (Nat.le_refl _) hW (fun k q h => by simp at h) ⟨fun i j p q h => by simp at h, fun k q h => by simp at h⟩ va_S.rf (zent (m := qL_law) (as := [vx]) (vs := [.ref b]) ⟨_, _, rfl, ⟨rfl, rfl⟩, rfl⟩ (by decide)) rfl
  · exact K
  · intro pc' L' S' hst ad' ws' Hr' locs ls stk a1 a2 a3 hW' hP' hD' hS' hL' hstk
    rcases zst_ret hst with ⟨hd, z, rfl, hz, hty⟩ | ⟨hd, rfl, hz, hty⟩
    · cases hz
      obtain ⟨x, t, rfl, hx1, ht⟩ := zSi hstk
      obtain rfl : t = [] := ht
      obtain rfl : x = 1 := Int32.toInt_inj.mp (by rw [hx1]; rfl)
      refine va_forget hS'.2.2 ?_
      refine W.widen (k := 600000) (n := 7302249) (by omega) (by omega) ?_
      exact lw_ret hx hb hr hlocks hd
    · cases hz
end
section
theorem i_vc : Claimed_1_1 ∧ Claimed_1_2 := sorry
end
