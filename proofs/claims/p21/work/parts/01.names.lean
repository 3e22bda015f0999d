-- ===== PART A: goes FIRST, ahead of the names: the tables' words, and 'selects' of the private methods out of them =====
/-- a private method of a class that the tables say can be made, by its rows of tables_1 -/
def lw_okq (q : MethodName × Nat) : Prop := (q.1.cls ≠ "java/lang/invoke/MethodHandle" ∧ q.1.cls ≠ "java/lang/invoke/VarHandle") ∧ Cond.instantiable q.1.cls q.2 ∈ tables_1 ∧ Cond.privateMethod q.1 ∈ tables_1 ∧ Cond.instanceMethod q.1 ∈ tables_1
theorem lw_p0 : lw_okq (⟨"NameHall$Text", "nameFault", "(I)I"⟩, 2) := ⟨⟨by decide +kernel, by decide +kernel⟩, List.mem_of_getElem? (i := 25) (by decide +kernel), List.mem_of_getElem? (i := 269) (by decide +kernel), List.mem_of_getElem? (i := 270) (by decide +kernel)⟩
theorem lw_p1 : lw_okq (⟨"NameHall$Text", "isWrong", "(ICC)Z"⟩, 2) := ⟨⟨by decide +kernel, by decide +kernel⟩, List.mem_of_getElem? (i := 25) (by decide +kernel), List.mem_of_getElem? (i := 273) (by decide +kernel), List.mem_of_getElem? (i := 274) (by decide +kernel)⟩
theorem lw_p2 : lw_okq (⟨"NameHall$Text", "personFault", "(I)I"⟩, 2) := ⟨⟨by decide +kernel, by decide +kernel⟩, List.mem_of_getElem? (i := 25) (by decide +kernel), List.mem_of_getElem? (i := 277) (by decide +kernel), List.mem_of_getElem? (i := 278) (by decide +kernel)⟩
theorem lw_p3 : lw_okq (⟨"NameHall$Plan", "addName", "(II)V"⟩, 7) := ⟨⟨by decide +kernel, by decide +kernel⟩, List.mem_of_getElem? (i := 39) (by decide +kernel), List.mem_of_getElem? (i := 291) (by decide +kernel), List.mem_of_getElem? (i := 292) (by decide +kernel)⟩
theorem lw_p4 : lw_okq (⟨"NameHall$Plan", "addPerson", "(III)V"⟩, 7) := ⟨⟨by decide +kernel, by decide +kernel⟩, List.mem_of_getElem? (i := 39) (by decide +kernel), List.mem_of_getElem? (i := 295) (by decide +kernel), List.mem_of_getElem? (i := 296) (by decide +kernel)⟩
theorem lw_p5 : lw_okq (⟨"NameHall$Scene", "halvesWorn", "()I"⟩, 7) := ⟨⟨by decide +kernel, by decide +kernel⟩, List.mem_of_getElem? (i := 68) (by decide +kernel), List.mem_of_getElem? (i := 391) (by decide +kernel), List.mem_of_getElem? (i := 392) (by decide +kernel)⟩
theorem lw_p6 : lw_okq (⟨"NameHall$Scene", "wearOn", "(I)V"⟩, 7) := ⟨⟨by decide +kernel, by decide +kernel⟩, List.mem_of_getElem? (i := 68) (by decide +kernel), List.mem_of_getElem? (i := 476) (by decide +kernel), List.mem_of_getElem? (i := 477) (by decide +kernel)⟩
theorem lw_p7 : lw_okq (⟨"NameHall$Giving", "greatestFrom", "(I)I"⟩, 3) := ⟨⟨by decide +kernel, by decide +kernel⟩, List.mem_of_getElem? (i := 148) (by decide +kernel), List.mem_of_getElem? (i := 534) (by decide +kernel), List.mem_of_getElem? (i := 535) (by decide +kernel)⟩
theorem lw_p8 : lw_okq (⟨"NameHall$Giving", "roomOf", "(I)I"⟩, 3) := ⟨⟨by decide +kernel, by decide +kernel⟩, List.mem_of_getElem? (i := 148) (by decide +kernel), List.mem_of_getElem? (i := 538) (by decide +kernel), List.mem_of_getElem? (i := 539) (by decide +kernel)⟩
theorem lw_p9 : lw_okq (⟨"NameHall$Giving", "wantingBeyond", "(II)I"⟩, 3) := ⟨⟨by decide +kernel, by decide +kernel⟩, List.mem_of_getElem? (i := 148) (by decide +kernel), List.mem_of_getElem? (i := 542) (by decide +kernel), List.mem_of_getElem? (i := 543) (by decide +kernel)⟩
theorem lw_p10 : lw_okq (⟨"NameHall$Giving", "giveTo", "(II)I"⟩, 3) := ⟨⟨by decide +kernel, by decide +kernel⟩, List.mem_of_getElem? (i := 148) (by decide +kernel), List.mem_of_getElem? (i := 553) (by decide +kernel), List.mem_of_getElem? (i := 554) (by decide +kernel)⟩
theorem lw_p11 : lw_okq (⟨"NameHall", "leftWithout", "(I)I"⟩, 12) := ⟨⟨by decide +kernel, by decide +kernel⟩, List.mem_of_getElem? (i := 17) (by decide +kernel), List.mem_of_getElem? (i := 562) (by decide +kernel), List.mem_of_getElem? (i := 563) (by decide +kernel)⟩
theorem lw_p12 : lw_okq (⟨"NameHall$Rescue", "bestOf", "(II)I"⟩, 4) := ⟨⟨by decide +kernel, by decide +kernel⟩, List.mem_of_getElem? (i := 164) (by decide +kernel), List.mem_of_getElem? (i := 582) (by decide +kernel), List.mem_of_getElem? (i := 583) (by decide +kernel)⟩
theorem lw_p13 : lw_okq (⟨"NameHall$Rescue", "worthBy", "(III)I"⟩, 4) := ⟨⟨by decide +kernel, by decide +kernel⟩, List.mem_of_getElem? (i := 164) (by decide +kernel), List.mem_of_getElem? (i := 586) (by decide +kernel), List.mem_of_getElem? (i := 587) (by decide +kernel)⟩
theorem lw_p14 : lw_okq (⟨"NameHall$Rescue", "firstFigure", "(II)I"⟩, 4) := ⟨⟨by decide +kernel, by decide +kernel⟩, List.mem_of_getElem? (i := 164) (by decide +kernel), List.mem_of_getElem? (i := 597) (by decide +kernel), List.mem_of_getElem? (i := 598) (by decide +kernel)⟩
theorem lw_p15 : lw_okq (⟨"NameHall", "readThings", "(II)Z"⟩, 12) := ⟨⟨by decide +kernel, by decide +kernel⟩, List.mem_of_getElem? (i := 17) (by decide +kernel), List.mem_of_getElem? (i := 609) (by decide +kernel), List.mem_of_getElem? (i := 610) (by decide +kernel)⟩
def lw_privs_1 : List (MethodName × Nat) := [(⟨"NameHall$Text", "nameFault", "(I)I"⟩, 2), (⟨"NameHall$Text", "isWrong", "(ICC)Z"⟩, 2), (⟨"NameHall$Text", "personFault", "(I)I"⟩, 2), (⟨"NameHall$Plan", "addName", "(II)V"⟩, 7), (⟨"NameHall$Plan", "addPerson", "(III)V"⟩, 7), (⟨"NameHall$Scene", "halvesWorn", "()I"⟩, 7), (⟨"NameHall$Scene", "wearOn", "(I)V"⟩, 7), (⟨"NameHall$Giving", "greatestFrom", "(I)I"⟩, 3), (⟨"NameHall$Giving", "roomOf", "(I)I"⟩, 3), (⟨"NameHall$Giving", "wantingBeyond", "(II)I"⟩, 3), (⟨"NameHall$Giving", "giveTo", "(II)I"⟩, 3), (⟨"NameHall", "leftWithout", "(I)I"⟩, 12), (⟨"NameHall$Rescue", "bestOf", "(II)I"⟩, 4), (⟨"NameHall$Rescue", "worthBy", "(III)I"⟩, 4), (⟨"NameHall$Rescue", "firstFigure", "(II)I"⟩, 4), (⟨"NameHall", "readThings", "(II)Z"⟩, 12)]
theorem lw_r1 : ∀ q ∈ lw_privs_1, lw_okq q := List.forall_mem_cons.mpr ⟨lw_p0, List.forall_mem_cons.mpr ⟨lw_p1, List.forall_mem_cons.mpr ⟨lw_p2, List.forall_mem_cons.mpr ⟨lw_p3, List.forall_mem_cons.mpr ⟨lw_p4, List.forall_mem_cons.mpr ⟨lw_p5, List.forall_mem_cons.mpr ⟨lw_p6, List.forall_mem_cons.mpr ⟨lw_p7, List.forall_mem_cons.mpr ⟨lw_p8, List.forall_mem_cons.mpr ⟨lw_p9, List.forall_mem_cons.mpr ⟨lw_p10, List.forall_mem_cons.mpr ⟨lw_p11, List.forall_mem_cons.mpr ⟨lw_p12, List.forall_mem_cons.mpr ⟨lw_p13, List.forall_mem_cons.mpr ⟨lw_p14, List.forall_mem_cons.mpr ⟨lw_p15, fun _ h => absurd h List.not_mem_nil⟩⟩⟩⟩⟩⟩⟩⟩⟩⟩⟩⟩⟩⟩⟩⟩
theorem lw_p16 : lw_okq (⟨"NameHall", "happens", "(I)Z"⟩, 12) := ⟨⟨by decide +kernel, by decide +kernel⟩, List.mem_of_getElem? (i := 17) (by decide +kernel), List.mem_of_getElem? (i := 619) (by decide +kernel), List.mem_of_getElem? (i := 620) (by decide +kernel)⟩
theorem lw_p17 : lw_okq (⟨"NameHall$Clues", "add", "([III)Z"⟩, 3) := ⟨⟨by decide +kernel, by decide +kernel⟩, List.mem_of_getElem? (i := 132) (by decide +kernel), List.mem_of_getElem? (i := 640) (by decide +kernel), List.mem_of_getElem? (i := 641) (by decide +kernel)⟩
theorem lw_p18 : lw_okq (⟨"NameHall$Clues", "couldDoAll", "(LNameHall$Plan;II)Z"⟩, 3) := ⟨⟨by decide +kernel, by decide +kernel⟩, List.mem_of_getElem? (i := 132) (by decide +kernel), List.mem_of_getElem? (i := 674) (by decide +kernel), List.mem_of_getElem? (i := 675) (by decide +kernel)⟩
theorem lw_p19 : lw_okq (⟨"NameHall", "gain", "(III)I"⟩, 12) := ⟨⟨by decide +kernel, by decide +kernel⟩, List.mem_of_getElem? (i := 17) (by decide +kernel), List.mem_of_getElem? (i := 683) (by decide +kernel), List.mem_of_getElem? (i := 684) (by decide +kernel)⟩
theorem lw_p20 : lw_okq (⟨"NameHall", "ordersWith", "(I)I"⟩, 12) := ⟨⟨by decide +kernel, by decide +kernel⟩, List.mem_of_getElem? (i := 17) (by decide +kernel), List.mem_of_getElem? (i := 687) (by decide +kernel), List.mem_of_getElem? (i := 688) (by decide +kernel)⟩
theorem lw_p21 : lw_okq (⟨"NameHall$Bidding", "isRest", "(II)Z"⟩, 3) := ⟨⟨by decide +kernel, by decide +kernel⟩, List.mem_of_getElem? (i := 184) (by decide +kernel), List.mem_of_getElem? (i := 713) (by decide +kernel), List.mem_of_getElem? (i := 714) (by decide +kernel)⟩
theorem lw_p22 : lw_okq (⟨"NameHall$Bidding", "gainOfOne", "(II)I"⟩, 3) := ⟨⟨by decide +kernel, by decide +kernel⟩, List.mem_of_getElem? (i := 184) (by decide +kernel), List.mem_of_getElem? (i := 717) (by decide +kernel), List.mem_of_getElem? (i := 718) (by decide +kernel)⟩
theorem lw_p23 : lw_okq (⟨"NameHall$Bidding", "gainBy", "(IZ)I"⟩, 3) := ⟨⟨by decide +kernel, by decide +kernel⟩, List.mem_of_getElem? (i := 184) (by decide +kernel), List.mem_of_getElem? (i := 721) (by decide +kernel), List.mem_of_getElem? (i := 722) (by decide +kernel)⟩
theorem lw_p24 : lw_okq (⟨"NameHall$Bidding", "gainOfOther", "(II)I"⟩, 3) := ⟨⟨by decide +kernel, by decide +kernel⟩, List.mem_of_getElem? (i := 184) (by decide +kernel), List.mem_of_getElem? (i := 725) (by decide +kernel), List.mem_of_getElem? (i := 726) (by decide +kernel)⟩
theorem lw_p25 : lw_okq (⟨"NameHall", "actByChance", "(I)V"⟩, 12) := ⟨⟨by decide +kernel, by decide +kernel⟩, List.mem_of_getElem? (i := 17) (by decide +kernel), List.mem_of_getElem? (i := 752) (by decide +kernel), List.mem_of_getElem? (i := 753) (by decide +kernel)⟩
theorem lw_p26 : lw_okq (⟨"NameHallModel", "readText", "()I"⟩, 28) := ⟨⟨by decide +kernel, by decide +kernel⟩, List.mem_of_getElem? (i := 792) (by decide +kernel), List.mem_of_getElem? (i := 899) (by decide +kernel), List.mem_of_getElem? (i := 900) (by decide +kernel)⟩
theorem lw_p27 : lw_okq (⟨"NameHallModel", "letterOf", "(III)I"⟩, 28) := ⟨⟨by decide +kernel, by decide +kernel⟩, List.mem_of_getElem? (i := 792) (by decide +kernel), List.mem_of_getElem? (i := 903) (by decide +kernel), List.mem_of_getElem? (i := 904) (by decide +kernel)⟩
theorem lw_p28 : lw_okq (⟨"NameHallModel", "isName", "(I)Z"⟩, 28) := ⟨⟨by decide +kernel, by decide +kernel⟩, List.mem_of_getElem? (i := 792) (by decide +kernel), List.mem_of_getElem? (i := 915) (by decide +kernel), List.mem_of_getElem? (i := 916) (by decide +kernel)⟩
theorem lw_p29 : lw_okq (⟨"NameHallModel", "wearers", "(II)I"⟩, 28) := ⟨⟨by decide +kernel, by decide +kernel⟩, List.mem_of_getElem? (i := 792) (by decide +kernel), List.mem_of_getElem? (i := 919) (by decide +kernel), List.mem_of_getElem? (i := 920) (by decide +kernel)⟩
theorem lw_p30 : lw_okq (⟨"NameHallModel", "isPerson", "(I)Z"⟩, 28) := ⟨⟨by decide +kernel, by decide +kernel⟩, List.mem_of_getElem? (i := 792) (by decide +kernel), List.mem_of_getElem? (i := 927) (by decide +kernel), List.mem_of_getElem? (i := 928) (by decide +kernel)⟩
theorem lw_p31 : lw_okq (⟨"NameHallModel", "isSomebody", "(II)Z"⟩, 28) := ⟨⟨by decide +kernel, by decide +kernel⟩, List.mem_of_getElem? (i := 792) (by decide +kernel), List.mem_of_getElem? (i := 931) (by decide +kernel), List.mem_of_getElem? (i := 932) (by decide +kernel)⟩
def lw_privs_2 : List (MethodName × Nat) := [(⟨"NameHall", "happens", "(I)Z"⟩, 12), (⟨"NameHall$Clues", "add", "([III)Z"⟩, 3), (⟨"NameHall$Clues", "couldDoAll", "(LNameHall$Plan;II)Z"⟩, 3), (⟨"NameHall", "gain", "(III)I"⟩, 12), (⟨"NameHall", "ordersWith", "(I)I"⟩, 12), (⟨"NameHall$Bidding", "isRest", "(II)Z"⟩, 3), (⟨"NameHall$Bidding", "gainOfOne", "(II)I"⟩, 3), (⟨"NameHall$Bidding", "gainBy", "(IZ)I"⟩, 3), (⟨"NameHall$Bidding", "gainOfOther", "(II)I"⟩, 3), (⟨"NameHall", "actByChance", "(I)V"⟩, 12), (⟨"NameHallModel", "readText", "()I"⟩, 28), (⟨"NameHallModel", "letterOf", "(III)I"⟩, 28), (⟨"NameHallModel", "isName", "(I)Z"⟩, 28), (⟨"NameHallModel", "wearers", "(II)I"⟩, 28), (⟨"NameHallModel", "isPerson", "(I)Z"⟩, 28), (⟨"NameHallModel", "isSomebody", "(II)Z"⟩, 28)]
theorem lw_r2 : ∀ q ∈ lw_privs_2, lw_okq q := List.forall_mem_cons.mpr ⟨lw_p16, List.forall_mem_cons.mpr ⟨lw_p17, List.forall_mem_cons.mpr ⟨lw_p18, List.forall_mem_cons.mpr ⟨lw_p19, List.forall_mem_cons.mpr ⟨lw_p20, List.forall_mem_cons.mpr ⟨lw_p21, List.forall_mem_cons.mpr ⟨lw_p22, List.forall_mem_cons.mpr ⟨lw_p23, List.forall_mem_cons.mpr ⟨lw_p24, List.forall_mem_cons.mpr ⟨lw_p25, List.forall_mem_cons.mpr ⟨lw_p26, List.forall_mem_cons.mpr ⟨lw_p27, List.forall_mem_cons.mpr ⟨lw_p28, List.forall_mem_cons.mpr ⟨lw_p29, List.forall_mem_cons.mpr ⟨lw_p30, List.forall_mem_cons.mpr ⟨lw_p31, fun _ h => absurd h List.not_mem_nil⟩⟩⟩⟩⟩⟩⟩⟩⟩⟩⟩⟩⟩⟩⟩⟩
theorem lw_p32 : lw_okq (⟨"NameHallModel", "canTake", "(III)Z"⟩, 28) := ⟨⟨by decide +kernel, by decide +kernel⟩, List.mem_of_getElem? (i := 792) (by decide +kernel), List.mem_of_getElem? (i := 939) (by decide +kernel), List.mem_of_getElem? (i := 940) (by decide +kernel)⟩
theorem lw_p33 : lw_okq (⟨"NameHallModel", "isGone", "(II)Z"⟩, 28) := ⟨⟨by decide +kernel, by decide +kernel⟩, List.mem_of_getElem? (i := 792) (by decide +kernel), List.mem_of_getElem? (i := 943) (by decide +kernel), List.mem_of_getElem? (i := 944) (by decide +kernel)⟩
theorem lw_p34 : lw_okq (⟨"NameHallModel", "room", "(I)I"⟩, 28) := ⟨⟨by decide +kernel, by decide +kernel⟩, List.mem_of_getElem? (i := 792) (by decide +kernel), List.mem_of_getElem? (i := 953) (by decide +kernel), List.mem_of_getElem? (i := 954) (by decide +kernel)⟩
theorem lw_p35 : lw_okq (⟨"NameHallModel", "keepAct", "()V"⟩, 28) := ⟨⟨by decide +kernel, by decide +kernel⟩, List.mem_of_getElem? (i := 792) (by decide +kernel), List.mem_of_getElem? (i := 957) (by decide +kernel), List.mem_of_getElem? (i := 958) (by decide +kernel)⟩
theorem lw_p36 : lw_okq (⟨"NameHallModel", "takeOn", "(III)V"⟩, 28) := ⟨⟨by decide +kernel, by decide +kernel⟩, List.mem_of_getElem? (i := 792) (by decide +kernel), List.mem_of_getElem? (i := 961) (by decide +kernel), List.mem_of_getElem? (i := 962) (by decide +kernel)⟩
theorem lw_p37 : lw_okq (⟨"NameHallModel", "passOn", "(I)I"⟩, 28) := ⟨⟨by decide +kernel, by decide +kernel⟩, List.mem_of_getElem? (i := 792) (by decide +kernel), List.mem_of_getElem? (i := 973) (by decide +kernel), List.mem_of_getElem? (i := 974) (by decide +kernel)⟩
theorem lw_p38 : lw_okq (⟨"NameHallModel", "needs", "(III)Z"⟩, 28) := ⟨⟨by decide +kernel, by decide +kernel⟩, List.mem_of_getElem? (i := 792) (by decide +kernel), List.mem_of_getElem? (i := 977) (by decide +kernel), List.mem_of_getElem? (i := 978) (by decide +kernel)⟩
theorem lw_p39 : lw_okq (⟨"NameHallModel", "there", "()I"⟩, 28) := ⟨⟨by decide +kernel, by decide +kernel⟩, List.mem_of_getElem? (i := 792) (by decide +kernel), List.mem_of_getElem? (i := 994) (by decide +kernel), List.mem_of_getElem? (i := 995) (by decide +kernel)⟩
theorem lw_p40 : lw_okq (⟨"NameHallModel", "mostAt", "(II)I"⟩, 28) := ⟨⟨by decide +kernel, by decide +kernel⟩, List.mem_of_getElem? (i := 792) (by decide +kernel), List.mem_of_getElem? (i := 998) (by decide +kernel), List.mem_of_getElem? (i := 999) (by decide +kernel)⟩
theorem lw_p41 : lw_okq (⟨"NameHallModel", "isWay", "(III)Z"⟩, 28) := ⟨⟨by decide +kernel, by decide +kernel⟩, List.mem_of_getElem? (i := 792) (by decide +kernel), List.mem_of_getElem? (i := 1005) (by decide +kernel), List.mem_of_getElem? (i := 1006) (by decide +kernel)⟩
theorem lw_p42 : lw_okq (⟨"NameHallModel", "nameIn", "(II)I"⟩, 28) := ⟨⟨by decide +kernel, by decide +kernel⟩, List.mem_of_getElem? (i := 792) (by decide +kernel), List.mem_of_getElem? (i := 1009) (by decide +kernel), List.mem_of_getElem? (i := 1010) (by decide +kernel)⟩
theorem lw_p43 : lw_okq (⟨"NameHallModel", "figuresOf", "(I)I"⟩, 28) := ⟨⟨by decide +kernel, by decide +kernel⟩, List.mem_of_getElem? (i := 792) (by decide +kernel), List.mem_of_getElem? (i := 1013) (by decide +kernel), List.mem_of_getElem? (i := 1014) (by decide +kernel)⟩
theorem lw_p44 : lw_okq (⟨"NameHallModel", "leftAt", "(I)I"⟩, 28) := ⟨⟨by decide +kernel, by decide +kernel⟩, List.mem_of_getElem? (i := 792) (by decide +kernel), List.mem_of_getElem? (i := 1021) (by decide +kernel), List.mem_of_getElem? (i := 1022) (by decide +kernel)⟩
theorem lw_p45 : lw_okq (⟨"NameHallModel", "layTrial", "()V"⟩, 28) := ⟨⟨by decide +kernel, by decide +kernel⟩, List.mem_of_getElem? (i := 792) (by decide +kernel), List.mem_of_getElem? (i := 1038) (by decide +kernel), List.mem_of_getElem? (i := 1039) (by decide +kernel)⟩
theorem lw_p46 : lw_okq (⟨"NameHallModel", "tryThing", "(I)Z"⟩, 28) := ⟨⟨by decide +kernel, by decide +kernel⟩, List.mem_of_getElem? (i := 792) (by decide +kernel), List.mem_of_getElem? (i := 1042) (by decide +kernel), List.mem_of_getElem? (i := 1043) (by decide +kernel)⟩
theorem lw_p47 : lw_okq (⟨"NameHallModel", "tell", "(II)I"⟩, 28) := ⟨⟨by decide +kernel, by decide +kernel⟩, List.mem_of_getElem? (i := 792) (by decide +kernel), List.mem_of_getElem? (i := 1050) (by decide +kernel), List.mem_of_getElem? (i := 1051) (by decide +kernel)⟩
def lw_privs_3 : List (MethodName × Nat) := [(⟨"NameHallModel", "canTake", "(III)Z"⟩, 28), (⟨"NameHallModel", "isGone", "(II)Z"⟩, 28), (⟨"NameHallModel", "room", "(I)I"⟩, 28), (⟨"NameHallModel", "keepAct", "()V"⟩, 28), (⟨"NameHallModel", "takeOn", "(III)V"⟩, 28), (⟨"NameHallModel", "passOn", "(I)I"⟩, 28), (⟨"NameHallModel", "needs", "(III)Z"⟩, 28), (⟨"NameHallModel", "there", "()I"⟩, 28), (⟨"NameHallModel", "mostAt", "(II)I"⟩, 28), (⟨"NameHallModel", "isWay", "(III)Z"⟩, 28), (⟨"NameHallModel", "nameIn", "(II)I"⟩, 28), (⟨"NameHallModel", "figuresOf", "(I)I"⟩, 28), (⟨"NameHallModel", "leftAt", "(I)I"⟩, 28), (⟨"NameHallModel", "layTrial", "()V"⟩, 28), (⟨"NameHallModel", "tryThing", "(I)Z"⟩, 28), (⟨"NameHallModel", "tell", "(II)I"⟩, 28)]
theorem lw_r3 : ∀ q ∈ lw_privs_3, lw_okq q := List.forall_mem_cons.mpr ⟨lw_p32, List.forall_mem_cons.mpr ⟨lw_p33, List.forall_mem_cons.mpr ⟨lw_p34, List.forall_mem_cons.mpr ⟨lw_p35, List.forall_mem_cons.mpr ⟨lw_p36, List.forall_mem_cons.mpr ⟨lw_p37, List.forall_mem_cons.mpr ⟨lw_p38, List.forall_mem_cons.mpr ⟨lw_p39, List.forall_mem_cons.mpr ⟨lw_p40, List.forall_mem_cons.mpr ⟨lw_p41, List.forall_mem_cons.mpr ⟨lw_p42, List.forall_mem_cons.mpr ⟨lw_p43, List.forall_mem_cons.mpr ⟨lw_p44, List.forall_mem_cons.mpr ⟨lw_p45, List.forall_mem_cons.mpr ⟨lw_p46, List.forall_mem_cons.mpr ⟨lw_p47, fun _ h => absurd h List.not_mem_nil⟩⟩⟩⟩⟩⟩⟩⟩⟩⟩⟩⟩⟩⟩⟩⟩
theorem lw_p48 : lw_okq (⟨"NameHallModel", "wasSeen", "(II)Z"⟩, 28) := ⟨⟨by decide +kernel, by decide +kernel⟩, List.mem_of_getElem? (i := 792) (by decide +kernel), List.mem_of_getElem? (i := 1066) (by decide +kernel), List.mem_of_getElem? (i := 1067) (by decide +kernel)⟩
theorem lw_p49 : lw_okq (⟨"NameHallModel", "isRest", "(IIIII)Z"⟩, 28) := ⟨⟨by decide +kernel, by decide +kernel⟩, List.mem_of_getElem? (i := 792) (by decide +kernel), List.mem_of_getElem? (i := 1084) (by decide +kernel), List.mem_of_getElem? (i := 1085) (by decide +kernel)⟩
theorem lw_p50 : lw_okq (⟨"NameHallModel", "gain", "(IIIIIZ)I"⟩, 28) := ⟨⟨by decide +kernel, by decide +kernel⟩, List.mem_of_getElem? (i := 792) (by decide +kernel), List.mem_of_getElem? (i := 1088) (by decide +kernel), List.mem_of_getElem? (i := 1089) (by decide +kernel)⟩
theorem lw_p51 : lw_okq (⟨"NameHallModel", "mayHave", "(II)Z"⟩, 28) := ⟨⟨by decide +kernel, by decide +kernel⟩, List.mem_of_getElem? (i := 792) (by decide +kernel), List.mem_of_getElem? (i := 1092) (by decide +kernel), List.mem_of_getElem? (i := 1093) (by decide +kernel)⟩
theorem lw_p52 : lw_okq (⟨"NameHallModel", "allWaited", "(I)I"⟩, 28) := ⟨⟨by decide +kernel, by decide +kernel⟩, List.mem_of_getElem? (i := 792) (by decide +kernel), List.mem_of_getElem? (i := 1111) (by decide +kernel), List.mem_of_getElem? (i := 1112) (by decide +kernel)⟩
def lw_privs_4 : List (MethodName × Nat) := [(⟨"NameHallModel", "wasSeen", "(II)Z"⟩, 28), (⟨"NameHallModel", "isRest", "(IIIII)Z"⟩, 28), (⟨"NameHallModel", "gain", "(IIIIIZ)I"⟩, 28), (⟨"NameHallModel", "mayHave", "(II)Z"⟩, 28), (⟨"NameHallModel", "allWaited", "(I)I"⟩, 28)]
theorem lw_r4 : ∀ q ∈ lw_privs_4, lw_okq q := List.forall_mem_cons.mpr ⟨lw_p48, List.forall_mem_cons.mpr ⟨lw_p49, List.forall_mem_cons.mpr ⟨lw_p50, List.forall_mem_cons.mpr ⟨lw_p51, List.forall_mem_cons.mpr ⟨lw_p52, fun _ h => absurd h List.not_mem_nil⟩⟩⟩⟩⟩
def lw_privs : List (MethodName × Nat) := lw_privs_1 ++ (lw_privs_2 ++ (lw_privs_3 ++ (lw_privs_4)))
def lw_tbl : List Cond := k2_sels lw_privs ++ tables_1
theorem lw_privs_ok : ∀ q ∈ lw_privs, lw_okq q := by
  show ∀ q ∈ lw_privs_1 ++ (lw_privs_2 ++ (lw_privs_3 ++ (lw_privs_4))), lw_okq q
  exact List.forall_mem_append.mpr ⟨lw_r1, List.forall_mem_append.mpr ⟨lw_r2, List.forall_mem_append.mpr ⟨lw_r3, lw_r4⟩⟩⟩
-- ===== end of PART A; then your names; then what follows =====

def RX0 : String := "NameHall$ActRow"
def TX0 : u_T := fun k => match k with
  | 0 => ("NameHall$ActRow", "scenes", "[[I", true)
  | 1 => ("NameHall$ActRow", "oldest", "I", false)
  | _ => ("NameHall$ActRow", "size", "I", false)
def tyX0 : Nat → FieldType := fun k => match k with
  | 0 => .array (.array .int)
  | 1 => .int
  | _ => .int
abbrev wsX00 : List Cond := u_ws RX0 TX0 3
theorem nmX0 : ∀ a, a < 3 → ∀ b, b < 3 → a ≠ b → (TX0 a).2.1 ≠ (TX0 b).2.1 := by decide +kernel
theorem tyX0_ok : ∀ k, k < 3 → parseFieldDescriptor (TX0 k).2.2.1 = some (tyX0 k) := by decide +kernel
abbrev cX0_init : ByteArray := prog_2_method_1_code
def yX0_init : MethodName := ⟨RX0, "<init>", "()V"⟩
abbrev cX0_size : ByteArray := prog_2_method_2_code
def yX0_size : MethodName := ⟨RX0, "size", "()I"⟩
abbrev cX0_clear : ByteArray := prog_2_method_3_code
def yX0_clear : MethodName := ⟨RX0, "clear", "()V"⟩
abbrev cX0_remember : ByteArray := prog_2_method_4_code
def yX0_remember : MethodName := ⟨RX0, "remember", "(LNameHall$Scene;)V"⟩
abbrev cX0_takeBack : ByteArray := prog_2_method_5_code
def yX0_takeBack : MethodName := ⟨RX0, "takeBack", "(LNameHall$Scene;)Z"⟩
def RX1 : String := "NameHall$Bidding"
def TX1 : u_T := fun k => match k with
  | 0 => ("NameHall$Bidding", "worth", "I", false)
  | 1 => ("NameHall$Bidding", "fitsOne", "Z", false)
  | _ => ("NameHall$Bidding", "fitsOther", "Z", false)
def tyX1 : Nat → FieldType := fun k => match k with
  | 0 => .int
  | 1 => .boolean
  | _ => .boolean
abbrev wsX10 : List Cond := u_ws RX1 TX1 3
theorem nmX1 : ∀ a, a < 3 → ∀ b, b < 3 → a ≠ b → (TX1 a).2.1 ≠ (TX1 b).2.1 := by decide +kernel
theorem tyX1_ok : ∀ k, k < 3 → parseFieldDescriptor (TX1 k).2.2.1 = some (tyX1 k) := by decide +kernel
abbrev cX1_init : ByteArray := prog_3_method_1_code
def yX1_init : MethodName := ⟨RX1, "<init>", "()V"⟩
abbrev cX1_prepare : ByteArray := prog_3_method_2_code
def yX1_prepare : MethodName := ⟨RX1, "prepare", "(IZZ)V"⟩
abbrev cX1_countRests : ByteArray := prog_3_method_3_code
def yX1_countRests : MethodName := ⟨RX1, "countRests", "()I"⟩
abbrev cX1_firstRest : ByteArray := prog_3_method_4_code
def yX1_firstRest : MethodName := ⟨RX1, "firstRest", "()I"⟩
abbrev cX1_isRest : ByteArray := prog_3_method_5_code
def yX1_isRest : MethodName := ⟨RX1, "isRest", "(II)Z"⟩
abbrev cX1_gainOfOne : ByteArray := prog_3_method_6_code
def yX1_gainOfOne : MethodName := ⟨RX1, "gainOfOne", "(II)I"⟩
abbrev cX1_gainOfOther : ByteArray := prog_3_method_7_code
def yX1_gainOfOther : MethodName := ⟨RX1, "gainOfOther", "(II)I"⟩
abbrev cX1_gainBy : ByteArray := prog_3_method_8_code
def yX1_gainBy : MethodName := ⟨RX1, "gainBy", "(IZ)I"⟩
def RX2 : String := "NameHall$Clues"
def TX2 : u_T := fun k => match k with
  | 0 => ("NameHall$Clues", "seenHours", "[I", true)
  | 1 => ("NameHall$Clues", "deedHours", "[I", true)
  | _ => ("NameHall$Clues", "size", "I", false)
def tyX2 : Nat → FieldType := fun k => match k with
  | 0 => .array .int
  | 1 => .array .int
  | _ => .int
abbrev wsX20 : List Cond := u_ws RX2 TX2 3
theorem nmX2 : ∀ a, a < 3 → ∀ b, b < 3 → a ≠ b → (TX2 a).2.1 ≠ (TX2 b).2.1 := by decide +kernel
theorem tyX2_ok : ∀ k, k < 3 → parseFieldDescriptor (TX2 k).2.2.1 = some (tyX2 k) := by decide +kernel
abbrev cX2_init : ByteArray := prog_4_method_1_code
def yX2_init : MethodName := ⟨RX2, "<init>", "()V"⟩
abbrev cX2_size : ByteArray := prog_4_method_2_code
def yX2_size : MethodName := ⟨RX2, "size", "()I"⟩
abbrev cX2_clear : ByteArray := prog_4_method_3_code
def yX2_clear : MethodName := ⟨RX2, "clear", "()I"⟩
abbrev cX2_addSeen : ByteArray := prog_4_method_4_code
def yX2_addSeen : MethodName := ⟨RX2, "addSeen", "(II)Z"⟩
abbrev cX2_addDeed : ByteArray := prog_4_method_5_code
def yX2_addDeed : MethodName := ⟨RX2, "addDeed", "(II)Z"⟩
abbrev cX2_add : ByteArray := prog_4_method_6_code
def yX2_add : MethodName := ⟨RX2, "add", "([III)Z"⟩
abbrev cX2_suspects : ByteArray := prog_4_method_7_code
def yX2_suspects : MethodName := ⟨RX2, "suspects", "(LNameHall$Scene;LNameHall$Plan;I)I"⟩
abbrev cX2_couldDoAll : ByteArray := prog_4_method_8_code
def yX2_couldDoAll : MethodName := ⟨RX2, "couldDoAll", "(LNameHall$Plan;II)Z"⟩
def RX3 : String := "NameHall$Giving"
def TX3 : u_T := fun k => match k with
  | 0 => ("NameHall$Giving", "plan", "LNameHall$Plan;", true)
  | 1 => ("NameHall$Giving", "wanted", "[I", true)
  | _ => ("NameHall$Giving", "room", "[I", true)
def tyX3 : Nat → FieldType := fun k => match k with
  | 0 => .object "NameHall$Plan"
  | 1 => .array .int
  | _ => .array .int
abbrev wsX30 : List Cond := u_ws RX3 TX3 3
theorem nmX3 : ∀ a, a < 3 → ∀ b, b < 3 → a ≠ b → (TX3 a).2.1 ≠ (TX3 b).2.1 := by decide +kernel
theorem tyX3_ok : ∀ k, k < 3 → parseFieldDescriptor (TX3 k).2.2.1 = some (tyX3 k) := by decide +kernel
abbrev cX3_init : ByteArray := prog_5_method_1_code
def yX3_init : MethodName := ⟨RX3, "<init>", "(LNameHall$Plan;)V"⟩
abbrev cX3_prepare : ByteArray := prog_5_method_2_code
def yX3_prepare : MethodName := ⟨RX3, "prepare", "(LNameHall$Scene;II)V"⟩
abbrev cX3_greatest : ByteArray := prog_5_method_3_code
def yX3_greatest : MethodName := ⟨RX3, "greatest", "()I"⟩
abbrev cX3_greatestFrom : ByteArray := prog_5_method_4_code
def yX3_greatestFrom : MethodName := ⟨RX3, "greatestFrom", "(I)I"⟩
abbrev cX3_roomOf : ByteArray := prog_5_method_5_code
def yX3_roomOf : MethodName := ⟨RX3, "roomOf", "(I)I"⟩
abbrev cX3_wantingBeyond : ByteArray := prog_5_method_6_code
def yX3_wantingBeyond : MethodName := ⟨RX3, "wantingBeyond", "(II)I"⟩
abbrev cX3_firstWay : ByteArray := prog_5_method_7_code
def yX3_firstWay : MethodName := ⟨RX3, "firstWay", "()I"⟩
abbrev cX3_giveTo : ByteArray := prog_5_method_8_code
def yX3_giveTo : MethodName := ⟨RX3, "giveTo", "(II)I"⟩
def RX4 : String := "NameHall$Plan"
def TX4 : u_T := fun k => match k with
  | 0 => ("NameHall$Plan", "kinds", "[I", true)
  | 1 => ("NameHall$Plan", "worths", "[I", true)
  | 2 => ("NameHall$Plan", "firstHours", "[I", true)
  | 3 => ("NameHall$Plan", "lastHours", "[I", true)
  | 4 => ("NameHall$Plan", "fitting", "[I", true)
  | 5 => ("NameHall$Plan", "names", "I", false)
  | _ => ("NameHall$Plan", "people", "I", false)
def tyX4 : Nat → FieldType := fun k => match k with
  | 0 => .array .int
  | 1 => .array .int
  | 2 => .array .int
  | 3 => .array .int
  | 4 => .array .int
  | 5 => .int
  | _ => .int
abbrev wsX40 : List Cond := u_ws RX4 TX4 7
theorem nmX4 : ∀ a, a < 7 → ∀ b, b < 7 → a ≠ b → (TX4 a).2.1 ≠ (TX4 b).2.1 := by decide +kernel
theorem tyX4_ok : ∀ k, k < 7 → parseFieldDescriptor (TX4 k).2.2.1 = some (tyX4 k) := by decide +kernel
abbrev cX4_init : ByteArray := prog_6_method_1_code
def yX4_init : MethodName := ⟨RX4, "<init>", "()V"⟩
abbrev cX4_names : ByteArray := prog_6_method_2_code
def yX4_names : MethodName := ⟨RX4, "names", "()I"⟩
abbrev cX4_people : ByteArray := prog_6_method_3_code
def yX4_people : MethodName := ⟨RX4, "people", "()I"⟩
abbrev cX4_hasName : ByteArray := prog_6_method_4_code
def yX4_hasName : MethodName := ⟨RX4, "hasName", "(I)Z"⟩
abbrev cX4_hasPerson : ByteArray := prog_6_method_5_code
def yX4_hasPerson : MethodName := ⟨RX4, "hasPerson", "(I)Z"⟩
abbrev cX4_kind : ByteArray := prog_6_method_6_code
def yX4_kind : MethodName := ⟨RX4, "kind", "(I)I"⟩
abbrev cX4_worth : ByteArray := prog_6_method_7_code
def yX4_worth : MethodName := ⟨RX4, "worth", "(I)I"⟩
abbrev cX4_room : ByteArray := prog_6_method_8_code
def yX4_room : MethodName := ⟨RX4, "room", "(I)I"⟩
abbrev cX4_firstHour : ByteArray := prog_6_method_9_code
def yX4_firstHour : MethodName := ⟨RX4, "firstHour", "(I)I"⟩
abbrev cX4_lastHour : ByteArray := prog_6_method_10_code
def yX4_lastHour : MethodName := ⟨RX4, "lastHour", "(I)I"⟩
abbrev cX4_fits : ByteArray := prog_6_method_11_code
def yX4_fits : MethodName := ⟨RX4, "fits", "(I)I"⟩
abbrev cX4_needsAt : ByteArray := prog_6_method_12_code
def yX4_needsAt : MethodName := ⟨RX4, "needsAt", "(II)Z"⟩
abbrev cX4_read : ByteArray := prog_6_method_13_code
def yX4_read : MethodName := ⟨RX4, "read", "(LNameHall$Text;)V"⟩
abbrev cX4_addName : ByteArray := prog_6_method_14_code
def yX4_addName : MethodName := ⟨RX4, "addName", "(II)V"⟩
abbrev cX4_addPerson : ByteArray := prog_6_method_15_code
def yX4_addPerson : MethodName := ⟨RX4, "addPerson", "(III)V"⟩
def RX5 : String := "NameHall$Rescue"
def TX5 : u_T := fun k => match k with
  | 0 => ("NameHall$Rescue", "plan", "LNameHall$Plan;", true)
  | 1 => ("NameHall$Rescue", "best", "[[I", true)
  | 2 => ("NameHall$Rescue", "fits", "[I", true)
  | _ => ("NameHall$Rescue", "there", "I", false)
def tyX5 : Nat → FieldType := fun k => match k with
  | 0 => .object "NameHall$Plan"
  | 1 => .array (.array .int)
  | 2 => .array .int
  | _ => .int
abbrev wsX50 : List Cond := u_ws RX5 TX5 4
theorem nmX5 : ∀ a, a < 4 → ∀ b, b < 4 → a ≠ b → (TX5 a).2.1 ≠ (TX5 b).2.1 := by decide +kernel
theorem tyX5_ok : ∀ k, k < 4 → parseFieldDescriptor (TX5 k).2.2.1 = some (tyX5 k) := by decide +kernel
abbrev cX5_init : ByteArray := prog_7_method_1_code
def yX5_init : MethodName := ⟨RX5, "<init>", "(LNameHall$Plan;)V"⟩
abbrev cX5_prepare : ByteArray := prog_7_method_2_code
def yX5_prepare : MethodName := ⟨RX5, "prepare", "(LNameHall$Scene;)V"⟩
abbrev cX5_bestOf : ByteArray := prog_7_method_3_code
def yX5_bestOf : MethodName := ⟨RX5, "bestOf", "(II)I"⟩
abbrev cX5_worthBy : ByteArray := prog_7_method_4_code
def yX5_worthBy : MethodName := ⟨RX5, "worthBy", "(III)I"⟩
abbrev cX5_greatest : ByteArray := prog_7_method_5_code
def yX5_greatest : MethodName := ⟨RX5, "greatest", "()I"⟩
abbrev cX5_firstWay : ByteArray := prog_7_method_6_code
def yX5_firstWay : MethodName := ⟨RX5, "firstWay", "()I"⟩
abbrev cX5_firstFigure : ByteArray := prog_7_method_7_code
def yX5_firstFigure : MethodName := ⟨RX5, "firstFigure", "(II)I"⟩
def RX6 : String := "NameHall$Scene"
def TX6 : u_T := fun k => match k with
  | 0 => ("NameHall$Scene", "plan", "LNameHall$Plan;", true)
  | 1 => ("NameHall$Scene", "worn", "[I", true)
  | 2 => ("NameHall$Scene", "hoursWorn", "[I", true)
  | 3 => ("NameHall$Scene", "hoursWaited", "[I", true)
  | 4 => ("NameHall$Scene", "goneNames", "I", false)
  | 5 => ("NameHall$Scene", "gonePeople", "I", false)
  | _ => ("NameHall$Scene", "hour", "I", false)
def tyX6 : Nat → FieldType := fun k => match k with
  | 0 => .object "NameHall$Plan"
  | 1 => .array .int
  | 2 => .array .int
  | 3 => .array .int
  | 4 => .int
  | 5 => .int
  | _ => .int
abbrev wsX60 : List Cond := u_ws RX6 TX6 7
theorem nmX6 : ∀ a, a < 7 → ∀ b, b < 7 → a ≠ b → (TX6 a).2.1 ≠ (TX6 b).2.1 := by decide +kernel
theorem tyX6_ok : ∀ k, k < 7 → parseFieldDescriptor (TX6 k).2.2.1 = some (tyX6 k) := by decide +kernel
abbrev cX6_init : ByteArray := prog_8_method_1_code
def yX6_init : MethodName := ⟨RX6, "<init>", "(LNameHall$Plan;)V"⟩
abbrev cX6_startAnew : ByteArray := prog_8_method_2_code
def yX6_startAnew : MethodName := ⟨RX6, "startAnew", "()V"⟩
abbrev cX6_hangAll : ByteArray := prog_8_method_3_code
def yX6_hangAll : MethodName := ⟨RX6, "hangAll", "()V"⟩
abbrev cX6_copy : ByteArray := prog_8_method_4_code
def yX6_copy : MethodName := ⟨RX6, "copy", "(LNameHall$Scene;)V"⟩
abbrev cX6_save : ByteArray := prog_8_method_5_code
def yX6_save : MethodName := ⟨RX6, "save", "([I)V"⟩
abbrev cX6_load : ByteArray := prog_8_method_6_code
def yX6_load : MethodName := ⟨RX6, "load", "([I)V"⟩
abbrev cX6_hourNow : ByteArray := prog_8_method_7_code
def yX6_hourNow : MethodName := ⟨RX6, "hourNow", "()I"⟩
abbrev cX6_nameOf : ByteArray := prog_8_method_8_code
def yX6_nameOf : MethodName := ⟨RX6, "nameOf", "(I)I"⟩
abbrev cX6_hoursWorn : ByteArray := prog_8_method_9_code
def yX6_hoursWorn : MethodName := ⟨RX6, "hoursWorn", "(I)I"⟩
abbrev cX6_hoursWaited : ByteArray := prog_8_method_10_code
def yX6_hoursWaited : MethodName := ⟨RX6, "hoursWaited", "(I)I"⟩
abbrev cX6_allWaited : ByteArray := prog_8_method_11_code
def yX6_allWaited : MethodName := ⟨RX6, "allWaited", "()I"⟩
abbrev cX6_goneNames : ByteArray := prog_8_method_12_code
def yX6_goneNames : MethodName := ⟨RX6, "goneNames", "()I"⟩
abbrev cX6_isNameGone : ByteArray := prog_8_method_13_code
def yX6_isNameGone : MethodName := ⟨RX6, "isNameGone", "(I)Z"⟩
abbrev cX6_isPersonGone : ByteArray := prog_8_method_14_code
def yX6_isPersonGone : MethodName := ⟨RX6, "isPersonGone", "(I)Z"⟩
abbrev cX6_wearers : ByteArray := prog_8_method_15_code
def yX6_wearers : MethodName := ⟨RX6, "wearers", "(I)I"⟩
abbrev cX6_fits : ByteArray := prog_8_method_16_code
def yX6_fits : MethodName := ⟨RX6, "fits", "(I)I"⟩
abbrev cX6_isFitting : ByteArray := prog_8_method_17_code
def yX6_isFitting : MethodName := ⟨RX6, "isFitting", "(II)Z"⟩
abbrev cX6_needsAt : ByteArray := prog_8_method_18_code
def yX6_needsAt : MethodName := ⟨RX6, "needsAt", "(II)Z"⟩
abbrev cX6_needingAt : ByteArray := prog_8_method_19_code
def yX6_needingAt : MethodName := ⟨RX6, "needingAt", "(I)I"⟩
abbrev cX6_takersAt : ByteArray := prog_8_method_20_code
def yX6_takersAt : MethodName := ⟨RX6, "takersAt", "(II)I"⟩
abbrev cX6_isSomebody : ByteArray := prog_8_method_21_code
def yX6_isSomebody : MethodName := ⟨RX6, "isSomebody", "(I)Z"⟩
abbrev cX6_somebodies : ByteArray := prog_8_method_22_code
def yX6_somebodies : MethodName := ⟨RX6, "somebodies", "()I"⟩
abbrev cX6_halvesWorn : ByteArray := prog_8_method_23_code
def yX6_halvesWorn : MethodName := ⟨RX6, "halvesWorn", "()I"⟩
abbrev cX6_canTake : ByteArray := prog_8_method_24_code
def yX6_canTake : MethodName := ⟨RX6, "canTake", "(II)Z"⟩
abbrev cX6_takes : ByteArray := prog_8_method_25_code
def yX6_takes : MethodName := ⟨RX6, "takes", "(II)Z"⟩
abbrev cX6_hangs : ByteArray := prog_8_method_26_code
def yX6_hangs : MethodName := ⟨RX6, "hangs", "(I)Z"⟩
abbrev cX6_putOn : ByteArray := prog_8_method_27_code
def yX6_putOn : MethodName := ⟨RX6, "putOn", "(II)V"⟩
abbrev cX6_takeOff : ByteArray := prog_8_method_28_code
def yX6_takeOff : MethodName := ⟨RX6, "takeOff", "(I)V"⟩
abbrev cX6_runOff : ByteArray := prog_8_method_29_code
def yX6_runOff : MethodName := ⟨RX6, "runOff", "(I)V"⟩
abbrev cX6_passHour : ByteArray := prog_8_method_30_code
def yX6_passHour : MethodName := ⟨RX6, "passHour", "()I"⟩
abbrev cX6_wearOn : ByteArray := prog_8_method_31_code
def yX6_wearOn : MethodName := ⟨RX6, "wearOn", "(I)V"⟩
def RX7 : String := "NameHall$Slots"
def TX7 : u_T := fun k => match k with
  | 0 => ("NameHall$Slots", "scenes", "[[I", true)
  | _ => ("NameHall$Slots", "kept", "[Z", true)
def tyX7 : Nat → FieldType := fun k => match k with
  | 0 => .array (.array .int)
  | _ => .array .boolean
abbrev wsX70 : List Cond := u_ws RX7 TX7 2
theorem nmX7 : ∀ a, a < 2 → ∀ b, b < 2 → a ≠ b → (TX7 a).2.1 ≠ (TX7 b).2.1 := by decide +kernel
theorem tyX7_ok : ∀ k, k < 2 → parseFieldDescriptor (TX7 k).2.2.1 = some (tyX7 k) := by decide +kernel
abbrev cX7_init : ByteArray := prog_9_method_1_code
def yX7_init : MethodName := ⟨RX7, "<init>", "()V"⟩
abbrev cX7_has : ByteArray := prog_9_method_2_code
def yX7_has : MethodName := ⟨RX7, "has", "(I)Z"⟩
abbrev cX7_clear : ByteArray := prog_9_method_3_code
def yX7_clear : MethodName := ⟨RX7, "clear", "()V"⟩
abbrev cX7_store : ByteArray := prog_9_method_4_code
def yX7_store : MethodName := ⟨RX7, "store", "(ILNameHall$Scene;)Z"⟩
abbrev cX7_load : ByteArray := prog_9_method_5_code
def yX7_load : MethodName := ⟨RX7, "load", "(ILNameHall$Scene;)Z"⟩
def RX8 : String := "NameHall$Text"
def TX8 : u_T := fun k => match k with
  | 0 => ("NameHall$Text", "letters", "[C", true)
  | _ => ("NameHall$Text", "length", "I", false)
def tyX8 : Nat → FieldType := fun k => match k with
  | 0 => .array .char
  | _ => .int
abbrev wsX80 : List Cond := u_ws RX8 TX8 2
theorem nmX8 : ∀ a, a < 2 → ∀ b, b < 2 → a ≠ b → (TX8 a).2.1 ≠ (TX8 b).2.1 := by decide +kernel
theorem tyX8_ok : ∀ k, k < 2 → parseFieldDescriptor (TX8 k).2.2.1 = some (tyX8 k) := by decide +kernel
abbrev cX8_init : ByteArray := prog_10_method_1_code
def yX8_init : MethodName := ⟨RX8, "<init>", "()V"⟩
abbrev cX8_size : ByteArray := prog_10_method_2_code
def yX8_size : MethodName := ⟨RX8, "size", "()I"⟩
abbrev cX8_append : ByteArray := prog_10_method_3_code
def yX8_append : MethodName := ⟨RX8, "append", "(C)Z"⟩
abbrev cX8_clear : ByteArray := prog_10_method_4_code
def yX8_clear : MethodName := ⟨RX8, "clear", "()I"⟩
abbrev cX8_letterAt : ByteArray := prog_10_method_5_code
def yX8_letterAt : MethodName := ⟨RX8, "letterAt", "(I)C"⟩
abbrev cX8_firstFault : ByteArray := prog_10_method_6_code
def yX8_firstFault : MethodName := ⟨RX8, "firstFault", "()I"⟩
abbrev cX8_nameFault : ByteArray := prog_10_method_7_code
def yX8_nameFault : MethodName := ⟨RX8, "nameFault", "(I)I"⟩
abbrev cX8_personFault : ByteArray := prog_10_method_8_code
def yX8_personFault : MethodName := ⟨RX8, "personFault", "(I)I"⟩
abbrev cX8_isWrong : ByteArray := prog_10_method_9_code
def yX8_isWrong : MethodName := ⟨RX8, "isWrong", "(ICC)Z"⟩
def RX9 : String := "NameHall"
def TX9 : u_T := fun k => match k with
  | 0 => ("NameHall", "text", "LNameHall$Text;", true)
  | 1 => ("NameHall", "plan", "LNameHall$Plan;", true)
  | 2 => ("NameHall", "now", "LNameHall$Scene;", true)
  | 3 => ("NameHall", "trial", "LNameHall$Scene;", true)
  | 4 => ("NameHall", "acts", "LNameHall$ActRow;", true)
  | 5 => ("NameHall", "slots", "LNameHall$Slots;", true)
  | 6 => ("NameHall", "clues", "LNameHall$Clues;", true)
  | 7 => ("NameHall", "giving", "LNameHall$Giving;", true)
  | 8 => ("NameHall", "rescue", "LNameHall$Rescue;", true)
  | 9 => ("NameHall", "bidding", "LNameHall$Bidding;", true)
  | 10 => ("NameHall", "things", "[I", true)
  | _ => ("NameHall", "seed", "J", false)
def tyX9 : Nat → FieldType := fun k => match k with
  | 0 => .object "NameHall$Text"
  | 1 => .object "NameHall$Plan"
  | 2 => .object "NameHall$Scene"
  | 3 => .object "NameHall$Scene"
  | 4 => .object "NameHall$ActRow"
  | 5 => .object "NameHall$Slots"
  | 6 => .object "NameHall$Clues"
  | 7 => .object "NameHall$Giving"
  | 8 => .object "NameHall$Rescue"
  | 9 => .object "NameHall$Bidding"
  | 10 => .array .int
  | _ => .long
abbrev wsX90 : List Cond := u_ws RX9 TX9 12
theorem nmX9 : ∀ a, a < 12 → ∀ b, b < 12 → a ≠ b → (TX9 a).2.1 ≠ (TX9 b).2.1 := by decide +kernel
theorem tyX9_ok : ∀ k, k < 12 → parseFieldDescriptor (TX9 k).2.2.1 = some (tyX9 k) := by decide +kernel
abbrev cX9_init : ByteArray := prog_1_method_1_code
def yX9_init : MethodName := ⟨RX9, "<init>", "()V"⟩
abbrev cX9_write : ByteArray := prog_1_method_2_code
def yX9_write : MethodName := ⟨RX9, "write", "(I)I"⟩
abbrev cX9_wipe : ByteArray := prog_1_method_3_code
def yX9_wipe : MethodName := ⟨RX9, "wipe", "()I"⟩
abbrev cX9_fault : ByteArray := prog_1_method_4_code
def yX9_fault : MethodName := ⟨RX9, "fault", "()I"⟩
abbrev cX9_hall : ByteArray := prog_1_method_5_code
def yX9_hall : MethodName := ⟨RX9, "hall", "()I"⟩
abbrev cX9_name : ByteArray := prog_1_method_6_code
def yX9_name : MethodName := ⟨RX9, "name", "(II)I"⟩
abbrev cX9_person : ByteArray := prog_1_method_7_code
def yX9_person : MethodName := ⟨RX9, "person", "(II)I"⟩
abbrev cX9_take : ByteArray := prog_1_method_8_code
def yX9_take : MethodName := ⟨RX9, "take", "(II)I"⟩
abbrev cX9_hang : ByteArray := prog_1_method_9_code
def yX9_hang : MethodName := ⟨RX9, "hang", "(I)I"⟩
abbrev cX9_hour : ByteArray := prog_1_method_10_code
def yX9_hour : MethodName := ⟨RX9, "hour", "()I"⟩
abbrev cX9_run : ByteArray := prog_1_method_11_code
def yX9_run : MethodName := ⟨RX9, "run", "(I)I"⟩
abbrev cX9_undo : ByteArray := prog_1_method_12_code
def yX9_undo : MethodName := ⟨RX9, "undo", "()I"⟩
abbrev cX9_most : ByteArray := prog_1_method_13_code
def yX9_most : MethodName := ⟨RX9, "most", "(IZ)I"⟩
abbrev cX9_waiting : ByteArray := prog_1_method_14_code
def yX9_waiting : MethodName := ⟨RX9, "waiting", "(II)I"⟩
abbrev cX9_first : ByteArray := prog_1_method_15_code
def yX9_first : MethodName := ⟨RX9, "first", "()I"⟩
abbrev cX9_fire : ByteArray := prog_1_method_16_code
def yX9_fire : MethodName := ⟨RX9, "fire", "(Z)I"⟩
abbrev cX9_judge : ByteArray := prog_1_method_17_code
def yX9_judge : MethodName := ⟨RX9, "judge", "(II)I"⟩
abbrev cX9_see : ByteArray := prog_1_method_18_code
def yX9_see : MethodName := ⟨RX9, "see", "(II)I"⟩
abbrev cX9_deed : ByteArray := prog_1_method_19_code
def yX9_deed : MethodName := ⟨RX9, "deed", "(II)I"⟩
abbrev cX9_forget : ByteArray := prog_1_method_20_code
def yX9_forget : MethodName := ⟨RX9, "forget", "()I"⟩
abbrev cX9_who : ByteArray := prog_1_method_21_code
def yX9_who : MethodName := ⟨RX9, "who", "(I)I"⟩
abbrev cX9_share : ByteArray := prog_1_method_22_code
def yX9_share : MethodName := ⟨RX9, "share", "(IIZ)I"⟩
abbrev cX9_rests : ByteArray := prog_1_method_23_code
def yX9_rests : MethodName := ⟨RX9, "rests", "(IIII)I"⟩
abbrev cX9_letter : ByteArray := prog_1_method_24_code
def yX9_letter : MethodName := ⟨RX9, "letter", "(IIZ)I"⟩
abbrev cX9_seed : ByteArray := prog_1_method_25_code
def yX9_seed : MethodName := ⟨RX9, "seed", "(J)J"⟩
abbrev cX9_days : ByteArray := prog_1_method_26_code
def yX9_days : MethodName := ⟨RX9, "days", "(I)I"⟩
abbrev cX9_keep : ByteArray := prog_1_method_27_code
def yX9_keep : MethodName := ⟨RX9, "keep", "(I)I"⟩
abbrev cX9_again : ByteArray := prog_1_method_28_code
def yX9_again : MethodName := ⟨RX9, "again", "(I)I"⟩
abbrev cX9_count : ByteArray := prog_1_method_29_code
def yX9_count : MethodName := ⟨RX9, "count", "(I)I"⟩
abbrev cX9_isHour : ByteArray := prog_1_method_30_code
def yX9_isHour : MethodName := ⟨RX9, "isHour", "(I)Z"⟩
abbrev cX9_leftWithout : ByteArray := prog_1_method_31_code
def yX9_leftWithout : MethodName := ⟨RX9, "leftWithout", "(I)I"⟩
abbrev cX9_readThings : ByteArray := prog_1_method_32_code
def yX9_readThings : MethodName := ⟨RX9, "readThings", "(II)Z"⟩
abbrev cX9_happens : ByteArray := prog_1_method_33_code
def yX9_happens : MethodName := ⟨RX9, "happens", "(I)Z"⟩
abbrev cX9_actByChance : ByteArray := prog_1_method_34_code
def yX9_actByChance : MethodName := ⟨RX9, "actByChance", "(I)V"⟩
abbrev cX9_gain : ByteArray := prog_1_method_35_code
def yX9_gain : MethodName := ⟨RX9, "gain", "(III)I"⟩
abbrev cX9_ordersWith : ByteArray := prog_1_method_36_code
def yX9_ordersWith : MethodName := ⟨RX9, "ordersWith", "(I)I"⟩
abbrev cX9_factorial : ByteArray := prog_1_method_37_code
def yX9_factorial : MethodName := ⟨RX9, "factorial", "(I)I"⟩
abbrev cX9_partOfFraction : ByteArray := prog_1_method_38_code
def yX9_partOfFraction : MethodName := ⟨RX9, "partOfFraction", "(IIZ)I"⟩
abbrev cX9_commonDivisor : ByteArray := prog_1_method_39_code
def yX9_commonDivisor : MethodName := ⟨RX9, "commonDivisor", "(II)I"⟩
def RX10 : String := "NameHallModel"
def TX10 : u_T := fun k => match k with
  | 0 => ("NameHallModel", "names", "I", false)
  | 1 => ("NameHallModel", "people", "I", false)
  | 2 => ("NameHallModel", "kind", "[I", true)
  | 3 => ("NameHallModel", "value", "[I", true)
  | 4 => ("NameHallModel", "from", "[I", true)
  | 5 => ("NameHallModel", "upTo", "[I", true)
  | 6 => ("NameHallModel", "fits", "[I", true)
  | 7 => ("NameHallModel", "now", "[I", true)
  | 8 => ("NameHallModel", "readName", "[I", true)
  | 9 => ("NameHallModel", "readPerson", "[I", true)
  | 10 => ("NameHallModel", "readNames", "I", false)
  | 11 => ("NameHallModel", "readPeople", "I", false)
  | 12 => ("NameHallModel", "text", "[I", true)
  | 13 => ("NameHallModel", "length", "I", false)
  | 14 => ("NameHallModel", "at", "I", false)
  | 15 => ("NameHallModel", "faultAt", "I", false)
  | 16 => ("NameHallModel", "acts", "I", false)
  | 17 => ("NameHallModel", "next", "I", false)
  | 18 => ("NameHallModel", "row", "[I", true)
  | 19 => ("NameHallModel", "given", "[I", true)
  | 20 => ("NameHallModel", "bestWay", "I", false)
  | 21 => ("NameHallModel", "told", "I", false)
  | 22 => ("NameHallModel", "toldOf", "[I", true)
  | 23 => ("NameHallModel", "toldAt", "[I", true)
  | 24 => ("NameHallModel", "mosts", "[I", true)
  | 25 => ("NameHallModel", "seed", "J", false)
  | 26 => ("NameHallModel", "isKept", "[Z", true)
  | _ => ("NameHallModel", "kept", "[I", true)
def tyX10 : Nat → FieldType := fun k => match k with
  | 0 => .int
  | 1 => .int
  | 2 => .array .int
  | 3 => .array .int
  | 4 => .array .int
  | 5 => .array .int
  | 6 => .array .int
  | 7 => .array .int
  | 8 => .array .int
  | 9 => .array .int
  | 10 => .int
  | 11 => .int
  | 12 => .array .int
  | 13 => .int
  | 14 => .int
  | 15 => .int
  | 16 => .int
  | 17 => .int
  | 18 => .array .int
  | 19 => .array .int
  | 20 => .int
  | 21 => .int
  | 22 => .array .int
  | 23 => .array .int
  | 24 => .array .int
  | 25 => .long
  | 26 => .array .boolean
  | _ => .array .int
abbrev wsX100 : List Cond := u_ws RX10 TX10 28
theorem nmX10 : ∀ a, a < 28 → ∀ b, b < 28 → a ≠ b → (TX10 a).2.1 ≠ (TX10 b).2.1 := by decide +kernel
theorem tyX10_ok : ∀ k, k < 28 → parseFieldDescriptor (TX10 k).2.2.1 = some (tyX10 k) := by decide +kernel
abbrev cX10_init : ByteArray := prog_12_method_1_code
def yX10_init : MethodName := ⟨RX10, "<init>", "()V"⟩
abbrev cX10_in : ByteArray := prog_12_method_3_code
def yX10_in : MethodName := ⟨RX10, "in", "(JJJ)Z"⟩
abbrev cX10_has : ByteArray := prog_12_method_4_code
def yX10_has : MethodName := ⟨RX10, "has", "(II)Z"⟩
abbrev cX10_ones : ByteArray := prog_12_method_5_code
def yX10_ones : MethodName := ⟨RX10, "ones", "(I)I"⟩
abbrev cX10_write : ByteArray := prog_12_method_6_code
def yX10_write : MethodName := ⟨RX10, "write", "(I)I"⟩
abbrev cX10_wipe : ByteArray := prog_12_method_7_code
def yX10_wipe : MethodName := ⟨RX10, "wipe", "()I"⟩
abbrev cX10_letterOf : ByteArray := prog_12_method_8_code
def yX10_letterOf : MethodName := ⟨RX10, "letterOf", "(III)I"⟩
abbrev cX10_readText : ByteArray := prog_12_method_9_code
def yX10_readText : MethodName := ⟨RX10, "readText", "()I"⟩
abbrev cX10_fault : ByteArray := prog_12_method_10_code
def yX10_fault : MethodName := ⟨RX10, "fault", "()I"⟩
abbrev cX10_hall : ByteArray := prog_12_method_11_code
def yX10_hall : MethodName := ⟨RX10, "hall", "()I"⟩
abbrev cX10_isName : ByteArray := prog_12_method_12_code
def yX10_isName : MethodName := ⟨RX10, "isName", "(I)Z"⟩
abbrev cX10_isPerson : ByteArray := prog_12_method_13_code
def yX10_isPerson : MethodName := ⟨RX10, "isPerson", "(I)Z"⟩
abbrev cX10_isGone : ByteArray := prog_12_method_14_code
def yX10_isGone : MethodName := ⟨RX10, "isGone", "(II)Z"⟩
abbrev cX10_wearers : ByteArray := prog_12_method_15_code
def yX10_wearers : MethodName := ⟨RX10, "wearers", "(II)I"⟩
abbrev cX10_isSomebody : ByteArray := prog_12_method_16_code
def yX10_isSomebody : MethodName := ⟨RX10, "isSomebody", "(II)Z"⟩
abbrev cX10_needs : ByteArray := prog_12_method_17_code
def yX10_needs : MethodName := ⟨RX10, "needs", "(III)Z"⟩
abbrev cX10_room : ByteArray := prog_12_method_18_code
def yX10_room : MethodName := ⟨RX10, "room", "(I)I"⟩
abbrev cX10_canTake : ByteArray := prog_12_method_19_code
def yX10_canTake : MethodName := ⟨RX10, "canTake", "(III)Z"⟩
abbrev cX10_takeOn : ByteArray := prog_12_method_20_code
def yX10_takeOn : MethodName := ⟨RX10, "takeOn", "(III)V"⟩
abbrev cX10_passOn : ByteArray := prog_12_method_21_code
def yX10_passOn : MethodName := ⟨RX10, "passOn", "(I)I"⟩
abbrev cX10_name : ByteArray := prog_12_method_22_code
def yX10_name : MethodName := ⟨RX10, "name", "(II)I"⟩
abbrev cX10_person : ByteArray := prog_12_method_23_code
def yX10_person : MethodName := ⟨RX10, "person", "(II)I"⟩
abbrev cX10_keepAct : ByteArray := prog_12_method_24_code
def yX10_keepAct : MethodName := ⟨RX10, "keepAct", "()V"⟩
abbrev cX10_take : ByteArray := prog_12_method_25_code
def yX10_take : MethodName := ⟨RX10, "take", "(II)I"⟩
abbrev cX10_hang : ByteArray := prog_12_method_26_code
def yX10_hang : MethodName := ⟨RX10, "hang", "(I)I"⟩
abbrev cX10_hour : ByteArray := prog_12_method_27_code
def yX10_hour : MethodName := ⟨RX10, "hour", "()I"⟩
abbrev cX10_run : ByteArray := prog_12_method_28_code
def yX10_run : MethodName := ⟨RX10, "run", "(I)I"⟩
abbrev cX10_undo : ByteArray := prog_12_method_29_code
def yX10_undo : MethodName := ⟨RX10, "undo", "()I"⟩
abbrev cX10_power : ByteArray := prog_12_method_30_code
def yX10_power : MethodName := ⟨RX10, "power", "(II)I"⟩
abbrev cX10_nameIn : ByteArray := prog_12_method_31_code
def yX10_nameIn : MethodName := ⟨RX10, "nameIn", "(II)I"⟩
abbrev cX10_figuresOf : ByteArray := prog_12_method_32_code
def yX10_figuresOf : MethodName := ⟨RX10, "figuresOf", "(I)I"⟩
abbrev cX10_isWay : ByteArray := prog_12_method_33_code
def yX10_isWay : MethodName := ⟨RX10, "isWay", "(III)Z"⟩
abbrev cX10_there : ByteArray := prog_12_method_34_code
def yX10_there : MethodName := ⟨RX10, "there", "()I"⟩
abbrev cX10_mostAt : ByteArray := prog_12_method_35_code
def yX10_mostAt : MethodName := ⟨RX10, "mostAt", "(II)I"⟩
abbrev cX10_most : ByteArray := prog_12_method_36_code
def yX10_most : MethodName := ⟨RX10, "most", "(IZ)I"⟩
abbrev cX10_leftAt : ByteArray := prog_12_method_37_code
def yX10_leftAt : MethodName := ⟨RX10, "leftAt", "(I)I"⟩
abbrev cX10_waiting : ByteArray := prog_12_method_38_code
def yX10_waiting : MethodName := ⟨RX10, "waiting", "(II)I"⟩
abbrev cX10_first : ByteArray := prog_12_method_39_code
def yX10_first : MethodName := ⟨RX10, "first", "()I"⟩
abbrev cX10_fire : ByteArray := prog_12_method_40_code
def yX10_fire : MethodName := ⟨RX10, "fire", "(Z)I"⟩
abbrev cX10_layTrial : ByteArray := prog_12_method_41_code
def yX10_layTrial : MethodName := ⟨RX10, "layTrial", "()V"⟩
abbrev cX10_tryThing : ByteArray := prog_12_method_42_code
def yX10_tryThing : MethodName := ⟨RX10, "tryThing", "(I)Z"⟩
abbrev cX10_judge : ByteArray := prog_12_method_43_code
def yX10_judge : MethodName := ⟨RX10, "judge", "(II)I"⟩
abbrev cX10_tell : ByteArray := prog_12_method_44_code
def yX10_tell : MethodName := ⟨RX10, "tell", "(II)I"⟩
abbrev cX10_see : ByteArray := prog_12_method_45_code
def yX10_see : MethodName := ⟨RX10, "see", "(II)I"⟩
abbrev cX10_deed : ByteArray := prog_12_method_46_code
def yX10_deed : MethodName := ⟨RX10, "deed", "(II)I"⟩
abbrev cX10_forget : ByteArray := prog_12_method_47_code
def yX10_forget : MethodName := ⟨RX10, "forget", "()I"⟩
abbrev cX10_wasSeen : ByteArray := prog_12_method_48_code
def yX10_wasSeen : MethodName := ⟨RX10, "wasSeen", "(II)Z"⟩
abbrev cX10_who : ByteArray := prog_12_method_49_code
def yX10_who : MethodName := ⟨RX10, "who", "(I)I"⟩
abbrev cX10_factorial : ByteArray := prog_12_method_50_code
def yX10_factorial : MethodName := ⟨RX10, "factorial", "(I)I"⟩
abbrev cX10_common : ByteArray := prog_12_method_51_code
def yX10_common : MethodName := ⟨RX10, "common", "(II)I"⟩
abbrev cX10_share : ByteArray := prog_12_method_52_code
def yX10_share : MethodName := ⟨RX10, "share", "(IIZ)I"⟩
abbrev cX10_mayHave : ByteArray := prog_12_method_53_code
def yX10_mayHave : MethodName := ⟨RX10, "mayHave", "(II)Z"⟩
abbrev cX10_gain : ByteArray := prog_12_method_54_code
def yX10_gain : MethodName := ⟨RX10, "gain", "(IIIIIZ)I"⟩
abbrev cX10_isRest : ByteArray := prog_12_method_55_code
def yX10_isRest : MethodName := ⟨RX10, "isRest", "(IIIII)Z"⟩
abbrev cX10_rests : ByteArray := prog_12_method_56_code
def yX10_rests : MethodName := ⟨RX10, "rests", "(IIII)I"⟩
abbrev cX10_letter : ByteArray := prog_12_method_57_code
def yX10_letter : MethodName := ⟨RX10, "letter", "(IIZ)I"⟩
abbrev cX10_seed : ByteArray := prog_12_method_58_code
def yX10_seed : MethodName := ⟨RX10, "seed", "(J)J"⟩
abbrev cX10_allWaited : ByteArray := prog_12_method_59_code
def yX10_allWaited : MethodName := ⟨RX10, "allWaited", "(I)I"⟩
abbrev cX10_days : ByteArray := prog_12_method_60_code
def yX10_days : MethodName := ⟨RX10, "days", "(I)I"⟩
abbrev cX10_keep : ByteArray := prog_12_method_61_code
def yX10_keep : MethodName := ⟨RX10, "keep", "(I)I"⟩
abbrev cX10_again : ByteArray := prog_12_method_62_code
def yX10_again : MethodName := ⟨RX10, "again", "(I)I"⟩
abbrev cX10_count : ByteArray := prog_12_method_63_code
def yX10_count : MethodName := ⟨RX10, "count", "(I)I"⟩
def RJ6 : String := "java/lang/Integer"
def TJ6 : u_T := fun k => match k with
  | _ => ("", "", "", false)
def tyJ6 : Nat → FieldType := fun k => match k with
  | _ => .int
abbrev wsJ60 : List Cond := u_ws RJ6 TJ6 0
theorem nmJ6 : ∀ a, a < 0 → ∀ b, b < 0 → a ≠ b → (TJ6 a).2.1 ≠ (TJ6 b).2.1 := by decide +kernel
theorem tyJ6_ok : ∀ k, k < 0 → parseFieldDescriptor (TJ6 k).2.2.1 = some (tyJ6 k) := by decide +kernel
abbrev cJ6_bitCount_0f7a4 : ByteArray := prog_13_method_49_code
def yJ6_bitCount_0f7a4 : MethodName := ⟨RJ6, "bitCount", "(I)I"⟩
def RJ9 : String := "java/lang/Math"
def TJ9 : u_T := fun k => match k with
  | _ => ("", "", "", false)
def tyJ9 : Nat → FieldType := fun k => match k with
  | _ => .int
abbrev wsJ90 : List Cond := u_ws RJ9 TJ9 0
theorem nmJ9 : ∀ a, a < 0 → ∀ b, b < 0 → a ≠ b → (TJ9 a).2.1 ≠ (TJ9 b).2.1 := by decide +kernel
theorem tyJ9_ok : ∀ k, k < 0 → parseFieldDescriptor (TJ9 k).2.2.1 = some (tyJ9 k) := by decide +kernel
abbrev cJ9_floorMod_7cf53 : ByteArray := prog_14_method_50_code
def yJ9_floorMod_7cf53 : MethodName := ⟨RJ9, "floorMod", "(II)I"⟩
abbrev cJ9_max_7cf53 : ByteArray := prog_14_method_65_code
def yJ9_max_7cf53 : MethodName := ⟨RJ9, "max", "(II)I"⟩
abbrev cJ9_min_7cf53 : ByteArray := prog_14_method_69_code
def yJ9_min_7cf53 : MethodName := ⟨RJ9, "min", "(II)I"⟩
def RJ10 : String := "java/lang/System"
def TJ10 : u_T := fun k => match k with
  | _ => ("", "", "", false)
def tyJ10 : Nat → FieldType := fun k => match k with
  | _ => .int
abbrev wsJ100 : List Cond := u_ws RJ10 TJ10 0
theorem nmJ10 : ∀ a, a < 0 → ∀ b, b < 0 → a ≠ b → (TJ10 a).2.1 ≠ (TJ10 b).2.1 := by decide +kernel
theorem tyJ10_ok : ∀ k, k < 0 → parseFieldDescriptor (TJ10 k).2.2.1 = some (tyJ10 k) := by decide +kernel
def RJ7 : String := "java/util/Arrays"
def TJ7 : u_T := fun k => match k with
  | _ => ("", "", "", false)
def tyJ7 : Nat → FieldType := fun k => match k with
  | _ => .int
abbrev wsJ70 : List Cond := u_ws RJ7 TJ7 0
theorem nmJ7 : ∀ a, a < 0 → ∀ b, b < 0 → a ≠ b → (TJ7 a).2.1 ≠ (TJ7 b).2.1 := by decide +kernel
theorem tyJ7_ok : ∀ k, k < 0 → parseFieldDescriptor (TJ7 k).2.2.1 = some (tyJ7 k) := by decide +kernel
abbrev cJ7_fill_53178 : ByteArray := prog_16_method_103_code
def yJ7_fill_53178 : MethodName := ⟨RJ7, "fill", "([II)V"⟩
def RL : String := "NameHallLaw"
abbrev cL_law : ByteArray := code
def yL_law : MethodName := ⟨RL, "law", "([I)Z"⟩
abbrev vwCl : List vw_C := [(RX0, TX0, 3), (RX1, TX1, 3), (RX2, TX2, 3), (RX3, TX3, 3), (RX4, TX4, 7), (RX5, TX5, 4), (RX6, TX6, 7), (RX7, TX7, 2), (RX8, TX8, 2), (RX9, TX9, 12), (RX10, TX10, 28)]
