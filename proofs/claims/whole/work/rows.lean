section
-- ===== PART A: goes FIRST, ahead of the names: the tables' words, and 'selects' of the private methods out of them =====
/-- a private method of a class that the tables say can be made, by its rows of tables_1 -/
def lw_okq (q : MethodName × Nat) : Prop := (q.1.cls ≠ "java/lang/invoke/MethodHandle" ∧ q.1.cls ≠ "java/lang/invoke/VarHandle") ∧ Cond.instantiable q.1.cls q.2 ∈ tables_1 ∧ Cond.privateMethod q.1 ∈ tables_1 ∧ Cond.instanceMethod q.1 ∈ tables_1
theorem lw_p0 : lw_okq (⟨"MoonRights$Reader", "advance", "()V"⟩, 6) := ⟨⟨by decide +kernel, by decide +kernel⟩, List.mem_of_getElem? (i := 19) (by decide +kernel), List.mem_of_getElem? (i := 279) (by decide +kernel), List.mem_of_getElem? (i := 280) (by decide +kernel)⟩
theorem lw_p1 : lw_okq (⟨"MoonRights$Reader", "scanNumber", "()V"⟩, 6) := ⟨⟨by decide +kernel, by decide +kernel⟩, List.mem_of_getElem? (i := 19) (by decide +kernel), List.mem_of_getElem? (i := 283) (by decide +kernel), List.mem_of_getElem? (i := 284) (by decide +kernel)⟩
theorem lw_p2 : lw_okq (⟨"MoonRights$Reader", "readItem", "(LMoonRights$Parish;)Z"⟩, 6) := ⟨⟨by decide +kernel, by decide +kernel⟩, List.mem_of_getElem? (i := 19) (by decide +kernel), List.mem_of_getElem? (i := 287) (by decide +kernel), List.mem_of_getElem? (i := 288) (by decide +kernel)⟩
theorem lw_p3 : lw_okq (⟨"MoonRights$Reader", "readFarmer", "(LMoonRights$Parish;)Z"⟩, 6) := ⟨⟨by decide +kernel, by decide +kernel⟩, List.mem_of_getElem? (i := 19) (by decide +kernel), List.mem_of_getElem? (i := 291) (by decide +kernel), List.mem_of_getElem? (i := 292) (by decide +kernel)⟩
theorem lw_p4 : lw_okq (⟨"MoonRights$Reader", "readNumber", "(II)Z"⟩, 6) := ⟨⟨by decide +kernel, by decide +kernel⟩, List.mem_of_getElem? (i := 19) (by decide +kernel), List.mem_of_getElem? (i := 295) (by decide +kernel), List.mem_of_getElem? (i := 296) (by decide +kernel)⟩
theorem lw_p5 : lw_okq (⟨"MoonRights$Reader", "readItemEnd", "()Z"⟩, 6) := ⟨⟨by decide +kernel, by decide +kernel⟩, List.mem_of_getElem? (i := 19) (by decide +kernel), List.mem_of_getElem? (i := 299) (by decide +kernel), List.mem_of_getElem? (i := 300) (by decide +kernel)⟩
theorem lw_p6 : lw_okq (⟨"MoonRights$Reader", "readStrip", "(LMoonRights$Parish;)Z"⟩, 6) := ⟨⟨by decide +kernel, by decide +kernel⟩, List.mem_of_getElem? (i := 19) (by decide +kernel), List.mem_of_getElem? (i := 303) (by decide +kernel), List.mem_of_getElem? (i := 304) (by decide +kernel)⟩
theorem lw_p7 : lw_okq (⟨"MoonRights$Reader", "readCloud", "(LMoonRights$Parish;)Z"⟩, 6) := ⟨⟨by decide +kernel, by decide +kernel⟩, List.mem_of_getElem? (i := 19) (by decide +kernel), List.mem_of_getElem? (i := 307) (by decide +kernel), List.mem_of_getElem? (i := 308) (by decide +kernel)⟩
theorem lw_p8 : lw_okq (⟨"MoonRights$Reader", "readPhase", "(LMoonRights$Parish;)Z"⟩, 6) := ⟨⟨by decide +kernel, by decide +kernel⟩, List.mem_of_getElem? (i := 19) (by decide +kernel), List.mem_of_getElem? (i := 311) (by decide +kernel), List.mem_of_getElem? (i := 312) (by decide +kernel)⟩
theorem lw_p9 : lw_okq (⟨"MoonRights$Reader", "readEaster", "(LMoonRights$Parish;)Z"⟩, 6) := ⟨⟨by decide +kernel, by decide +kernel⟩, List.mem_of_getElem? (i := 19) (by decide +kernel), List.mem_of_getElem? (i := 315) (by decide +kernel), List.mem_of_getElem? (i := 316) (by decide +kernel)⟩
theorem lw_p10 : lw_okq (⟨"MoonRights", "isFarmer", "(I)Z"⟩, 13) := ⟨⟨by decide +kernel, by decide +kernel⟩, List.mem_of_getElem? (i := 11) (by decide +kernel), List.mem_of_getElem? (i := 328) (by decide +kernel), List.mem_of_getElem? (i := 329) (by decide +kernel)⟩
theorem lw_p11 : lw_okq (⟨"MoonRights", "isStrip", "(I)Z"⟩, 13) := ⟨⟨by decide +kernel, by decide +kernel⟩, List.mem_of_getElem? (i := 11) (by decide +kernel), List.mem_of_getElem? (i := 344) (by decide +kernel), List.mem_of_getElem? (i := 345) (by decide +kernel)⟩
theorem lw_p12 : lw_okq (⟨"MoonRights", "doneStrips", "()I"⟩, 13) := ⟨⟨by decide +kernel, by decide +kernel⟩, List.mem_of_getElem? (i := 11) (by decide +kernel), List.mem_of_getElem? (i := 363) (by decide +kernel), List.mem_of_getElem? (i := 364) (by decide +kernel)⟩
theorem lw_p13 : lw_okq (⟨"MoonRights", "quartersOfAll", "()I"⟩, 13) := ⟨⟨by decide +kernel, by decide +kernel⟩, List.mem_of_getElem? (i := 11) (by decide +kernel), List.mem_of_getElem? (i := 367) (by decide +kernel), List.mem_of_getElem? (i := 368) (by decide +kernel)⟩
theorem lw_p14 : lw_okq (⟨"MoonRights", "fullNights", "()I"⟩, 13) := ⟨⟨by decide +kernel, by decide +kernel⟩, List.mem_of_getElem? (i := 11) (by decide +kernel), List.mem_of_getElem? (i := 371) (by decide +kernel), List.mem_of_getElem? (i := 372) (by decide +kernel)⟩
theorem lw_p15 : lw_okq (⟨"MoonRights", "areTwo", "(II)Z"⟩, 13) := ⟨⟨by decide +kernel, by decide +kernel⟩, List.mem_of_getElem? (i := 11) (by decide +kernel), List.mem_of_getElem? (i := 411) (by decide +kernel), List.mem_of_getElem? (i := 412) (by decide +kernel)⟩
def lw_privs_1 : List (MethodName × Nat) := [(⟨"MoonRights$Reader", "advance", "()V"⟩, 6), (⟨"MoonRights$Reader", "scanNumber", "()V"⟩, 6), (⟨"MoonRights$Reader", "readItem", "(LMoonRights$Parish;)Z"⟩, 6), (⟨"MoonRights$Reader", "readFarmer", "(LMoonRights$Parish;)Z"⟩, 6), (⟨"MoonRights$Reader", "readNumber", "(II)Z"⟩, 6), (⟨"MoonRights$Reader", "readItemEnd", "()Z"⟩, 6), (⟨"MoonRights$Reader", "readStrip", "(LMoonRights$Parish;)Z"⟩, 6), (⟨"MoonRights$Reader", "readCloud", "(LMoonRights$Parish;)Z"⟩, 6), (⟨"MoonRights$Reader", "readPhase", "(LMoonRights$Parish;)Z"⟩, 6), (⟨"MoonRights$Reader", "readEaster", "(LMoonRights$Parish;)Z"⟩, 6), (⟨"MoonRights", "isFarmer", "(I)Z"⟩, 13), (⟨"MoonRights", "isStrip", "(I)Z"⟩, 13), (⟨"MoonRights", "doneStrips", "()I"⟩, 13), (⟨"MoonRights", "quartersOfAll", "()I"⟩, 13), (⟨"MoonRights", "fullNights", "()I"⟩, 13), (⟨"MoonRights", "areTwo", "(II)Z"⟩, 13)]
theorem lw_r1 : ∀ q ∈ lw_privs_1, lw_okq q := List.forall_mem_cons.mpr ⟨lw_p0, List.forall_mem_cons.mpr ⟨lw_p1, List.forall_mem_cons.mpr ⟨lw_p2, List.forall_mem_cons.mpr ⟨lw_p3, List.forall_mem_cons.mpr ⟨lw_p4, List.forall_mem_cons.mpr ⟨lw_p5, List.forall_mem_cons.mpr ⟨lw_p6, List.forall_mem_cons.mpr ⟨lw_p7, List.forall_mem_cons.mpr ⟨lw_p8, List.forall_mem_cons.mpr ⟨lw_p9, List.forall_mem_cons.mpr ⟨lw_p10, List.forall_mem_cons.mpr ⟨lw_p11, List.forall_mem_cons.mpr ⟨lw_p12, List.forall_mem_cons.mpr ⟨lw_p13, List.forall_mem_cons.mpr ⟨lw_p14, List.forall_mem_cons.mpr ⟨lw_p15, fun _ h => absurd h List.not_mem_nil⟩⟩⟩⟩⟩⟩⟩⟩⟩⟩⟩⟩⟩⟩⟩⟩
theorem lw_p16 : lw_okq (⟨"MoonRights$Standing", "bequeath", "(II)V"⟩, 7) := ⟨⟨by decide +kernel, by decide +kernel⟩, List.mem_of_getElem? (i := 137) (by decide +kernel), List.mem_of_getElem? (i := 435) (by decide +kernel), List.mem_of_getElem? (i := 436) (by decide +kernel)⟩
theorem lw_p17 : lw_okq (⟨"MoonRights", "leastQuarters", "(II)I"⟩, 13) := ⟨⟨by decide +kernel, by decide +kernel⟩, List.mem_of_getElem? (i := 11) (by decide +kernel), List.mem_of_getElem? (i := 452) (by decide +kernel), List.mem_of_getElem? (i := 453) (by decide +kernel)⟩
theorem lw_p18 : lw_okq (⟨"MoonRights$Almanac", "draw", "()V"⟩, 5) := ⟨⟨by decide +kernel, by decide +kernel⟩, List.mem_of_getElem? (i := 111) (by decide +kernel), List.mem_of_getElem? (i := 460) (by decide +kernel), List.mem_of_getElem? (i := 461) (by decide +kernel)⟩
theorem lw_p19 : lw_okq (⟨"MoonRights$Almanac", "nightsWith", "(II)I"⟩, 5) := ⟨⟨by decide +kernel, by decide +kernel⟩, List.mem_of_getElem? (i := 111) (by decide +kernel), List.mem_of_getElem? (i := 465) (by decide +kernel), List.mem_of_getElem? (i := 466) (by decide +kernel)⟩
theorem lw_p20 : lw_okq (⟨"MoonRights", "needOf", "(I)I"⟩, 13) := ⟨⟨by decide +kernel, by decide +kernel⟩, List.mem_of_getElem? (i := 11) (by decide +kernel), List.mem_of_getElem? (i := 487) (by decide +kernel), List.mem_of_getElem? (i := 488) (by decide +kernel)⟩
theorem lw_p21 : lw_okq (⟨"MoonRights", "weighFreeFarmers", "()V"⟩, 13) := ⟨⟨by decide +kernel, by decide +kernel⟩, List.mem_of_getElem? (i := 11) (by decide +kernel), List.mem_of_getElem? (i := 500) (by decide +kernel), List.mem_of_getElem? (i := 501) (by decide +kernel)⟩
theorem lw_p22 : lw_okq (⟨"MoonRights", "asStrip", "(I)I"⟩, 13) := ⟨⟨by decide +kernel, by decide +kernel⟩, List.mem_of_getElem? (i := 11) (by decide +kernel), List.mem_of_getElem? (i := 533) (by decide +kernel), List.mem_of_getElem? (i := 534) (by decide +kernel)⟩
theorem lw_p23 : lw_okq (⟨"MoonRights", "asClay", "(I)I"⟩, 13) := ⟨⟨by decide +kernel, by decide +kernel⟩, List.mem_of_getElem? (i := 11) (by decide +kernel), List.mem_of_getElem? (i := 537) (by decide +kernel), List.mem_of_getElem? (i := 538) (by decide +kernel)⟩
theorem lw_p24 : lw_okq (⟨"MoonRights", "asSand", "(I)I"⟩, 13) := ⟨⟨by decide +kernel, by decide +kernel⟩, List.mem_of_getElem? (i := 11) (by decide +kernel), List.mem_of_getElem? (i := 542) (by decide +kernel), List.mem_of_getElem? (i := 543) (by decide +kernel)⟩
theorem lw_p25 : lw_okq (⟨"MoonRights", "asMarsh", "(I)I"⟩, 13) := ⟨⟨by decide +kernel, by decide +kernel⟩, List.mem_of_getElem? (i := 11) (by decide +kernel), List.mem_of_getElem? (i := 547) (by decide +kernel), List.mem_of_getElem? (i := 548) (by decide +kernel)⟩
theorem lw_p26 : lw_okq (⟨"MoonRights", "asHill", "(I)I"⟩, 13) := ⟨⟨by decide +kernel, by decide +kernel⟩, List.mem_of_getElem? (i := 11) (by decide +kernel), List.mem_of_getElem? (i := 552) (by decide +kernel), List.mem_of_getElem? (i := 553) (by decide +kernel)⟩
theorem lw_p27 : lw_okq (⟨"MoonRights", "asMoor", "(I)I"⟩, 13) := ⟨⟨by decide +kernel, by decide +kernel⟩, List.mem_of_getElem? (i := 11) (by decide +kernel), List.mem_of_getElem? (i := 557) (by decide +kernel), List.mem_of_getElem? (i := 558) (by decide +kernel)⟩
theorem lw_p28 : lw_okq (⟨"MoonRightsModel", "begins", "()V"⟩, 26) := ⟨⟨by decide +kernel, by decide +kernel⟩, List.mem_of_getElem? (i := 582) (by decide +kernel), List.mem_of_getElem? (i := 588) (by decide +kernel), List.mem_of_getElem? (i := 589) (by decide +kernel)⟩
theorem lw_p29 : lw_okq (⟨"MoonRightsModel", "settles", "()V"⟩, 26) := ⟨⟨by decide +kernel, by decide +kernel⟩, List.mem_of_getElem? (i := 582) (by decide +kernel), List.mem_of_getElem? (i := 592) (by decide +kernel), List.mem_of_getElem? (i := 593) (by decide +kernel)⟩
theorem lw_p30 : lw_okq (⟨"MoonRightsModel", "advances", "()V"⟩, 26) := ⟨⟨by decide +kernel, by decide +kernel⟩, List.mem_of_getElem? (i := 582) (by decide +kernel), List.mem_of_getElem? (i := 690) (by decide +kernel), List.mem_of_getElem? (i := 691) (by decide +kernel)⟩
theorem lw_p31 : lw_okq (⟨"MoonRightsModel", "letterAt", "(I)I"⟩, 26) := ⟨⟨by decide +kernel, by decide +kernel⟩, List.mem_of_getElem? (i := 582) (by decide +kernel), List.mem_of_getElem? (i := 694) (by decide +kernel), List.mem_of_getElem? (i := 695) (by decide +kernel)⟩
def lw_privs_2 : List (MethodName × Nat) := [(⟨"MoonRights$Standing", "bequeath", "(II)V"⟩, 7), (⟨"MoonRights", "leastQuarters", "(II)I"⟩, 13), (⟨"MoonRights$Almanac", "draw", "()V"⟩, 5), (⟨"MoonRights$Almanac", "nightsWith", "(II)I"⟩, 5), (⟨"MoonRights", "needOf", "(I)I"⟩, 13), (⟨"MoonRights", "weighFreeFarmers", "()V"⟩, 13), (⟨"MoonRights", "asStrip", "(I)I"⟩, 13), (⟨"MoonRights", "asClay", "(I)I"⟩, 13), (⟨"MoonRights", "asSand", "(I)I"⟩, 13), (⟨"MoonRights", "asMarsh", "(I)I"⟩, 13), (⟨"MoonRights", "asHill", "(I)I"⟩, 13), (⟨"MoonRights", "asMoor", "(I)I"⟩, 13), (⟨"MoonRightsModel", "begins", "()V"⟩, 26), (⟨"MoonRightsModel", "settles", "()V"⟩, 26), (⟨"MoonRightsModel", "advances", "()V"⟩, 26), (⟨"MoonRightsModel", "letterAt", "(I)I"⟩, 26)]
theorem lw_r2 : ∀ q ∈ lw_privs_2, lw_okq q := List.forall_mem_cons.mpr ⟨lw_p16, List.forall_mem_cons.mpr ⟨lw_p17, List.forall_mem_cons.mpr ⟨lw_p18, List.forall_mem_cons.mpr ⟨lw_p19, List.forall_mem_cons.mpr ⟨lw_p20, List.forall_mem_cons.mpr ⟨lw_p21, List.forall_mem_cons.mpr ⟨lw_p22, List.forall_mem_cons.mpr ⟨lw_p23, List.forall_mem_cons.mpr ⟨lw_p24, List.forall_mem_cons.mpr ⟨lw_p25, List.forall_mem_cons.mpr ⟨lw_p26, List.forall_mem_cons.mpr ⟨lw_p27, List.forall_mem_cons.mpr ⟨lw_p28, List.forall_mem_cons.mpr ⟨lw_p29, List.forall_mem_cons.mpr ⟨lw_p30, List.forall_mem_cons.mpr ⟨lw_p31, fun _ h => absurd h List.not_mem_nil⟩⟩⟩⟩⟩⟩⟩⟩⟩⟩⟩⟩⟩⟩⟩⟩
theorem lw_p32 : lw_okq (⟨"MoonRightsModel", "isWell", "()Z"⟩, 26) := ⟨⟨by decide +kernel, by decide +kernel⟩, List.mem_of_getElem? (i := 582) (by decide +kernel), List.mem_of_getElem? (i := 701) (by decide +kernel), List.mem_of_getElem? (i := 702) (by decide +kernel)⟩
theorem lw_p33 : lw_okq (⟨"MoonRightsModel", "mayBegin", "()Z"⟩, 26) := ⟨⟨by decide +kernel, by decide +kernel⟩, List.mem_of_getElem? (i := 582) (by decide +kernel), List.mem_of_getElem? (i := 705) (by decide +kernel), List.mem_of_getElem? (i := 706) (by decide +kernel)⟩
theorem lw_p34 : lw_okq (⟨"MoonRightsModel", "takes", "(Z)I"⟩, 26) := ⟨⟨by decide +kernel, by decide +kernel⟩, List.mem_of_getElem? (i := 582) (by decide +kernel), List.mem_of_getElem? (i := 709) (by decide +kernel), List.mem_of_getElem? (i := 710) (by decide +kernel)⟩
theorem lw_p35 : lw_okq (⟨"MoonRightsModel", "readsItem", "(I)V"⟩, 26) := ⟨⟨by decide +kernel, by decide +kernel⟩, List.mem_of_getElem? (i := 582) (by decide +kernel), List.mem_of_getElem? (i := 713) (by decide +kernel), List.mem_of_getElem? (i := 714) (by decide +kernel)⟩
theorem lw_p36 : lw_okq (⟨"MoonRightsModel", "number", "(II)I"⟩, 26) := ⟨⟨by decide +kernel, by decide +kernel⟩, List.mem_of_getElem? (i := 582) (by decide +kernel), List.mem_of_getElem? (i := 717) (by decide +kernel), List.mem_of_getElem? (i := 718) (by decide +kernel)⟩
theorem lw_p37 : lw_okq (⟨"MoonRightsModel", "isFarmer", "(I)Z"⟩, 26) := ⟨⟨by decide +kernel, by decide +kernel⟩, List.mem_of_getElem? (i := 582) (by decide +kernel), List.mem_of_getElem? (i := 725) (by decide +kernel), List.mem_of_getElem? (i := 726) (by decide +kernel)⟩
theorem lw_p38 : lw_okq (⟨"MoonRightsModel", "isStrip", "(I)Z"⟩, 26) := ⟨⟨by decide +kernel, by decide +kernel⟩, List.mem_of_getElem? (i := 582) (by decide +kernel), List.mem_of_getElem? (i := 733) (by decide +kernel), List.mem_of_getElem? (i := 734) (by decide +kernel)⟩
theorem lw_p39 : lw_okq (⟨"MoonRightsModel", "moon", "(I)I"⟩, 26) := ⟨⟨by decide +kernel, by decide +kernel⟩, List.mem_of_getElem? (i := 582) (by decide +kernel), List.mem_of_getElem? (i := 741) (by decide +kernel), List.mem_of_getElem? (i := 742) (by decide +kernel)⟩
theorem lw_p40 : lw_okq (⟨"MoonRightsModel", "lives", "(I)Z"⟩, 26) := ⟨⟨by decide +kernel, by decide +kernel⟩, List.mem_of_getElem? (i := 582) (by decide +kernel), List.mem_of_getElem? (i := 753) (by decide +kernel), List.mem_of_getElem? (i := 754) (by decide +kernel)⟩
theorem lw_p41 : lw_okq (⟨"MoonRightsModel", "notes", "()V"⟩, 26) := ⟨⟨by decide +kernel, by decide +kernel⟩, List.mem_of_getElem? (i := 582) (by decide +kernel), List.mem_of_getElem? (i := 757) (by decide +kernel), List.mem_of_getElem? (i := 758) (by decide +kernel)⟩
theorem lw_p42 : lw_okq (⟨"MoonRightsModel", "inherits", "(II)V"⟩, 26) := ⟨⟨by decide +kernel, by decide +kernel⟩, List.mem_of_getElem? (i := 582) (by decide +kernel), List.mem_of_getElem? (i := 777) (by decide +kernel), List.mem_of_getElem? (i := 778) (by decide +kernel)⟩
theorem lw_p43 : lw_okq (⟨"MoonRightsModel", "measures", "(II)I"⟩, 26) := ⟨⟨by decide +kernel, by decide +kernel⟩, List.mem_of_getElem? (i := 582) (by decide +kernel), List.mem_of_getElem? (i := 789) (by decide +kernel), List.mem_of_getElem? (i := 790) (by decide +kernel)⟩
theorem lw_p44 : lw_okq (⟨"MoonRightsModel", "moonOf", "(I)I"⟩, 26) := ⟨⟨by decide +kernel, by decide +kernel⟩, List.mem_of_getElem? (i := 582) (by decide +kernel), List.mem_of_getElem? (i := 794) (by decide +kernel), List.mem_of_getElem? (i := 795) (by decide +kernel)⟩
theorem lw_p45 : lw_okq (⟨"MoonRightsModel", "from", "(II)I"⟩, 26) := ⟨⟨by decide +kernel, by decide +kernel⟩, List.mem_of_getElem? (i := 582) (by decide +kernel), List.mem_of_getElem? (i := 798) (by decide +kernel), List.mem_of_getElem? (i := 799) (by decide +kernel)⟩
theorem lw_p46 : lw_okq (⟨"MoonRightsModel", "needOf", "(I)I"⟩, 26) := ⟨⟨by decide +kernel, by decide +kernel⟩, List.mem_of_getElem? (i := 582) (by decide +kernel), List.mem_of_getElem? (i := 810) (by decide +kernel), List.mem_of_getElem? (i := 811) (by decide +kernel)⟩
theorem lw_p47 : lw_okq (⟨"MoonRightsModel", "lackOf", "(I)I"⟩, 26) := ⟨⟨by decide +kernel, by decide +kernel⟩, List.mem_of_getElem? (i := 582) (by decide +kernel), List.mem_of_getElem? (i := 818) (by decide +kernel), List.mem_of_getElem? (i := 819) (by decide +kernel)⟩
def lw_privs_3 : List (MethodName × Nat) := [(⟨"MoonRightsModel", "isWell", "()Z"⟩, 26), (⟨"MoonRightsModel", "mayBegin", "()Z"⟩, 26), (⟨"MoonRightsModel", "takes", "(Z)I"⟩, 26), (⟨"MoonRightsModel", "readsItem", "(I)V"⟩, 26), (⟨"MoonRightsModel", "number", "(II)I"⟩, 26), (⟨"MoonRightsModel", "isFarmer", "(I)Z"⟩, 26), (⟨"MoonRightsModel", "isStrip", "(I)Z"⟩, 26), (⟨"MoonRightsModel", "moon", "(I)I"⟩, 26), (⟨"MoonRightsModel", "lives", "(I)Z"⟩, 26), (⟨"MoonRightsModel", "notes", "()V"⟩, 26), (⟨"MoonRightsModel", "inherits", "(II)V"⟩, 26), (⟨"MoonRightsModel", "measures", "(II)I"⟩, 26), (⟨"MoonRightsModel", "moonOf", "(I)I"⟩, 26), (⟨"MoonRightsModel", "from", "(II)I"⟩, 26), (⟨"MoonRightsModel", "needOf", "(I)I"⟩, 26), (⟨"MoonRightsModel", "lackOf", "(I)I"⟩, 26)]
theorem lw_r3 : ∀ q ∈ lw_privs_3, lw_okq q := List.forall_mem_cons.mpr ⟨lw_p32, List.forall_mem_cons.mpr ⟨lw_p33, List.forall_mem_cons.mpr ⟨lw_p34, List.forall_mem_cons.mpr ⟨lw_p35, List.forall_mem_cons.mpr ⟨lw_p36, List.forall_mem_cons.mpr ⟨lw_p37, List.forall_mem_cons.mpr ⟨lw_p38, List.forall_mem_cons.mpr ⟨lw_p39, List.forall_mem_cons.mpr ⟨lw_p40, List.forall_mem_cons.mpr ⟨lw_p41, List.forall_mem_cons.mpr ⟨lw_p42, List.forall_mem_cons.mpr ⟨lw_p43, List.forall_mem_cons.mpr ⟨lw_p44, List.forall_mem_cons.mpr ⟨lw_p45, List.forall_mem_cons.mpr ⟨lw_p46, List.forall_mem_cons.mpr ⟨lw_p47, fun _ h => absurd h List.not_mem_nil⟩⟩⟩⟩⟩⟩⟩⟩⟩⟩⟩⟩⟩⟩⟩⟩
def lw_privs : List (MethodName × Nat) := lw_privs_1 ++ (lw_privs_2 ++ (lw_privs_3))
def lw_tbl : List Cond := k2_sels lw_privs ++ tables_1
theorem lw_privs_ok : ∀ q ∈ lw_privs, lw_okq q := by
  show ∀ q ∈ lw_privs_1 ++ (lw_privs_2 ++ (lw_privs_3)), lw_okq q
  exact List.forall_mem_append.mpr ⟨lw_r1, List.forall_mem_append.mpr ⟨lw_r2, lw_r3⟩⟩
end
section
def RX0 : String := "MoonRights$Almanac"
def TX0 : u_T := fun k => match k with
  | 0 => ("MoonRights$Almanac", "fewest", "[I", true)
  | 1 => ("MoonRights$Almanac", "moons", "[I", true)
  | 2 => ("MoonRights$Almanac", "told", "LMoonRights$Parish;", false)
  | 3 => ("MoonRights$Almanac", "easter", "I", false)
  | _ => ("MoonRights$Almanac", "drawn", "Z", false)
def tyX0 : Nat → FieldType := fun k => match k with
  | 0 => .array .int
  | 1 => .array .int
  | 2 => .object "MoonRights$Parish"
  | 3 => .int
  | _ => .boolean
abbrev wsX00 : List Cond := u_ws RX0 TX0 5
theorem nmX0 : ∀ a, a < 5 → ∀ b, b < 5 → a ≠ b → (TX0 a).2.1 ≠ (TX0 b).2.1 := by decide +kernel
theorem tyX0_ok : ∀ k, k < 5 → parseFieldDescriptor (TX0 k).2.2.1 = some (tyX0 k) := by decide +kernel
abbrev cX0_init : ByteArray := prog_2_method_1_code
def yX0_init : MethodName := ⟨RX0, "<init>", "(LMoonRights$Parish;)V"⟩
abbrev cX0_begin : ByteArray := prog_2_method_2_code
def yX0_begin : MethodName := ⟨RX0, "begin", "(LMoonRights$Parish;)V"⟩
abbrev cX0_draw : ByteArray := prog_2_method_3_code
def yX0_draw : MethodName := ⟨RX0, "draw", "()V"⟩
abbrev cX0_nightsWith : ByteArray := prog_2_method_4_code
def yX0_nightsWith : MethodName := ⟨RX0, "nightsWith", "(II)I"⟩
abbrev cX0_quartersFor : ByteArray := prog_2_method_5_code
def yX0_quartersFor : MethodName := ⟨RX0, "quartersFor", "(III)I"⟩
abbrev cX0_nightsFor : ByteArray := prog_2_method_6_code
def yX0_nightsFor : MethodName := ⟨RX0, "nightsFor", "(II)I"⟩
abbrev cX0_nightAt : ByteArray := prog_2_method_7_code
def yX0_nightAt : MethodName := ⟨RX0, "nightAt", "(III)I"⟩
def RX1 : String := "MoonRights$Cuts"
def TX1 : u_T := fun k => match k with
  | 0 => ("MoonRights$Cuts", "farmers", "[I", true)
  | 1 => ("MoonRights$Cuts", "nights", "[I", true)
  | 2 => ("MoonRights$Cuts", "furrows", "[I", true)
  | _ => ("MoonRights$Cuts", "size", "I", false)
def tyX1 : Nat → FieldType := fun k => match k with
  | 0 => .array .int
  | 1 => .array .int
  | 2 => .array .int
  | _ => .int
abbrev wsX10 : List Cond := u_ws RX1 TX1 4
theorem nmX1 : ∀ a, a < 4 → ∀ b, b < 4 → a ≠ b → (TX1 a).2.1 ≠ (TX1 b).2.1 := by decide +kernel
theorem tyX1_ok : ∀ k, k < 4 → parseFieldDescriptor (TX1 k).2.2.1 = some (tyX1 k) := by decide +kernel
abbrev cX1_init : ByteArray := prog_3_method_1_code
def yX1_init : MethodName := ⟨RX1, "<init>", "()V"⟩
abbrev cX1_add : ByteArray := prog_3_method_2_code
def yX1_add : MethodName := ⟨RX1, "add", "(III)Z"⟩
def RX2 : String := "MoonRights$History"
def TX2 : u_T := fun k => match k with
  | 0 => ("MoonRights$History", "past", "[LMoonRights$Standing;", true)
  | 1 => ("MoonRights$History", "next", "I", false)
  | _ => ("MoonRights$History", "known", "I", false)
def tyX2 : Nat → FieldType := fun k => match k with
  | 0 => .array (.object "MoonRights$Standing")
  | 1 => .int
  | _ => .int
abbrev wsX20 : List Cond := u_ws RX2 TX2 3
theorem nmX2 : ∀ a, a < 3 → ∀ b, b < 3 → a ≠ b → (TX2 a).2.1 ≠ (TX2 b).2.1 := by decide +kernel
theorem tyX2_ok : ∀ k, k < 3 → parseFieldDescriptor (TX2 k).2.2.1 = some (tyX2 k) := by decide +kernel
abbrev cX2_init : ByteArray := prog_4_method_1_code
def yX2_init : MethodName := ⟨RX2, "<init>", "()V"⟩
abbrev cX2_push : ByteArray := prog_4_method_2_code
def yX2_push : MethodName := ⟨RX2, "push", "(LMoonRights$Standing;)V"⟩
abbrev cX2_pop : ByteArray := prog_4_method_3_code
def yX2_pop : MethodName := ⟨RX2, "pop", "(LMoonRights$Standing;)Z"⟩
abbrev cX2_forgetAll : ByteArray := prog_4_method_4_code
def yX2_forgetAll : MethodName := ⟨RX2, "forgetAll", "()V"⟩
def RX3 : String := "MoonRights$Parish"
def TX3 : u_T := fun k => match k with
  | 0 => ("MoonRights$Parish", "quarters", "[I", true)
  | 1 => ("MoonRights$Parish", "oxen", "[I", true)
  | 2 => ("MoonRights$Parish", "owners", "[I", true)
  | 3 => ("MoonRights$Parish", "furrows", "[I", true)
  | 4 => ("MoonRights$Parish", "clouds", "[Z", true)
  | 5 => ("MoonRights$Parish", "farmers", "I", false)
  | 6 => ("MoonRights$Parish", "strips", "I", false)
  | 7 => ("MoonRights$Parish", "phase", "I", false)
  | 8 => ("MoonRights$Parish", "easter", "I", false)
  | 9 => ("MoonRights$Parish", "phaseTold", "Z", false)
  | _ => ("MoonRights$Parish", "easterTold", "Z", false)
def tyX3 : Nat → FieldType := fun k => match k with
  | 0 => .array .int
  | 1 => .array .int
  | 2 => .array .int
  | 3 => .array .int
  | 4 => .array .boolean
  | 5 => .int
  | 6 => .int
  | 7 => .int
  | 8 => .int
  | 9 => .boolean
  | _ => .boolean
abbrev wsX30 : List Cond := u_ws RX3 TX3 11
theorem nmX3 : ∀ a, a < 11 → ∀ b, b < 11 → a ≠ b → (TX3 a).2.1 ≠ (TX3 b).2.1 := by decide +kernel
theorem tyX3_ok : ∀ k, k < 11 → parseFieldDescriptor (TX3 k).2.2.1 = some (tyX3 k) := by decide +kernel
abbrev cX3_init : ByteArray := prog_5_method_1_code
def yX3_init : MethodName := ⟨RX3, "<init>", "()V"⟩
abbrev cX3_empty : ByteArray := prog_5_method_2_code
def yX3_empty : MethodName := ⟨RX3, "empty", "()V"⟩
abbrev cX3_moon : ByteArray := prog_5_method_3_code
def yX3_moon : MethodName := ⟨RX3, "moon", "(I)I"⟩
def RX4 : String := "MoonRights$Reader"
def TX4 : u_T := fun k => match k with
  | 0 => ("MoonRights$Reader", "letters", "[C", true)
  | 1 => ("MoonRights$Reader", "length", "I", false)
  | 2 => ("MoonRights$Reader", "at", "I", false)
  | 3 => ("MoonRights$Reader", "token", "I", false)
  | 4 => ("MoonRights$Reader", "place", "I", false)
  | _ => ("MoonRights$Reader", "value", "I", false)
def tyX4 : Nat → FieldType := fun k => match k with
  | 0 => .array .char
  | 1 => .int
  | 2 => .int
  | 3 => .int
  | 4 => .int
  | _ => .int
abbrev wsX40 : List Cond := u_ws RX4 TX4 6
theorem nmX4 : ∀ a, a < 6 → ∀ b, b < 6 → a ≠ b → (TX4 a).2.1 ≠ (TX4 b).2.1 := by decide +kernel
theorem tyX4_ok : ∀ k, k < 6 → parseFieldDescriptor (TX4 k).2.2.1 = some (tyX4 k) := by decide +kernel
abbrev cX4_init : ByteArray := prog_6_method_1_code
def yX4_init : MethodName := ⟨RX4, "<init>", "([C)V"⟩
abbrev cX4_read : ByteArray := prog_6_method_2_code
def yX4_read : MethodName := ⟨RX4, "read", "(ILMoonRights$Parish;)I"⟩
abbrev cX4_readItem : ByteArray := prog_6_method_3_code
def yX4_readItem : MethodName := ⟨RX4, "readItem", "(LMoonRights$Parish;)Z"⟩
abbrev cX4_readFarmer : ByteArray := prog_6_method_4_code
def yX4_readFarmer : MethodName := ⟨RX4, "readFarmer", "(LMoonRights$Parish;)Z"⟩
abbrev cX4_readStrip : ByteArray := prog_6_method_5_code
def yX4_readStrip : MethodName := ⟨RX4, "readStrip", "(LMoonRights$Parish;)Z"⟩
abbrev cX4_readCloud : ByteArray := prog_6_method_6_code
def yX4_readCloud : MethodName := ⟨RX4, "readCloud", "(LMoonRights$Parish;)Z"⟩
abbrev cX4_readPhase : ByteArray := prog_6_method_7_code
def yX4_readPhase : MethodName := ⟨RX4, "readPhase", "(LMoonRights$Parish;)Z"⟩
abbrev cX4_readEaster : ByteArray := prog_6_method_8_code
def yX4_readEaster : MethodName := ⟨RX4, "readEaster", "(LMoonRights$Parish;)Z"⟩
abbrev cX4_readNumber : ByteArray := prog_6_method_9_code
def yX4_readNumber : MethodName := ⟨RX4, "readNumber", "(II)Z"⟩
abbrev cX4_readItemEnd : ByteArray := prog_6_method_10_code
def yX4_readItemEnd : MethodName := ⟨RX4, "readItemEnd", "()Z"⟩
abbrev cX4_advance : ByteArray := prog_6_method_11_code
def yX4_advance : MethodName := ⟨RX4, "advance", "()V"⟩
abbrev cX4_scanNumber : ByteArray := prog_6_method_12_code
def yX4_scanNumber : MethodName := ⟨RX4, "scanNumber", "()V"⟩
def RX5 : String := "MoonRights$Standing"
def TX5 : u_T := fun k => match k with
  | 0 => ("MoonRights$Standing", "quarters", "[I", true)
  | 1 => ("MoonRights$Standing", "mates", "[I", true)
  | 2 => ("MoonRights$Standing", "owners", "[I", true)
  | 3 => ("MoonRights$Standing", "left", "[I", true)
  | 4 => ("MoonRights$Standing", "tonight", "I", false)
  | 5 => ("MoonRights$Standing", "living", "I", false)
  | _ => ("MoonRights$Standing", "ploughed", "I", false)
def tyX5 : Nat → FieldType := fun k => match k with
  | 0 => .array .int
  | 1 => .array .int
  | 2 => .array .int
  | 3 => .array .int
  | 4 => .int
  | 5 => .int
  | _ => .int
abbrev wsX50 : List Cond := u_ws RX5 TX5 7
theorem nmX5 : ∀ a, a < 7 → ∀ b, b < 7 → a ≠ b → (TX5 a).2.1 ≠ (TX5 b).2.1 := by decide +kernel
theorem tyX5_ok : ∀ k, k < 7 → parseFieldDescriptor (TX5 k).2.2.1 = some (tyX5 k) := by decide +kernel
abbrev cX5_init : ByteArray := prog_7_method_1_code
def yX5_init : MethodName := ⟨RX5, "<init>", "()V"⟩
abbrev cX5_begin : ByteArray := prog_7_method_2_code
def yX5_begin : MethodName := ⟨RX5, "begin", "(LMoonRights$Parish;)V"⟩
abbrev cX5_copy : ByteArray := prog_7_method_3_code
def yX5_copy : MethodName := ⟨RX5, "copy", "(LMoonRights$Standing;)V"⟩
abbrev cX5_alive : ByteArray := prog_7_method_4_code
def yX5_alive : MethodName := ⟨RX5, "alive", "(I)Z"⟩
abbrev cX5_free : ByteArray := prog_7_method_5_code
def yX5_free : MethodName := ⟨RX5, "free", "(I)Z"⟩
abbrev cX5_hasPloughed : ByteArray := prog_7_method_6_code
def yX5_hasPloughed : MethodName := ⟨RX5, "hasPloughed", "(I)Z"⟩
abbrev cX5_lowestOther : ByteArray := prog_7_method_7_code
def yX5_lowestOther : MethodName := ⟨RX5, "lowestOther", "(I)I"⟩
abbrev cX5_mayPlough : ByteArray := prog_7_method_8_code
def yX5_mayPlough : MethodName := ⟨RX5, "mayPlough", "(III)Z"⟩
abbrev cX5_plough : ByteArray := prog_7_method_9_code
def yX5_plough : MethodName := ⟨RX5, "plough", "(IIII)V"⟩
abbrev cX5_bury : ByteArray := prog_7_method_10_code
def yX5_bury : MethodName := ⟨RX5, "bury", "(III)V"⟩
abbrev cX5_bequeath : ByteArray := prog_7_method_11_code
def yX5_bequeath : MethodName := ⟨RX5, "bequeath", "(II)V"⟩
def RX6 : String := "MoonRights"
def TX6 : u_T := fun k => match k with
  | 0 => ("MoonRights", "letters", "[C", true)
  | 1 => ("MoonRights", "length", "I", false)
  | 2 => ("MoonRights", "reader", "LMoonRights$Reader;", true)
  | 3 => ("MoonRights", "told", "LMoonRights$Parish;", false)
  | 4 => ("MoonRights", "spare", "LMoonRights$Parish;", false)
  | 5 => ("MoonRights", "almanac", "LMoonRights$Almanac;", true)
  | 6 => ("MoonRights", "standing", "LMoonRights$Standing;", true)
  | 7 => ("MoonRights", "history", "LMoonRights$History;", true)
  | 8 => ("MoonRights", "images", "[LMoonRights$Standing;", true)
  | 9 => ("MoonRights", "kept", "[Z", true)
  | 10 => ("MoonRights", "cutList", "LMoonRights$Cuts;", true)
  | 11 => ("MoonRights", "balance", "[I", true)
  | _ => ("MoonRights", "traced", "J", false)
def tyX6 : Nat → FieldType := fun k => match k with
  | 0 => .array .char
  | 1 => .int
  | 2 => .object "MoonRights$Reader"
  | 3 => .object "MoonRights$Parish"
  | 4 => .object "MoonRights$Parish"
  | 5 => .object "MoonRights$Almanac"
  | 6 => .object "MoonRights$Standing"
  | 7 => .object "MoonRights$History"
  | 8 => .array (.object "MoonRights$Standing")
  | 9 => .array .boolean
  | 10 => .object "MoonRights$Cuts"
  | 11 => .array .int
  | _ => .long
abbrev wsX60 : List Cond := u_ws RX6 TX6 13
theorem nmX6 : ∀ a, a < 13 → ∀ b, b < 13 → a ≠ b → (TX6 a).2.1 ≠ (TX6 b).2.1 := by decide +kernel
theorem tyX6_ok : ∀ k, k < 13 → parseFieldDescriptor (TX6 k).2.2.1 = some (tyX6 k) := by decide +kernel
abbrev cX6_init : ByteArray := prog_1_method_1_code
def yX6_init : MethodName := ⟨RX6, "<init>", "()V"⟩
abbrev cX6_type : ByteArray := prog_1_method_2_code
def yX6_type : MethodName := ⟨RX6, "type", "(I)I"⟩
abbrev cX6_clear : ByteArray := prog_1_method_3_code
def yX6_clear : MethodName := ⟨RX6, "clear", "()I"⟩
abbrev cX6_parish : ByteArray := prog_1_method_4_code
def yX6_parish : MethodName := ⟨RX6, "parish", "()I"⟩
abbrev cX6_farmer : ByteArray := prog_1_method_5_code
def yX6_farmer : MethodName := ⟨RX6, "farmer", "(II)I"⟩
abbrev cX6_strip : ByteArray := prog_1_method_6_code
def yX6_strip : MethodName := ⟨RX6, "strip", "(II)I"⟩
abbrev cX6_night : ByteArray := prog_1_method_7_code
def yX6_night : MethodName := ⟨RX6, "night", "(II)I"⟩
abbrev cX6_now : ByteArray := prog_1_method_8_code
def yX6_now : MethodName := ⟨RX6, "now", "(I)I"⟩
abbrev cX6_ploughs : ByteArray := prog_1_method_9_code
def yX6_ploughs : MethodName := ⟨RX6, "ploughs", "(II)I"⟩
abbrev cX6_passes : ByteArray := prog_1_method_10_code
def yX6_passes : MethodName := ⟨RX6, "passes", "()I"⟩
abbrev cX6_lends : ByteArray := prog_1_method_11_code
def yX6_lends : MethodName := ⟨RX6, "lends", "(III)I"⟩
abbrev cX6_marries : ByteArray := prog_1_method_12_code
def yX6_marries : MethodName := ⟨RX6, "marries", "(II)I"⟩
abbrev cX6_dies : ByteArray := prog_1_method_13_code
def yX6_dies : MethodName := ⟨RX6, "dies", "(I)I"⟩
abbrev cX6_undo : ByteArray := prog_1_method_14_code
def yX6_undo : MethodName := ⟨RX6, "undo", "()I"⟩
abbrev cX6_least : ByteArray := prog_1_method_15_code
def yX6_least : MethodName := ⟨RX6, "least", "(III)I"⟩
abbrev cX6_soonest : ByteArray := prog_1_method_16_code
def yX6_soonest : MethodName := ⟨RX6, "soonest", "(III)I"⟩
abbrev cX6_need : ByteArray := prog_1_method_17_code
def yX6_need : MethodName := ⟨RX6, "need", "(I)I"⟩
abbrev cX6_lacks : ByteArray := prog_1_method_18_code
def yX6_lacks : MethodName := ⟨RX6, "lacks", "(I)I"⟩
abbrev cX6_match : ByteArray := prog_1_method_19_code
def yX6_match : MethodName := ⟨RX6, "match", "(I)I"⟩
abbrev cX6_cuts : ByteArray := prog_1_method_20_code
def yX6_cuts : MethodName := ⟨RX6, "cuts", "(III)I"⟩
abbrev cX6_forget : ByteArray := prog_1_method_21_code
def yX6_forget : MethodName := ⟨RX6, "forget", "()I"⟩
abbrev cX6_lit : ByteArray := prog_1_method_22_code
def yX6_lit : MethodName := ⟨RX6, "lit", "()I"⟩
abbrev cX6_mean : ByteArray := prog_1_method_23_code
def yX6_mean : MethodName := ⟨RX6, "mean", "(III)I"⟩
abbrev cX6_rate : ByteArray := prog_1_method_24_code
def yX6_rate : MethodName := ⟨RX6, "rate", "(II)I"⟩
abbrev cX6_keep : ByteArray := prog_1_method_25_code
def yX6_keep : MethodName := ⟨RX6, "keep", "(I)I"⟩
abbrev cX6_back : ByteArray := prog_1_method_26_code
def yX6_back : MethodName := ⟨RX6, "back", "(I)I"⟩
abbrev cX6_count : ByteArray := prog_1_method_27_code
def yX6_count : MethodName := ⟨RX6, "count", "(I)I"⟩
abbrev cX6_trace : ByteArray := prog_1_method_28_code
def yX6_trace : MethodName := ⟨RX6, "trace", "()J"⟩
abbrev cX6_isFarmer : ByteArray := prog_1_method_29_code
def yX6_isFarmer : MethodName := ⟨RX6, "isFarmer", "(I)Z"⟩
abbrev cX6_areTwo : ByteArray := prog_1_method_30_code
def yX6_areTwo : MethodName := ⟨RX6, "areTwo", "(II)Z"⟩
abbrev cX6_isStrip : ByteArray := prog_1_method_31_code
def yX6_isStrip : MethodName := ⟨RX6, "isStrip", "(I)Z"⟩
abbrev cX6_isNight : ByteArray := prog_1_method_32_code
def yX6_isNight : MethodName := ⟨RX6, "isNight", "(I)Z"⟩
abbrev cX6_isImage : ByteArray := prog_1_method_33_code
def yX6_isImage : MethodName := ⟨RX6, "isImage", "(I)Z"⟩
abbrev cX6_doneStrips : ByteArray := prog_1_method_34_code
def yX6_doneStrips : MethodName := ⟨RX6, "doneStrips", "()I"⟩
abbrev cX6_quartersOfAll : ByteArray := prog_1_method_35_code
def yX6_quartersOfAll : MethodName := ⟨RX6, "quartersOfAll", "()I"⟩
abbrev cX6_fullNights : ByteArray := prog_1_method_36_code
def yX6_fullNights : MethodName := ⟨RX6, "fullNights", "()I"⟩
abbrev cX6_leastQuarters : ByteArray := prog_1_method_37_code
def yX6_leastQuarters : MethodName := ⟨RX6, "leastQuarters", "(II)I"⟩
abbrev cX6_needOf : ByteArray := prog_1_method_38_code
def yX6_needOf : MethodName := ⟨RX6, "needOf", "(I)I"⟩
abbrev cX6_weighFreeFarmers : ByteArray := prog_1_method_39_code
def yX6_weighFreeFarmers : MethodName := ⟨RX6, "weighFreeFarmers", "()V"⟩
abbrev cX6_sharedWithTen : ByteArray := prog_1_method_40_code
def yX6_sharedWithTen : MethodName := ⟨RX6, "sharedWithTen", "(I)I"⟩
abbrev cX6_asStrip : ByteArray := prog_1_method_41_code
def yX6_asStrip : MethodName := ⟨RX6, "asStrip", "(I)I"⟩
abbrev cX6_asClay : ByteArray := prog_1_method_42_code
def yX6_asClay : MethodName := ⟨RX6, "asClay", "(I)I"⟩
abbrev cX6_asSand : ByteArray := prog_1_method_43_code
def yX6_asSand : MethodName := ⟨RX6, "asSand", "(I)I"⟩
abbrev cX6_asMarsh : ByteArray := prog_1_method_44_code
def yX6_asMarsh : MethodName := ⟨RX6, "asMarsh", "(I)I"⟩
abbrev cX6_asHill : ByteArray := prog_1_method_45_code
def yX6_asHill : MethodName := ⟨RX6, "asHill", "(I)I"⟩
abbrev cX6_asMoor : ByteArray := prog_1_method_46_code
def yX6_asMoor : MethodName := ⟨RX6, "asMoor", "(I)I"⟩
def RX7 : String := "MoonRightsModel"
def TX7 : u_T := fun k => match k with
  | 0 => ("MoonRightsModel", "thrown", "I", false)
  | 1 => ("MoonRightsModel", "trace", "J", false)
  | 2 => ("MoonRightsModel", "text", "[I", true)
  | 3 => ("MoonRightsModel", "typed", "I", false)
  | 4 => ("MoonRightsModel", "next", "I", false)
  | 5 => ("MoonRightsModel", "token", "I", false)
  | 6 => ("MoonRightsModel", "place", "I", false)
  | 7 => ("MoonRightsModel", "value", "I", false)
  | 8 => ("MoonRightsModel", "fault", "I", false)
  | 9 => ("MoonRightsModel", "many", "[I", true)
  | 10 => ("MoonRightsModel", "told", "I", false)
  | 11 => ("MoonRightsModel", "quarters", "[I", true)
  | 12 => ("MoonRightsModel", "oxen", "[I", true)
  | 13 => ("MoonRightsModel", "owners", "[I", true)
  | 14 => ("MoonRightsModel", "furrows", "[I", true)
  | 15 => ("MoonRightsModel", "isCloudy", "[Z", true)
  | 16 => ("MoonRightsModel", "s", "[I", true)
  | 17 => ("MoonRightsModel", "kept", "[I", true)
  | 18 => ("MoonRightsModel", "isKept", "[Z", true)
  | 19 => ("MoonRightsModel", "undos", "[I", true)
  | 20 => ("MoonRightsModel", "undoMany", "I", false)
  | 21 => ("MoonRightsModel", "cutBy", "[I", true)
  | 22 => ("MoonRightsModel", "cutIn", "[I", true)
  | 23 => ("MoonRightsModel", "cutMany", "[I", true)
  | 24 => ("MoonRightsModel", "cutLines", "I", false)
  | _ => ("MoonRightsModel", "fewest", "[I", true)
def tyX7 : Nat → FieldType := fun k => match k with
  | 0 => .int
  | 1 => .long
  | 2 => .array .int
  | 3 => .int
  | 4 => .int
  | 5 => .int
  | 6 => .int
  | 7 => .int
  | 8 => .int
  | 9 => .array .int
  | 10 => .int
  | 11 => .array .int
  | 12 => .array .int
  | 13 => .array .int
  | 14 => .array .int
  | 15 => .array .boolean
  | 16 => .array .int
  | 17 => .array .int
  | 18 => .array .boolean
  | 19 => .array .int
  | 20 => .int
  | 21 => .array .int
  | 22 => .array .int
  | 23 => .array .int
  | 24 => .int
  | _ => .array .int
abbrev wsX70 : List Cond := u_ws RX7 TX7 26
theorem nmX7 : ∀ a, a < 26 → ∀ b, b < 26 → a ≠ b → (TX7 a).2.1 ≠ (TX7 b).2.1 := by decide +kernel
theorem tyX7_ok : ∀ k, k < 26 → parseFieldDescriptor (TX7 k).2.2.1 = some (tyX7 k) := by decide +kernel
abbrev cX7_init : ByteArray := prog_9_method_1_code
def yX7_init : MethodName := ⟨RX7, "<init>", "()V"⟩
abbrev cX7_in : ByteArray := prog_9_method_3_code
def yX7_in : MethodName := ⟨RX7, "in", "(III)Z"⟩
abbrev cX7_type : ByteArray := prog_9_method_4_code
def yX7_type : MethodName := ⟨RX7, "type", "(I)I"⟩
abbrev cX7_clear : ByteArray := prog_9_method_5_code
def yX7_clear : MethodName := ⟨RX7, "clear", "()I"⟩
abbrev cX7_letterAt : ByteArray := prog_9_method_6_code
def yX7_letterAt : MethodName := ⟨RX7, "letterAt", "(I)I"⟩
abbrev cX7_isLetter : ByteArray := prog_9_method_7_code
def yX7_isLetter : MethodName := ⟨RX7, "isLetter", "(I)Z"⟩
abbrev cX7_advances : ByteArray := prog_9_method_8_code
def yX7_advances : MethodName := ⟨RX7, "advances", "()V"⟩
abbrev cX7_isWell : ByteArray := prog_9_method_9_code
def yX7_isWell : MethodName := ⟨RX7, "isWell", "()Z"⟩
abbrev cX7_takes : ByteArray := prog_9_method_10_code
def yX7_takes : MethodName := ⟨RX7, "takes", "(Z)I"⟩
abbrev cX7_number : ByteArray := prog_9_method_11_code
def yX7_number : MethodName := ⟨RX7, "number", "(II)I"⟩
abbrev cX7_begins : ByteArray := prog_9_method_12_code
def yX7_begins : MethodName := ⟨RX7, "begins", "()V"⟩
abbrev cX7_mayBegin : ByteArray := prog_9_method_13_code
def yX7_mayBegin : MethodName := ⟨RX7, "mayBegin", "()Z"⟩
abbrev cX7_readsItem : ByteArray := prog_9_method_14_code
def yX7_readsItem : MethodName := ⟨RX7, "readsItem", "(I)V"⟩
abbrev cX7_parish : ByteArray := prog_9_method_15_code
def yX7_parish : MethodName := ⟨RX7, "parish", "()I"⟩
abbrev cX7_settles : ByteArray := prog_9_method_16_code
def yX7_settles : MethodName := ⟨RX7, "settles", "()V"⟩
abbrev cX7_isFarmer : ByteArray := prog_9_method_17_code
def yX7_isFarmer : MethodName := ⟨RX7, "isFarmer", "(I)Z"⟩
abbrev cX7_isStrip : ByteArray := prog_9_method_18_code
def yX7_isStrip : MethodName := ⟨RX7, "isStrip", "(I)Z"⟩
abbrev cX7_lives : ByteArray := prog_9_method_19_code
def yX7_lives : MethodName := ⟨RX7, "lives", "(I)Z"⟩
abbrev cX7_moon : ByteArray := prog_9_method_20_code
def yX7_moon : MethodName := ⟨RX7, "moon", "(I)I"⟩
abbrev cX7_farmer : ByteArray := prog_9_method_21_code
def yX7_farmer : MethodName := ⟨RX7, "farmer", "(II)I"⟩
abbrev cX7_strip : ByteArray := prog_9_method_22_code
def yX7_strip : MethodName := ⟨RX7, "strip", "(II)I"⟩
abbrev cX7_night : ByteArray := prog_9_method_23_code
def yX7_night : MethodName := ⟨RX7, "night", "(II)I"⟩
abbrev cX7_now : ByteArray := prog_9_method_24_code
def yX7_now : MethodName := ⟨RX7, "now", "(I)I"⟩
abbrev cX7_notes : ByteArray := prog_9_method_25_code
def yX7_notes : MethodName := ⟨RX7, "notes", "()V"⟩
abbrev cX7_ploughs : ByteArray := prog_9_method_26_code
def yX7_ploughs : MethodName := ⟨RX7, "ploughs", "(II)I"⟩
abbrev cX7_passes : ByteArray := prog_9_method_27_code
def yX7_passes : MethodName := ⟨RX7, "passes", "()I"⟩
abbrev cX7_lends : ByteArray := prog_9_method_28_code
def yX7_lends : MethodName := ⟨RX7, "lends", "(III)I"⟩
abbrev cX7_marries : ByteArray := prog_9_method_29_code
def yX7_marries : MethodName := ⟨RX7, "marries", "(II)I"⟩
abbrev cX7_inherits : ByteArray := prog_9_method_30_code
def yX7_inherits : MethodName := ⟨RX7, "inherits", "(II)V"⟩
abbrev cX7_dies : ByteArray := prog_9_method_31_code
def yX7_dies : MethodName := ⟨RX7, "dies", "(I)I"⟩
abbrev cX7_undo : ByteArray := prog_9_method_32_code
def yX7_undo : MethodName := ⟨RX7, "undo", "()I"⟩
abbrev cX7_moonOf : ByteArray := prog_9_method_33_code
def yX7_moonOf : MethodName := ⟨RX7, "moonOf", "(I)I"⟩
abbrev cX7_from : ByteArray := prog_9_method_34_code
def yX7_from : MethodName := ⟨RX7, "from", "(II)I"⟩
abbrev cX7_measures : ByteArray := prog_9_method_35_code
def yX7_measures : MethodName := ⟨RX7, "measures", "(II)I"⟩
abbrev cX7_least : ByteArray := prog_9_method_36_code
def yX7_least : MethodName := ⟨RX7, "least", "(III)I"⟩
abbrev cX7_soonest : ByteArray := prog_9_method_37_code
def yX7_soonest : MethodName := ⟨RX7, "soonest", "(III)I"⟩
abbrev cX7_needOf : ByteArray := prog_9_method_38_code
def yX7_needOf : MethodName := ⟨RX7, "needOf", "(I)I"⟩
abbrev cX7_need : ByteArray := prog_9_method_39_code
def yX7_need : MethodName := ⟨RX7, "need", "(I)I"⟩
abbrev cX7_lackOf : ByteArray := prog_9_method_40_code
def yX7_lackOf : MethodName := ⟨RX7, "lackOf", "(I)I"⟩
abbrev cX7_lacks : ByteArray := prog_9_method_41_code
def yX7_lacks : MethodName := ⟨RX7, "lacks", "(I)I"⟩
abbrev cX7_match : ByteArray := prog_9_method_42_code
def yX7_match : MethodName := ⟨RX7, "match", "(I)I"⟩
abbrev cX7_cuts : ByteArray := prog_9_method_43_code
def yX7_cuts : MethodName := ⟨RX7, "cuts", "(III)I"⟩
abbrev cX7_forget : ByteArray := prog_9_method_44_code
def yX7_forget : MethodName := ⟨RX7, "forget", "()I"⟩
abbrev cX7_lit : ByteArray := prog_9_method_45_code
def yX7_lit : MethodName := ⟨RX7, "lit", "()I"⟩
abbrev cX7_gcd : ByteArray := prog_9_method_46_code
def yX7_gcd : MethodName := ⟨RX7, "gcd", "(II)I"⟩
abbrev cX7_mean : ByteArray := prog_9_method_47_code
def yX7_mean : MethodName := ⟨RX7, "mean", "(III)I"⟩
abbrev cX7_rate : ByteArray := prog_9_method_48_code
def yX7_rate : MethodName := ⟨RX7, "rate", "(II)I"⟩
abbrev cX7_keep : ByteArray := prog_9_method_49_code
def yX7_keep : MethodName := ⟨RX7, "keep", "(I)I"⟩
abbrev cX7_back : ByteArray := prog_9_method_50_code
def yX7_back : MethodName := ⟨RX7, "back", "(I)I"⟩
abbrev cX7_count : ByteArray := prog_9_method_51_code
def yX7_count : MethodName := ⟨RX7, "count", "(I)I"⟩
abbrev cX7_trace : ByteArray := prog_9_method_52_code
def yX7_trace : MethodName := ⟨RX7, "trace", "()J"⟩
def RJ9 : String := "java/lang/Math"
def TJ9 : u_T := fun k => match k with
  | _ => ("", "", "", false)
def tyJ9 : Nat → FieldType := fun k => match k with
  | _ => .int
abbrev wsJ90 : List Cond := u_ws RJ9 TJ9 0
theorem nmJ9 : ∀ a, a < 0 → ∀ b, b < 0 → a ≠ b → (TJ9 a).2.1 ≠ (TJ9 b).2.1 := by decide +kernel
theorem tyJ9_ok : ∀ k, k < 0 → parseFieldDescriptor (TJ9 k).2.2.1 = some (tyJ9 k) := by decide +kernel
abbrev cJ9_max_7cf53 : ByteArray := prog_10_method_65_code
def yJ9_max_7cf53 : MethodName := ⟨RJ9, "max", "(II)I"⟩
abbrev cJ9_min_7cf53 : ByteArray := prog_10_method_69_code
def yJ9_min_7cf53 : MethodName := ⟨RJ9, "min", "(II)I"⟩
def RL : String := "MoonRightsLaw"
abbrev cL_law : ByteArray := code
def yL_law : MethodName := ⟨RL, "law", "([I)Z"⟩
abbrev vwCl : List vw_C := [(RX0, TX0, 5), (RX1, TX1, 4), (RX2, TX2, 3), (RX3, TX3, 11), (RX4, TX4, 6), (RX5, TX5, 7), (RX6, TX6, 13), (RX7, TX7, 26)]
end
section
def TB : List Cond := lw_tbl.filter goodWord
theorem tb_good : ∀ w ∈ TB, (w.onTables && w.keeps) = true ∨ ∃ ty, w = .arrayClass ty := fun w h => good_of_word (List.mem_filter.mp h).2
theorem tb_in {w : Cond} (i : Nat) (h : lw_tbl[i]? = some w) (hg : goodWord w = true) : w ∈ TB := List.mem_filter.mpr ⟨List.mem_of_getElem? h, hg⟩
theorem tb_sub : ∀ w ∈ TB, w ∈ lw_tbl := fun w h => (List.mem_filter.mp h).1
theorem tw_0 : Cond.selects "MoonRights$Reader" yX4_advance yX4_advance ∈ TB := tb_in 0 (by decide +kernel) rfl
theorem tw_1 : Cond.selects "MoonRights$Reader" yX4_scanNumber yX4_scanNumber ∈ TB := tb_in 1 (by decide +kernel) rfl
theorem tw_2 : Cond.selects "MoonRights$Reader" yX4_readItem yX4_readItem ∈ TB := tb_in 2 (by decide +kernel) rfl
theorem tw_3 : Cond.selects "MoonRights$Reader" yX4_readFarmer yX4_readFarmer ∈ TB := tb_in 3 (by decide +kernel) rfl
theorem tw_4 : Cond.selects "MoonRights$Reader" yX4_readNumber yX4_readNumber ∈ TB := tb_in 4 (by decide +kernel) rfl
theorem tw_5 : Cond.selects "MoonRights$Reader" yX4_readItemEnd yX4_readItemEnd ∈ TB := tb_in 5 (by decide +kernel) rfl
theorem tw_6 : Cond.selects "MoonRights$Reader" yX4_readStrip yX4_readStrip ∈ TB := tb_in 6 (by decide +kernel) rfl
theorem tw_7 : Cond.selects "MoonRights$Reader" yX4_readCloud yX4_readCloud ∈ TB := tb_in 7 (by decide +kernel) rfl
theorem tw_8 : Cond.selects "MoonRights$Reader" yX4_readPhase yX4_readPhase ∈ TB := tb_in 8 (by decide +kernel) rfl
theorem tw_9 : Cond.selects "MoonRights$Reader" yX4_readEaster yX4_readEaster ∈ TB := tb_in 9 (by decide +kernel) rfl
theorem tw_10 : Cond.selects "MoonRights" yX6_isFarmer yX6_isFarmer ∈ TB := tb_in 10 (by decide +kernel) rfl
theorem tw_11 : Cond.selects "MoonRights" yX6_isStrip yX6_isStrip ∈ TB := tb_in 11 (by decide +kernel) rfl
theorem tw_12 : Cond.selects "MoonRights" yX6_doneStrips yX6_doneStrips ∈ TB := tb_in 12 (by decide +kernel) rfl
theorem tw_13 : Cond.selects "MoonRights" yX6_quartersOfAll yX6_quartersOfAll ∈ TB := tb_in 13 (by decide +kernel) rfl
theorem tw_14 : Cond.selects "MoonRights" yX6_fullNights yX6_fullNights ∈ TB := tb_in 14 (by decide +kernel) rfl
theorem tw_15 : Cond.selects "MoonRights" yX6_areTwo yX6_areTwo ∈ TB := tb_in 15 (by decide +kernel) rfl
theorem tw_16 : Cond.selects "MoonRights$Standing" yX5_bequeath yX5_bequeath ∈ TB := tb_in 16 (by decide +kernel) rfl
theorem tw_17 : Cond.selects "MoonRights" yX6_leastQuarters yX6_leastQuarters ∈ TB := tb_in 17 (by decide +kernel) rfl
theorem tw_18 : Cond.selects "MoonRights$Almanac" yX0_draw yX0_draw ∈ TB := tb_in 18 (by decide +kernel) rfl
theorem tw_19 : Cond.selects "MoonRights$Almanac" yX0_nightsWith yX0_nightsWith ∈ TB := tb_in 19 (by decide +kernel) rfl
theorem tw_20 : Cond.selects "MoonRights" yX6_needOf yX6_needOf ∈ TB := tb_in 20 (by decide +kernel) rfl
theorem tw_21 : Cond.selects "MoonRights" yX6_weighFreeFarmers yX6_weighFreeFarmers ∈ TB := tb_in 21 (by decide +kernel) rfl
theorem tw_22 : Cond.selects "MoonRights" yX6_asStrip yX6_asStrip ∈ TB := tb_in 22 (by decide +kernel) rfl
theorem tw_23 : Cond.selects "MoonRights" yX6_asClay yX6_asClay ∈ TB := tb_in 23 (by decide +kernel) rfl
theorem tw_24 : Cond.selects "MoonRights" yX6_asSand yX6_asSand ∈ TB := tb_in 24 (by decide +kernel) rfl
theorem tw_25 : Cond.selects "MoonRights" yX6_asMarsh yX6_asMarsh ∈ TB := tb_in 25 (by decide +kernel) rfl
theorem tw_26 : Cond.selects "MoonRights" yX6_asHill yX6_asHill ∈ TB := tb_in 26 (by decide +kernel) rfl
theorem tw_27 : Cond.selects "MoonRights" yX6_asMoor yX6_asMoor ∈ TB := tb_in 27 (by decide +kernel) rfl
theorem tw_28 : Cond.selects "MoonRightsModel" yX7_begins yX7_begins ∈ TB := tb_in 28 (by decide +kernel) rfl
theorem tw_29 : Cond.selects "MoonRightsModel" yX7_settles yX7_settles ∈ TB := tb_in 29 (by decide +kernel) rfl
theorem tw_30 : Cond.selects "MoonRightsModel" yX7_advances yX7_advances ∈ TB := tb_in 30 (by decide +kernel) rfl
theorem tw_31 : Cond.selects "MoonRightsModel" yX7_letterAt yX7_letterAt ∈ TB := tb_in 31 (by decide +kernel) rfl
theorem tw_32 : Cond.selects "MoonRightsModel" yX7_isWell yX7_isWell ∈ TB := tb_in 32 (by decide +kernel) rfl
theorem tw_33 : Cond.selects "MoonRightsModel" yX7_mayBegin yX7_mayBegin ∈ TB := tb_in 33 (by decide +kernel) rfl
theorem tw_34 : Cond.selects "MoonRightsModel" yX7_takes yX7_takes ∈ TB := tb_in 34 (by decide +kernel) rfl
theorem tw_35 : Cond.selects "MoonRightsModel" yX7_readsItem yX7_readsItem ∈ TB := tb_in 35 (by decide +kernel) rfl
theorem tw_36 : Cond.selects "MoonRightsModel" yX7_number yX7_number ∈ TB := tb_in 36 (by decide +kernel) rfl
theorem tw_37 : Cond.selects "MoonRightsModel" yX7_isFarmer yX7_isFarmer ∈ TB := tb_in 37 (by decide +kernel) rfl
theorem tw_38 : Cond.selects "MoonRightsModel" yX7_isStrip yX7_isStrip ∈ TB := tb_in 38 (by decide +kernel) rfl
theorem tw_39 : Cond.selects "MoonRightsModel" yX7_moon yX7_moon ∈ TB := tb_in 39 (by decide +kernel) rfl
theorem tw_40 : Cond.selects "MoonRightsModel" yX7_lives yX7_lives ∈ TB := tb_in 40 (by decide +kernel) rfl
theorem tw_41 : Cond.selects "MoonRightsModel" yX7_notes yX7_notes ∈ TB := tb_in 41 (by decide +kernel) rfl
theorem tw_42 : Cond.selects "MoonRightsModel" yX7_inherits yX7_inherits ∈ TB := tb_in 42 (by decide +kernel) rfl
theorem tw_43 : Cond.selects "MoonRightsModel" yX7_measures yX7_measures ∈ TB := tb_in 43 (by decide +kernel) rfl
theorem tw_44 : Cond.selects "MoonRightsModel" yX7_moonOf yX7_moonOf ∈ TB := tb_in 44 (by decide +kernel) rfl
theorem tw_45 : Cond.selects "MoonRightsModel" yX7_from yX7_from ∈ TB := tb_in 45 (by decide +kernel) rfl
theorem tw_46 : Cond.selects "MoonRightsModel" yX7_needOf yX7_needOf ∈ TB := tb_in 46 (by decide +kernel) rfl
theorem tw_47 : Cond.selects "MoonRightsModel" yX7_lackOf yX7_lackOf ∈ TB := tb_in 47 (by decide +kernel) rfl
theorem tw_48 : Cond.initialized "MoonRightsLaw" ∈ TB := tb_in 48 (by decide +kernel) rfl
theorem tw_49 : Cond.initialized "MoonRights" ∈ TB := tb_in 49 (by decide +kernel) rfl
theorem tw_50 : Cond.initialized "MoonRights$Reader" ∈ TB := tb_in 50 (by decide +kernel) rfl
theorem tw_51 : Cond.initialized "MoonRights$Parish" ∈ TB := tb_in 51 (by decide +kernel) rfl
theorem tw_52 : Cond.initialized "MoonRights$Almanac" ∈ TB := tb_in 52 (by decide +kernel) rfl
theorem tw_53 : Cond.initialized "MoonRights$Standing" ∈ TB := tb_in 53 (by decide +kernel) rfl
theorem tw_54 : Cond.initialized "MoonRights$History" ∈ TB := tb_in 54 (by decide +kernel) rfl
theorem tw_55 : Cond.initialized "MoonRights$Cuts" ∈ TB := tb_in 55 (by decide +kernel) rfl
theorem tw_56 : Cond.initialized "MoonRightsModel" ∈ TB := tb_in 56 (by decide +kernel) rfl
theorem tw_57 : Cond.initialized "java/lang/Math" ∈ TB := tb_in 57 (by decide +kernel) rfl
theorem tw_58 : Cond.classLink "MoonRightsLaw" 7 "MoonRights" ∈ TB := tb_in 58 (by decide +kernel) rfl
theorem tw_59 : Cond.instantiable "MoonRights" 13 ∈ TB := tb_in 59 (by decide +kernel) rfl
theorem tw_60 : Cond.methodLink "MoonRightsLaw" 9 yX6_init ∈ TB := tb_in 60 (by decide +kernel) rfl
theorem tw_61 : Cond.instanceMethod yX6_init ∈ TB := tb_in 61 (by decide +kernel) rfl
theorem tw_62 : Cond.code yX6_init cX6_init 2 none ∈ TB := tb_in 62 (by decide +kernel) rfl
theorem tw_63 : Cond.methodLink "MoonRights" 1 objectInit ∈ TB := tb_in 63 (by decide +kernel) rfl
theorem tw_64 : Cond.instanceMethod objectInit ∈ TB := tb_in 64 (by decide +kernel) rfl
theorem tw_65 : Cond.code objectInit ⟨#[0xb1]⟩ 1 none ∈ TB := tb_in 65 (by decide +kernel) rfl
theorem tw_66 : Cond.classLink "MoonRights" 13 "MoonRights$Reader" ∈ TB := tb_in 66 (by decide +kernel) rfl
theorem tw_67 : Cond.instantiable "MoonRights$Reader" 6 ∈ TB := tb_in 67 (by decide +kernel) rfl
theorem tw_68 : Cond.methodLink "MoonRights" 15 yX4_init ∈ TB := tb_in 68 (by decide +kernel) rfl
theorem tw_69 : Cond.instanceMethod yX4_init ∈ TB := tb_in 69 (by decide +kernel) rfl
theorem tw_70 : Cond.code yX4_init cX4_init 2 none ∈ TB := tb_in 70 (by decide +kernel) rfl
theorem tw_71 : Cond.methodLink "MoonRights$Reader" 3 objectInit ∈ TB := tb_in 71 (by decide +kernel) rfl
theorem tw_72 : Cond.fieldLink "MoonRights$Reader" 9 "MoonRights$Reader" "letters" "[C" ∈ TB := tb_in 72 (by decide +kernel) rfl
theorem tw_73 : Cond.fieldLink "MoonRights$Reader" 15 "MoonRights$Reader" "length" "I" ∈ TB := tb_in 73 (by decide +kernel) rfl
theorem tw_74 : Cond.fieldLink "MoonRights$Reader" 19 "MoonRights$Reader" "at" "I" ∈ TB := tb_in 74 (by decide +kernel) rfl
theorem tw_75 : Cond.fieldLink "MoonRights$Reader" 30 "MoonRights$Reader" "token" "I" ∈ TB := tb_in 75 (by decide +kernel) rfl
theorem tw_76 : Cond.fieldLink "MoonRights$Reader" 37 "MoonRights$Reader" "place" "I" ∈ TB := tb_in 76 (by decide +kernel) rfl
theorem tw_77 : Cond.fieldLink "MoonRights$Reader" 66 "MoonRights$Reader" "value" "I" ∈ TB := tb_in 77 (by decide +kernel) rfl
theorem tw_91 : Cond.arrayClass .char ∈ TB := tb_in 91 (by decide +kernel) rfl
theorem tw_92 : Cond.classLink "MoonRights" 22 "MoonRights$Parish" ∈ TB := tb_in 92 (by decide +kernel) rfl
theorem tw_93 : Cond.instantiable "MoonRights$Parish" 11 ∈ TB := tb_in 93 (by decide +kernel) rfl
theorem twl_94 : Cond.methodLinkNest "MoonRights" 24 yX3_init "MoonRights" ∈ lw_tbl := List.mem_of_getElem? (i := 94) (by decide +kernel)
theorem tw_95 : Cond.instanceMethod yX3_init ∈ TB := tb_in 95 (by decide +kernel) rfl
theorem tw_96 : Cond.code yX3_init cX3_init 1 none ∈ TB := tb_in 96 (by decide +kernel) rfl
theorem tw_97 : Cond.methodLink "MoonRights$Parish" 3 objectInit ∈ TB := tb_in 97 (by decide +kernel) rfl
theorem tw_98 : Cond.fieldLink "MoonRights$Parish" 9 "MoonRights$Parish" "quarters" "[I" ∈ TB := tb_in 98 (by decide +kernel) rfl
theorem tw_99 : Cond.fieldLink "MoonRights$Standing" 39 "MoonRights$Parish" "quarters" "[I" ∈ TB := tb_in 99 (by decide +kernel) rfl
theorem tw_100 : Cond.fieldLink "MoonRights$Reader" 62 "MoonRights$Parish" "quarters" "[I" ∈ TB := tb_in 100 (by decide +kernel) rfl
theorem tw_101 : Cond.fieldLink "MoonRights$Parish" 15 "MoonRights$Parish" "oxen" "[I" ∈ TB := tb_in 101 (by decide +kernel) rfl
theorem tw_102 : Cond.fieldLink "MoonRights$Reader" 69 "MoonRights$Parish" "oxen" "[I" ∈ TB := tb_in 102 (by decide +kernel) rfl
theorem tw_103 : Cond.fieldLink "MoonRights" 99 "MoonRights$Parish" "oxen" "[I" ∈ TB := tb_in 103 (by decide +kernel) rfl
theorem tw_104 : Cond.fieldLink "MoonRights$Parish" 18 "MoonRights$Parish" "owners" "[I" ∈ TB := tb_in 104 (by decide +kernel) rfl
theorem tw_105 : Cond.fieldLink "MoonRights$Standing" 40 "MoonRights$Parish" "owners" "[I" ∈ TB := tb_in 105 (by decide +kernel) rfl
theorem tw_106 : Cond.fieldLink "MoonRights$Reader" 79 "MoonRights$Parish" "owners" "[I" ∈ TB := tb_in 106 (by decide +kernel) rfl
theorem tw_107 : Cond.fieldLink "MoonRights$Parish" 21 "MoonRights$Parish" "furrows" "[I" ∈ TB := tb_in 107 (by decide +kernel) rfl
theorem tw_108 : Cond.fieldLink "MoonRights$Standing" 41 "MoonRights$Parish" "furrows" "[I" ∈ TB := tb_in 108 (by decide +kernel) rfl
theorem tw_109 : Cond.fieldLink "MoonRights$Reader" 82 "MoonRights$Parish" "furrows" "[I" ∈ TB := tb_in 109 (by decide +kernel) rfl
theorem tw_110 : Cond.fieldLink "MoonRights" 120 "MoonRights$Parish" "furrows" "[I" ∈ TB := tb_in 110 (by decide +kernel) rfl
theorem tw_111 : Cond.fieldLink "MoonRights$Parish" 24 "MoonRights$Parish" "clouds" "[Z" ∈ TB := tb_in 111 (by decide +kernel) rfl
theorem tw_112 : Cond.fieldLink "MoonRights$Almanac" 37 "MoonRights$Parish" "clouds" "[Z" ∈ TB := tb_in 112 (by decide +kernel) rfl
theorem tw_113 : Cond.fieldLink "MoonRights$Reader" 85 "MoonRights$Parish" "clouds" "[Z" ∈ TB := tb_in 113 (by decide +kernel) rfl
theorem tw_114 : Cond.fieldLink "MoonRights" 130 "MoonRights$Parish" "clouds" "[Z" ∈ TB := tb_in 114 (by decide +kernel) rfl
theorem tw_115 : Cond.fieldLink "MoonRights$Parish" 32 "MoonRights$Parish" "farmers" "I" ∈ TB := tb_in 115 (by decide +kernel) rfl
theorem tw_116 : Cond.fieldLink "MoonRights$Standing" 28 "MoonRights$Parish" "farmers" "I" ∈ TB := tb_in 116 (by decide +kernel) rfl
theorem tw_117 : Cond.fieldLink "MoonRights$Reader" 55 "MoonRights$Parish" "farmers" "I" ∈ TB := tb_in 117 (by decide +kernel) rfl
theorem tw_118 : Cond.fieldLink "MoonRights" 207 "MoonRights$Parish" "farmers" "I" ∈ TB := tb_in 118 (by decide +kernel) rfl
theorem tw_119 : Cond.fieldLink "MoonRights$Parish" 35 "MoonRights$Parish" "strips" "I" ∈ TB := tb_in 119 (by decide +kernel) rfl
theorem tw_120 : Cond.fieldLink "MoonRights$Reader" 76 "MoonRights$Parish" "strips" "I" ∈ TB := tb_in 120 (by decide +kernel) rfl
theorem tw_121 : Cond.fieldLink "MoonRights" 253 "MoonRights$Parish" "strips" "I" ∈ TB := tb_in 121 (by decide +kernel) rfl
theorem tw_122 : Cond.fieldLink "MoonRights$Parish" 38 "MoonRights$Parish" "phase" "I" ∈ TB := tb_in 122 (by decide +kernel) rfl
theorem tw_123 : Cond.fieldLink "MoonRights$Reader" 93 "MoonRights$Parish" "phase" "I" ∈ TB := tb_in 123 (by decide +kernel) rfl
theorem tw_124 : Cond.fieldLink "MoonRights" 256 "MoonRights$Parish" "phase" "I" ∈ TB := tb_in 124 (by decide +kernel) rfl
theorem tw_125 : Cond.fieldLink "MoonRights$Parish" 28 "MoonRights$Parish" "easter" "I" ∈ TB := tb_in 125 (by decide +kernel) rfl
theorem tw_126 : Cond.fieldLink "MoonRights$Almanac" 26 "MoonRights$Parish" "easter" "I" ∈ TB := tb_in 126 (by decide +kernel) rfl
theorem tw_127 : Cond.fieldLink "MoonRights$Reader" 99 "MoonRights$Parish" "easter" "I" ∈ TB := tb_in 127 (by decide +kernel) rfl
theorem tw_128 : Cond.fieldLink "MoonRights" 222 "MoonRights$Parish" "easter" "I" ∈ TB := tb_in 128 (by decide +kernel) rfl
theorem tw_129 : Cond.fieldLink "MoonRights$Parish" 41 "MoonRights$Parish" "phaseTold" "Z" ∈ TB := tb_in 129 (by decide +kernel) rfl
theorem tw_130 : Cond.fieldLink "MoonRights$Reader" 89 "MoonRights$Parish" "phaseTold" "Z" ∈ TB := tb_in 130 (by decide +kernel) rfl
theorem tw_131 : Cond.fieldLink "MoonRights$Parish" 45 "MoonRights$Parish" "easterTold" "Z" ∈ TB := tb_in 131 (by decide +kernel) rfl
theorem tw_132 : Cond.fieldLink "MoonRights$Reader" 96 "MoonRights$Parish" "easterTold" "Z" ∈ TB := tb_in 132 (by decide +kernel) rfl
theorem tw_156 : Cond.arrayClass .int ∈ TB := tb_in 156 (by decide +kernel) rfl
theorem tw_157 : Cond.arrayClass .boolean ∈ TB := tb_in 157 (by decide +kernel) rfl
theorem tw_158 : Cond.classLink "MoonRights" 32 "MoonRights$Almanac" ∈ TB := tb_in 158 (by decide +kernel) rfl
theorem tw_159 : Cond.instantiable "MoonRights$Almanac" 5 ∈ TB := tb_in 159 (by decide +kernel) rfl
theorem tw_160 : Cond.methodLink "MoonRights" 34 yX0_init ∈ TB := tb_in 160 (by decide +kernel) rfl
theorem tw_161 : Cond.instanceMethod yX0_init ∈ TB := tb_in 161 (by decide +kernel) rfl
theorem tw_162 : Cond.code yX0_init cX0_init 2 none ∈ TB := tb_in 162 (by decide +kernel) rfl
theorem tw_163 : Cond.methodLink "MoonRights$Almanac" 3 objectInit ∈ TB := tb_in 163 (by decide +kernel) rfl
theorem tw_164 : Cond.methodLink "MoonRights$Almanac" 18 yX0_begin ∈ TB := tb_in 164 (by decide +kernel) rfl
theorem tw_165 : Cond.instanceMethod yX0_begin ∈ TB := tb_in 165 (by decide +kernel) rfl
theorem tw_166 : Cond.selects "MoonRights$Almanac" yX0_begin yX0_begin ∈ TB := tb_in 166 (by decide +kernel) rfl
theorem tw_167 : Cond.code yX0_begin cX0_begin 2 none ∈ TB := tb_in 167 (by decide +kernel) rfl
theorem tw_168 : Cond.fieldLink "MoonRights$Almanac" 11 "MoonRights$Almanac" "fewest" "[I" ∈ TB := tb_in 168 (by decide +kernel) rfl
theorem tw_169 : Cond.fieldLink "MoonRights$Almanac" 15 "MoonRights$Almanac" "moons" "[I" ∈ TB := tb_in 169 (by decide +kernel) rfl
theorem tw_170 : Cond.fieldLink "MoonRights$Almanac" 22 "MoonRights$Almanac" "told" "LMoonRights$Parish;" ∈ TB := tb_in 170 (by decide +kernel) rfl
theorem tw_171 : Cond.fieldLink "MoonRights$Almanac" 32 "MoonRights$Almanac" "easter" "I" ∈ TB := tb_in 171 (by decide +kernel) rfl
theorem tw_172 : Cond.fieldLink "MoonRights$Almanac" 33 "MoonRights$Almanac" "drawn" "Z" ∈ TB := tb_in 172 (by decide +kernel) rfl
theorem tw_184 : Cond.classLink "MoonRights" 41 "MoonRights$Standing" ∈ TB := tb_in 184 (by decide +kernel) rfl
theorem tw_185 : Cond.instantiable "MoonRights$Standing" 7 ∈ TB := tb_in 185 (by decide +kernel) rfl
theorem twl_186 : Cond.methodLinkNest "MoonRights" 43 yX5_init "MoonRights" ∈ lw_tbl := List.mem_of_getElem? (i := 186) (by decide +kernel)
theorem tw_187 : Cond.instanceMethod yX5_init ∈ TB := tb_in 187 (by decide +kernel) rfl
theorem tw_188 : Cond.code yX5_init cX5_init 1 none ∈ TB := tb_in 188 (by decide +kernel) rfl
theorem tw_189 : Cond.methodLink "MoonRights$Standing" 3 objectInit ∈ TB := tb_in 189 (by decide +kernel) rfl
theorem tw_190 : Cond.fieldLink "MoonRights$Standing" 9 "MoonRights$Standing" "quarters" "[I" ∈ TB := tb_in 190 (by decide +kernel) rfl
theorem tw_191 : Cond.fieldLink "MoonRights" 96 "MoonRights$Standing" "quarters" "[I" ∈ TB := tb_in 191 (by decide +kernel) rfl
theorem tw_192 : Cond.fieldLink "MoonRights$Standing" 15 "MoonRights$Standing" "mates" "[I" ∈ TB := tb_in 192 (by decide +kernel) rfl
theorem tw_193 : Cond.fieldLink "MoonRights" 105 "MoonRights$Standing" "mates" "[I" ∈ TB := tb_in 193 (by decide +kernel) rfl
theorem tw_194 : Cond.fieldLink "MoonRights$Standing" 18 "MoonRights$Standing" "owners" "[I" ∈ TB := tb_in 194 (by decide +kernel) rfl
theorem tw_195 : Cond.fieldLink "MoonRights" 114 "MoonRights$Standing" "owners" "[I" ∈ TB := tb_in 195 (by decide +kernel) rfl
theorem tw_196 : Cond.fieldLink "MoonRights$Standing" 21 "MoonRights$Standing" "left" "[I" ∈ TB := tb_in 196 (by decide +kernel) rfl
theorem tw_197 : Cond.fieldLink "MoonRights" 117 "MoonRights$Standing" "left" "[I" ∈ TB := tb_in 197 (by decide +kernel) rfl
theorem tw_198 : Cond.fieldLink "MoonRights$Standing" 24 "MoonRights$Standing" "tonight" "I" ∈ TB := tb_in 198 (by decide +kernel) rfl
theorem tw_199 : Cond.fieldLink "MoonRights" 133 "MoonRights$Standing" "tonight" "I" ∈ TB := tb_in 199 (by decide +kernel) rfl
theorem tw_200 : Cond.fieldLink "MoonRights$Standing" 33 "MoonRights$Standing" "living" "I" ∈ TB := tb_in 200 (by decide +kernel) rfl
theorem tw_201 : Cond.fieldLink "MoonRights" 140 "MoonRights$Standing" "living" "I" ∈ TB := tb_in 201 (by decide +kernel) rfl
theorem tw_202 : Cond.fieldLink "MoonRights$Standing" 36 "MoonRights$Standing" "ploughed" "I" ∈ TB := tb_in 202 (by decide +kernel) rfl
theorem tw_203 : Cond.fieldLink "MoonRights" 164 "MoonRights$Standing" "ploughed" "I" ∈ TB := tb_in 203 (by decide +kernel) rfl
theorem tw_219 : Cond.methodLink "MoonRights" 48 yX5_begin ∈ TB := tb_in 219 (by decide +kernel) rfl
theorem tw_220 : Cond.instanceMethod yX5_begin ∈ TB := tb_in 220 (by decide +kernel) rfl
theorem tw_221 : Cond.selects "MoonRights$Standing" yX5_begin yX5_begin ∈ TB := tb_in 221 (by decide +kernel) rfl
theorem tw_222 : Cond.code yX5_begin cX5_begin 3 none ∈ TB := tb_in 222 (by decide +kernel) rfl
theorem tw_223 : Cond.classLink "MoonRights" 51 "MoonRights$History" ∈ TB := tb_in 223 (by decide +kernel) rfl
theorem tw_224 : Cond.instantiable "MoonRights$History" 3 ∈ TB := tb_in 224 (by decide +kernel) rfl
theorem tw_225 : Cond.methodLink "MoonRights" 53 yX2_init ∈ TB := tb_in 225 (by decide +kernel) rfl
theorem tw_226 : Cond.instanceMethod yX2_init ∈ TB := tb_in 226 (by decide +kernel) rfl
theorem tw_227 : Cond.code yX2_init cX2_init 2 none ∈ TB := tb_in 227 (by decide +kernel) rfl
theorem tw_228 : Cond.methodLink "MoonRights$History" 3 objectInit ∈ TB := tb_in 228 (by decide +kernel) rfl
theorem tw_229 : Cond.classLink "MoonRights$History" 9 "MoonRights$Standing" ∈ TB := tb_in 229 (by decide +kernel) rfl
theorem twl_230 : Cond.arrayOver (.object "MoonRights$Standing") ∈ lw_tbl := List.mem_of_getElem? (i := 230) (by decide +kernel)
theorem twl_231 : Cond.methodLinkNest "MoonRights$History" 17 yX5_init "MoonRights" ∈ lw_tbl := List.mem_of_getElem? (i := 231) (by decide +kernel)
theorem tw_232 : Cond.fieldLink "MoonRights$History" 11 "MoonRights$History" "past" "[LMoonRights$Standing;" ∈ TB := tb_in 232 (by decide +kernel) rfl
theorem tw_233 : Cond.fieldLink "MoonRights$History" 18 "MoonRights$History" "next" "I" ∈ TB := tb_in 233 (by decide +kernel) rfl
theorem tw_234 : Cond.fieldLink "MoonRights$History" 26 "MoonRights$History" "known" "I" ∈ TB := tb_in 234 (by decide +kernel) rfl
theorem tw_235 : Cond.fieldLink "MoonRights" 149 "MoonRights$History" "known" "I" ∈ TB := tb_in 235 (by decide +kernel) rfl
theorem tw_243 : Cond.classLink "MoonRights" 66 "MoonRights$Cuts" ∈ TB := tb_in 243 (by decide +kernel) rfl
theorem tw_244 : Cond.instantiable "MoonRights$Cuts" 4 ∈ TB := tb_in 244 (by decide +kernel) rfl
theorem twl_245 : Cond.methodLinkNest "MoonRights" 68 yX1_init "MoonRights" ∈ lw_tbl := List.mem_of_getElem? (i := 245) (by decide +kernel)
theorem tw_246 : Cond.instanceMethod yX1_init ∈ TB := tb_in 246 (by decide +kernel) rfl
theorem tw_247 : Cond.code yX1_init cX1_init 1 none ∈ TB := tb_in 247 (by decide +kernel) rfl
theorem tw_248 : Cond.methodLink "MoonRights$Cuts" 3 objectInit ∈ TB := tb_in 248 (by decide +kernel) rfl
theorem tw_249 : Cond.fieldLink "MoonRights$Cuts" 9 "MoonRights$Cuts" "farmers" "[I" ∈ TB := tb_in 249 (by decide +kernel) rfl
theorem tw_250 : Cond.fieldLink "MoonRights" 216 "MoonRights$Cuts" "farmers" "[I" ∈ TB := tb_in 250 (by decide +kernel) rfl
theorem tw_251 : Cond.fieldLink "MoonRights$Cuts" 15 "MoonRights$Cuts" "nights" "[I" ∈ TB := tb_in 251 (by decide +kernel) rfl
theorem tw_252 : Cond.fieldLink "MoonRights" 218 "MoonRights$Cuts" "nights" "[I" ∈ TB := tb_in 252 (by decide +kernel) rfl
theorem tw_253 : Cond.fieldLink "MoonRights$Cuts" 18 "MoonRights$Cuts" "furrows" "[I" ∈ TB := tb_in 253 (by decide +kernel) rfl
theorem tw_254 : Cond.fieldLink "MoonRights" 221 "MoonRights$Cuts" "furrows" "[I" ∈ TB := tb_in 254 (by decide +kernel) rfl
theorem tw_255 : Cond.fieldLink "MoonRights$Cuts" 21 "MoonRights$Cuts" "size" "I" ∈ TB := tb_in 255 (by decide +kernel) rfl
theorem tw_256 : Cond.fieldLink "MoonRights" 89 "MoonRights$Cuts" "size" "I" ∈ TB := tb_in 256 (by decide +kernel) rfl
theorem tw_266 : Cond.fieldLink "MoonRights" 9 "MoonRights" "letters" "[C" ∈ TB := tb_in 266 (by decide +kernel) rfl
theorem tw_267 : Cond.fieldLink "MoonRights" 77 "MoonRights" "length" "I" ∈ TB := tb_in 267 (by decide +kernel) rfl
theorem tw_268 : Cond.fieldLink "MoonRights" 18 "MoonRights" "reader" "LMoonRights$Reader;" ∈ TB := tb_in 268 (by decide +kernel) rfl
theorem tw_269 : Cond.fieldLink "MoonRights" 25 "MoonRights" "told" "LMoonRights$Parish;" ∈ TB := tb_in 269 (by decide +kernel) rfl
theorem tw_270 : Cond.fieldLink "MoonRights" 29 "MoonRights" "spare" "LMoonRights$Parish;" ∈ TB := tb_in 270 (by decide +kernel) rfl
theorem tw_271 : Cond.fieldLink "MoonRights" 37 "MoonRights" "almanac" "LMoonRights$Almanac;" ∈ TB := tb_in 271 (by decide +kernel) rfl
theorem tw_272 : Cond.fieldLink "MoonRights" 44 "MoonRights" "standing" "LMoonRights$Standing;" ∈ TB := tb_in 272 (by decide +kernel) rfl
theorem tw_273 : Cond.fieldLink "MoonRights" 54 "MoonRights" "history" "LMoonRights$History;" ∈ TB := tb_in 273 (by decide +kernel) rfl
theorem tw_274 : Cond.fieldLink "MoonRights" 58 "MoonRights" "images" "[LMoonRights$Standing;" ∈ TB := tb_in 274 (by decide +kernel) rfl
theorem tw_275 : Cond.fieldLink "MoonRights" 62 "MoonRights" "kept" "[Z" ∈ TB := tb_in 275 (by decide +kernel) rfl
theorem tw_276 : Cond.fieldLink "MoonRights" 69 "MoonRights" "cutList" "LMoonRights$Cuts;" ∈ TB := tb_in 276 (by decide +kernel) rfl
theorem tw_277 : Cond.fieldLink "MoonRights" 73 "MoonRights" "balance" "[I" ∈ TB := tb_in 277 (by decide +kernel) rfl
theorem tw_278 : Cond.fieldLink "MoonRights" 259 "MoonRights" "traced" "J" ∈ TB := tb_in 278 (by decide +kernel) rfl
theorem tw_306 : Cond.methodLink "MoonRightsLaw" 13 yX6_type ∈ TB := tb_in 306 (by decide +kernel) rfl
theorem tw_307 : Cond.instanceMethod yX6_type ∈ TB := tb_in 307 (by decide +kernel) rfl
theorem tw_308 : Cond.selects "MoonRights" yX6_type yX6_type ∈ TB := tb_in 308 (by decide +kernel) rfl
theorem tw_309 : Cond.code yX6_type cX6_type 2 (some .int) ∈ TB := tb_in 309 (by decide +kernel) rfl
theorem tw_310 : Cond.methodLink "MoonRightsLaw" 18 yX6_clear ∈ TB := tb_in 310 (by decide +kernel) rfl
theorem tw_311 : Cond.instanceMethod yX6_clear ∈ TB := tb_in 311 (by decide +kernel) rfl
theorem tw_312 : Cond.selects "MoonRights" yX6_clear yX6_clear ∈ TB := tb_in 312 (by decide +kernel) rfl
theorem tw_313 : Cond.code yX6_clear cX6_clear 2 (some .int) ∈ TB := tb_in 313 (by decide +kernel) rfl
theorem tw_314 : Cond.methodLink "MoonRightsLaw" 23 yX6_parish ∈ TB := tb_in 314 (by decide +kernel) rfl
theorem tw_315 : Cond.instanceMethod yX6_parish ∈ TB := tb_in 315 (by decide +kernel) rfl
theorem tw_316 : Cond.selects "MoonRights" yX6_parish yX6_parish ∈ TB := tb_in 316 (by decide +kernel) rfl
theorem tw_317 : Cond.code yX6_parish cX6_parish 4 (some .int) ∈ TB := tb_in 317 (by decide +kernel) rfl
theorem tw_318 : Cond.methodLink "MoonRights" 81 yX4_read ∈ TB := tb_in 318 (by decide +kernel) rfl
theorem tw_319 : Cond.instanceMethod yX4_read ∈ TB := tb_in 319 (by decide +kernel) rfl
theorem tw_320 : Cond.selects "MoonRights$Reader" yX4_read yX4_read ∈ TB := tb_in 320 (by decide +kernel) rfl
theorem tw_321 : Cond.code yX4_read cX4_read 4 (some .int) ∈ TB := tb_in 321 (by decide +kernel) rfl
theorem tw_322 : Cond.methodLink "MoonRights$Reader" 22 yX3_empty ∈ TB := tb_in 322 (by decide +kernel) rfl
theorem tw_323 : Cond.instanceMethod yX3_empty ∈ TB := tb_in 323 (by decide +kernel) rfl
theorem tw_324 : Cond.selects "MoonRights$Parish" yX3_empty yX3_empty ∈ TB := tb_in 324 (by decide +kernel) rfl
theorem tw_325 : Cond.code yX3_empty cX3_empty 2 none ∈ TB := tb_in 325 (by decide +kernel) rfl
theorem tw_326 : Cond.methodLink "MoonRights$Reader" 27 yX4_advance ∈ TB := tb_in 326 (by decide +kernel) rfl
theorem tw_328 : Cond.instanceMethod yX4_advance ∈ TB := tb_in 328 (by decide +kernel) rfl
theorem tw_329 : Cond.code yX4_advance cX4_advance 1 none ∈ TB := tb_in 329 (by decide +kernel) rfl
theorem tw_330 : Cond.methodLink "MoonRights$Reader" 102 yX4_scanNumber ∈ TB := tb_in 330 (by decide +kernel) rfl
theorem tw_332 : Cond.instanceMethod yX4_scanNumber ∈ TB := tb_in 332 (by decide +kernel) rfl
theorem tw_333 : Cond.code yX4_scanNumber cX4_scanNumber 2 none ∈ TB := tb_in 333 (by decide +kernel) rfl
theorem tw_334 : Cond.methodLink "MoonRights$Reader" 33 yX4_readItem ∈ TB := tb_in 334 (by decide +kernel) rfl
theorem tw_336 : Cond.instanceMethod yX4_readItem ∈ TB := tb_in 336 (by decide +kernel) rfl
theorem tw_337 : Cond.code yX4_readItem cX4_readItem 2 (some .boolean) ∈ TB := tb_in 337 (by decide +kernel) rfl
theorem tw_338 : Cond.methodLink "MoonRights$Reader" 40 yX4_readFarmer ∈ TB := tb_in 338 (by decide +kernel) rfl
theorem tw_340 : Cond.instanceMethod yX4_readFarmer ∈ TB := tb_in 340 (by decide +kernel) rfl
theorem tw_341 : Cond.code yX4_readFarmer cX4_readFarmer 3 (some .boolean) ∈ TB := tb_in 341 (by decide +kernel) rfl
theorem tw_342 : Cond.methodLink "MoonRights$Reader" 58 yX4_readNumber ∈ TB := tb_in 342 (by decide +kernel) rfl
theorem tw_344 : Cond.instanceMethod yX4_readNumber ∈ TB := tb_in 344 (by decide +kernel) rfl
theorem tw_345 : Cond.code yX4_readNumber cX4_readNumber 3 (some .boolean) ∈ TB := tb_in 345 (by decide +kernel) rfl
theorem tw_346 : Cond.methodLink "MoonRights$Reader" 72 yX4_readItemEnd ∈ TB := tb_in 346 (by decide +kernel) rfl
theorem tw_348 : Cond.instanceMethod yX4_readItemEnd ∈ TB := tb_in 348 (by decide +kernel) rfl
theorem tw_349 : Cond.code yX4_readItemEnd cX4_readItemEnd 1 (some .boolean) ∈ TB := tb_in 349 (by decide +kernel) rfl
theorem tw_350 : Cond.methodLink "MoonRights$Reader" 43 yX4_readStrip ∈ TB := tb_in 350 (by decide +kernel) rfl
theorem tw_352 : Cond.instanceMethod yX4_readStrip ∈ TB := tb_in 352 (by decide +kernel) rfl
theorem tw_353 : Cond.code yX4_readStrip cX4_readStrip 3 (some .boolean) ∈ TB := tb_in 353 (by decide +kernel) rfl
theorem tw_354 : Cond.methodLink "MoonRights$Reader" 46 yX4_readCloud ∈ TB := tb_in 354 (by decide +kernel) rfl
theorem tw_356 : Cond.instanceMethod yX4_readCloud ∈ TB := tb_in 356 (by decide +kernel) rfl
theorem tw_357 : Cond.code yX4_readCloud cX4_readCloud 2 (some .boolean) ∈ TB := tb_in 357 (by decide +kernel) rfl
theorem tw_358 : Cond.methodLink "MoonRights$Reader" 49 yX4_readPhase ∈ TB := tb_in 358 (by decide +kernel) rfl
theorem tw_360 : Cond.instanceMethod yX4_readPhase ∈ TB := tb_in 360 (by decide +kernel) rfl
theorem tw_361 : Cond.code yX4_readPhase cX4_readPhase 2 (some .boolean) ∈ TB := tb_in 361 (by decide +kernel) rfl
theorem tw_362 : Cond.methodLink "MoonRights$Reader" 52 yX4_readEaster ∈ TB := tb_in 362 (by decide +kernel) rfl
theorem tw_364 : Cond.instanceMethod yX4_readEaster ∈ TB := tb_in 364 (by decide +kernel) rfl
theorem tw_365 : Cond.code yX4_readEaster cX4_readEaster 2 (some .boolean) ∈ TB := tb_in 365 (by decide +kernel) rfl
theorem tw_366 : Cond.methodLink "MoonRights" 85 yX0_begin ∈ TB := tb_in 366 (by decide +kernel) rfl
theorem tw_367 : Cond.methodLink "MoonRights" 86 yX2_forgetAll ∈ TB := tb_in 367 (by decide +kernel) rfl
theorem tw_368 : Cond.instanceMethod yX2_forgetAll ∈ TB := tb_in 368 (by decide +kernel) rfl
theorem tw_369 : Cond.selects "MoonRights$History" yX2_forgetAll yX2_forgetAll ∈ TB := tb_in 369 (by decide +kernel) rfl
theorem tw_370 : Cond.code yX2_forgetAll cX2_forgetAll 1 none ∈ TB := tb_in 370 (by decide +kernel) rfl
theorem tw_371 : Cond.methodLink "MoonRightsLaw" 27 yX6_farmer ∈ TB := tb_in 371 (by decide +kernel) rfl
theorem tw_372 : Cond.instanceMethod yX6_farmer ∈ TB := tb_in 372 (by decide +kernel) rfl
theorem tw_373 : Cond.selects "MoonRights" yX6_farmer yX6_farmer ∈ TB := tb_in 373 (by decide +kernel) rfl
theorem tw_374 : Cond.code yX6_farmer cX6_farmer 3 (some .int) ∈ TB := tb_in 374 (by decide +kernel) rfl
theorem tw_375 : Cond.methodLink "MoonRights" 92 yX6_isFarmer ∈ TB := tb_in 375 (by decide +kernel) rfl
theorem tw_377 : Cond.instanceMethod yX6_isFarmer ∈ TB := tb_in 377 (by decide +kernel) rfl
theorem tw_378 : Cond.code yX6_isFarmer cX6_isFarmer 2 (some .boolean) ∈ TB := tb_in 378 (by decide +kernel) rfl
theorem tw_379 : Cond.methodLink "MoonRights" 102 yX5_alive ∈ TB := tb_in 379 (by decide +kernel) rfl
theorem tw_380 : Cond.instanceMethod yX5_alive ∈ TB := tb_in 380 (by decide +kernel) rfl
theorem tw_381 : Cond.selects "MoonRights$Standing" yX5_alive yX5_alive ∈ TB := tb_in 381 (by decide +kernel) rfl
theorem tw_382 : Cond.code yX5_alive cX5_alive 2 (some .boolean) ∈ TB := tb_in 382 (by decide +kernel) rfl
theorem tw_383 : Cond.methodLink "MoonRights" 108 yX5_hasPloughed ∈ TB := tb_in 383 (by decide +kernel) rfl
theorem tw_384 : Cond.instanceMethod yX5_hasPloughed ∈ TB := tb_in 384 (by decide +kernel) rfl
theorem tw_385 : Cond.selects "MoonRights$Standing" yX5_hasPloughed yX5_hasPloughed ∈ TB := tb_in 385 (by decide +kernel) rfl
theorem tw_386 : Cond.code yX5_hasPloughed cX5_hasPloughed 2 (some .boolean) ∈ TB := tb_in 386 (by decide +kernel) rfl
theorem tw_387 : Cond.methodLink "MoonRightsLaw" 32 yX6_strip ∈ TB := tb_in 387 (by decide +kernel) rfl
theorem tw_388 : Cond.instanceMethod yX6_strip ∈ TB := tb_in 388 (by decide +kernel) rfl
theorem tw_389 : Cond.selects "MoonRights" yX6_strip yX6_strip ∈ TB := tb_in 389 (by decide +kernel) rfl
theorem tw_390 : Cond.code yX6_strip cX6_strip 3 (some .int) ∈ TB := tb_in 390 (by decide +kernel) rfl
theorem tw_391 : Cond.methodLink "MoonRights" 111 yX6_isStrip ∈ TB := tb_in 391 (by decide +kernel) rfl
theorem tw_393 : Cond.instanceMethod yX6_isStrip ∈ TB := tb_in 393 (by decide +kernel) rfl
theorem tw_394 : Cond.code yX6_isStrip cX6_isStrip 2 (some .boolean) ∈ TB := tb_in 394 (by decide +kernel) rfl
theorem tw_395 : Cond.methodLink "MoonRightsLaw" 36 yX6_night ∈ TB := tb_in 395 (by decide +kernel) rfl
theorem tw_396 : Cond.instanceMethod yX6_night ∈ TB := tb_in 396 (by decide +kernel) rfl
theorem tw_397 : Cond.selects "MoonRights" yX6_night yX6_night ∈ TB := tb_in 397 (by decide +kernel) rfl
theorem tw_398 : Cond.code yX6_night cX6_night 3 (some .int) ∈ TB := tb_in 398 (by decide +kernel) rfl
theorem tw_399 : Cond.methodLink "MoonRights" 123 yX6_isNight ∈ TB := tb_in 399 (by decide +kernel) rfl
theorem tw_400 : Cond.static yX6_isNight ∈ TB := tb_in 400 (by decide +kernel) rfl
theorem tw_401 : Cond.code yX6_isNight cX6_isNight 1 (some .boolean) ∈ TB := tb_in 401 (by decide +kernel) rfl
theorem tw_402 : Cond.methodLink "MoonRights" 126 yX3_moon ∈ TB := tb_in 402 (by decide +kernel) rfl
theorem tw_403 : Cond.instanceMethod yX3_moon ∈ TB := tb_in 403 (by decide +kernel) rfl
theorem tw_404 : Cond.selects "MoonRights$Parish" yX3_moon yX3_moon ∈ TB := tb_in 404 (by decide +kernel) rfl
theorem tw_405 : Cond.code yX3_moon cX3_moon 3 (some .int) ∈ TB := tb_in 405 (by decide +kernel) rfl
theorem tw_406 : Cond.methodLink "MoonRightsLaw" 40 yX6_now ∈ TB := tb_in 406 (by decide +kernel) rfl
theorem tw_407 : Cond.instanceMethod yX6_now ∈ TB := tb_in 407 (by decide +kernel) rfl
theorem tw_408 : Cond.selects "MoonRights" yX6_now yX6_now ∈ TB := tb_in 408 (by decide +kernel) rfl
theorem tw_409 : Cond.code yX6_now cX6_now 2 (some .int) ∈ TB := tb_in 409 (by decide +kernel) rfl
theorem tw_410 : Cond.methodLink "MoonRights" 136 yX6_doneStrips ∈ TB := tb_in 410 (by decide +kernel) rfl
theorem tw_412 : Cond.instanceMethod yX6_doneStrips ∈ TB := tb_in 412 (by decide +kernel) rfl
theorem tw_413 : Cond.code yX6_doneStrips cX6_doneStrips 3 (some .int) ∈ TB := tb_in 413 (by decide +kernel) rfl
theorem tw_414 : Cond.methodLink "MoonRights" 143 yX6_quartersOfAll ∈ TB := tb_in 414 (by decide +kernel) rfl
theorem tw_416 : Cond.instanceMethod yX6_quartersOfAll ∈ TB := tb_in 416 (by decide +kernel) rfl
theorem tw_417 : Cond.code yX6_quartersOfAll cX6_quartersOfAll 3 (some .int) ∈ TB := tb_in 417 (by decide +kernel) rfl
theorem tw_418 : Cond.methodLink "MoonRights" 146 yX6_fullNights ∈ TB := tb_in 418 (by decide +kernel) rfl
theorem tw_420 : Cond.instanceMethod yX6_fullNights ∈ TB := tb_in 420 (by decide +kernel) rfl
theorem tw_421 : Cond.code yX6_fullNights cX6_fullNights 3 (some .int) ∈ TB := tb_in 421 (by decide +kernel) rfl
theorem tw_422 : Cond.methodLink "MoonRightsLaw" 44 yX6_ploughs ∈ TB := tb_in 422 (by decide +kernel) rfl
theorem tw_423 : Cond.instanceMethod yX6_ploughs ∈ TB := tb_in 423 (by decide +kernel) rfl
theorem tw_424 : Cond.selects "MoonRights" yX6_ploughs yX6_ploughs ∈ TB := tb_in 424 (by decide +kernel) rfl
theorem tw_425 : Cond.code yX6_ploughs cX6_ploughs 5 (some .int) ∈ TB := tb_in 425 (by decide +kernel) rfl
theorem tw_426 : Cond.methodLink "MoonRights" 152 yX5_mayPlough ∈ TB := tb_in 426 (by decide +kernel) rfl
theorem tw_427 : Cond.instanceMethod yX5_mayPlough ∈ TB := tb_in 427 (by decide +kernel) rfl
theorem tw_428 : Cond.selects "MoonRights$Standing" yX5_mayPlough yX5_mayPlough ∈ TB := tb_in 428 (by decide +kernel) rfl
theorem tw_429 : Cond.code yX5_mayPlough cX5_mayPlough 5 (some .boolean) ∈ TB := tb_in 429 (by decide +kernel) rfl
theorem tw_430 : Cond.methodLink "MoonRights$Standing" 44 yX5_alive ∈ TB := tb_in 430 (by decide +kernel) rfl
theorem tw_431 : Cond.methodLink "MoonRights$Standing" 48 yX5_hasPloughed ∈ TB := tb_in 431 (by decide +kernel) rfl
theorem tw_432 : Cond.methodLink "MoonRights" 156 yX2_push ∈ TB := tb_in 432 (by decide +kernel) rfl
theorem tw_433 : Cond.instanceMethod yX2_push ∈ TB := tb_in 433 (by decide +kernel) rfl
theorem tw_434 : Cond.selects "MoonRights$History" yX2_push yX2_push ∈ TB := tb_in 434 (by decide +kernel) rfl
theorem tw_435 : Cond.code yX2_push cX2_push 2 none ∈ TB := tb_in 435 (by decide +kernel) rfl
theorem tw_436 : Cond.methodLink "MoonRights$History" 22 yX5_copy ∈ TB := tb_in 436 (by decide +kernel) rfl
theorem tw_437 : Cond.instanceMethod yX5_copy ∈ TB := tb_in 437 (by decide +kernel) rfl
theorem tw_438 : Cond.selects "MoonRights$Standing" yX5_copy yX5_copy ∈ TB := tb_in 438 (by decide +kernel) rfl
theorem tw_439 : Cond.code yX5_copy cX5_copy 3 none ∈ TB := tb_in 439 (by decide +kernel) rfl
theorem tw_440 : Cond.methodLink "MoonRights$History" 29 Lib.Math.min.name ∈ TB := tb_in 440 (by decide +kernel) rfl
theorem tw_441 : Cond.static Lib.Math.min.name ∈ TB := tb_in 441 (by decide +kernel) rfl
theorem tw_442 : Cond.code Lib.Math.min.name Lib.Math.min.code 2 (some .int) ∈ TB := tb_in 442 (by decide +kernel) rfl
theorem tw_443 : Cond.methodLink "MoonRights" 160 yX5_plough ∈ TB := tb_in 443 (by decide +kernel) rfl
theorem tw_444 : Cond.instanceMethod yX5_plough ∈ TB := tb_in 444 (by decide +kernel) rfl
theorem tw_445 : Cond.selects "MoonRights$Standing" yX5_plough yX5_plough ∈ TB := tb_in 445 (by decide +kernel) rfl
theorem tw_446 : Cond.code yX5_plough cX5_plough 5 none ∈ TB := tb_in 446 (by decide +kernel) rfl
theorem tw_447 : Cond.methodLink "MoonRights$Standing" 51 Lib.Math.max.name ∈ TB := tb_in 447 (by decide +kernel) rfl
theorem tw_448 : Cond.static Lib.Math.max.name ∈ TB := tb_in 448 (by decide +kernel) rfl
theorem tw_449 : Cond.code Lib.Math.max.name Lib.Math.max.code 2 (some .int) ∈ TB := tb_in 449 (by decide +kernel) rfl
theorem tw_450 : Cond.methodLink "MoonRightsLaw" 48 yX6_passes ∈ TB := tb_in 450 (by decide +kernel) rfl
theorem tw_451 : Cond.instanceMethod yX6_passes ∈ TB := tb_in 451 (by decide +kernel) rfl
theorem tw_452 : Cond.selects "MoonRights" yX6_passes yX6_passes ∈ TB := tb_in 452 (by decide +kernel) rfl
theorem tw_453 : Cond.code yX6_passes cX6_passes 1 (some .int) ∈ TB := tb_in 453 (by decide +kernel) rfl
theorem tw_454 : Cond.methodLink "MoonRightsLaw" 52 yX6_lends ∈ TB := tb_in 454 (by decide +kernel) rfl
theorem tw_455 : Cond.instanceMethod yX6_lends ∈ TB := tb_in 455 (by decide +kernel) rfl
theorem tw_456 : Cond.selects "MoonRights" yX6_lends yX6_lends ∈ TB := tb_in 456 (by decide +kernel) rfl
theorem tw_457 : Cond.code yX6_lends cX6_lends 5 (some .int) ∈ TB := tb_in 457 (by decide +kernel) rfl
theorem tw_458 : Cond.methodLink "MoonRights" 167 yX6_areTwo ∈ TB := tb_in 458 (by decide +kernel) rfl
theorem tw_460 : Cond.instanceMethod yX6_areTwo ∈ TB := tb_in 460 (by decide +kernel) rfl
theorem tw_461 : Cond.code yX6_areTwo cX6_areTwo 3 (some .boolean) ∈ TB := tb_in 461 (by decide +kernel) rfl
theorem tw_462 : Cond.methodLink "MoonRightsLaw" 57 yX6_marries ∈ TB := tb_in 462 (by decide +kernel) rfl
theorem tw_463 : Cond.instanceMethod yX6_marries ∈ TB := tb_in 463 (by decide +kernel) rfl
theorem tw_464 : Cond.selects "MoonRights" yX6_marries yX6_marries ∈ TB := tb_in 464 (by decide +kernel) rfl
theorem tw_465 : Cond.code yX6_marries cX6_marries 3 (some .int) ∈ TB := tb_in 465 (by decide +kernel) rfl
theorem tw_466 : Cond.methodLink "MoonRights" 171 yX5_free ∈ TB := tb_in 466 (by decide +kernel) rfl
theorem tw_467 : Cond.instanceMethod yX5_free ∈ TB := tb_in 467 (by decide +kernel) rfl
theorem tw_468 : Cond.selects "MoonRights$Standing" yX5_free yX5_free ∈ TB := tb_in 468 (by decide +kernel) rfl
theorem tw_469 : Cond.code yX5_free cX5_free 2 (some .boolean) ∈ TB := tb_in 469 (by decide +kernel) rfl
theorem tw_470 : Cond.methodLink "MoonRightsLaw" 61 yX6_dies ∈ TB := tb_in 470 (by decide +kernel) rfl
theorem tw_471 : Cond.instanceMethod yX6_dies ∈ TB := tb_in 471 (by decide +kernel) rfl
theorem tw_472 : Cond.selects "MoonRights" yX6_dies yX6_dies ∈ TB := tb_in 472 (by decide +kernel) rfl
theorem tw_473 : Cond.code yX6_dies cX6_dies 4 (some .int) ∈ TB := tb_in 473 (by decide +kernel) rfl
theorem tw_474 : Cond.methodLink "MoonRights" 174 yX5_lowestOther ∈ TB := tb_in 474 (by decide +kernel) rfl
theorem tw_475 : Cond.instanceMethod yX5_lowestOther ∈ TB := tb_in 475 (by decide +kernel) rfl
theorem tw_476 : Cond.selects "MoonRights$Standing" yX5_lowestOther yX5_lowestOther ∈ TB := tb_in 476 (by decide +kernel) rfl
theorem tw_477 : Cond.code yX5_lowestOther cX5_lowestOther 3 (some .int) ∈ TB := tb_in 477 (by decide +kernel) rfl
theorem tw_478 : Cond.methodLink "MoonRights" 177 yX5_bury ∈ TB := tb_in 478 (by decide +kernel) rfl
theorem tw_479 : Cond.instanceMethod yX5_bury ∈ TB := tb_in 479 (by decide +kernel) rfl
theorem tw_480 : Cond.selects "MoonRights$Standing" yX5_bury yX5_bury ∈ TB := tb_in 480 (by decide +kernel) rfl
theorem tw_481 : Cond.code yX5_bury cX5_bury 6 none ∈ TB := tb_in 481 (by decide +kernel) rfl
theorem tw_482 : Cond.methodLink "MoonRights$Standing" 57 yX5_bequeath ∈ TB := tb_in 482 (by decide +kernel) rfl
theorem tw_484 : Cond.instanceMethod yX5_bequeath ∈ TB := tb_in 484 (by decide +kernel) rfl
theorem tw_485 : Cond.code yX5_bequeath cX5_bequeath 3 none ∈ TB := tb_in 485 (by decide +kernel) rfl
theorem tw_486 : Cond.methodLink "MoonRights$Standing" 61 Lib.Math.min.name ∈ TB := tb_in 486 (by decide +kernel) rfl
theorem tw_487 : Cond.methodLink "MoonRightsLaw" 65 yX6_undo ∈ TB := tb_in 487 (by decide +kernel) rfl
theorem tw_488 : Cond.instanceMethod yX6_undo ∈ TB := tb_in 488 (by decide +kernel) rfl
theorem tw_489 : Cond.selects "MoonRights" yX6_undo yX6_undo ∈ TB := tb_in 489 (by decide +kernel) rfl
theorem tw_490 : Cond.code yX6_undo cX6_undo 1 (some .int) ∈ TB := tb_in 490 (by decide +kernel) rfl
theorem tw_491 : Cond.methodLink "MoonRights" 181 yX2_pop ∈ TB := tb_in 491 (by decide +kernel) rfl
theorem tw_492 : Cond.instanceMethod yX2_pop ∈ TB := tb_in 492 (by decide +kernel) rfl
theorem tw_493 : Cond.selects "MoonRights$History" yX2_pop yX2_pop ∈ TB := tb_in 493 (by decide +kernel) rfl
theorem tw_494 : Cond.code yX2_pop cX2_pop 2 (some .boolean) ∈ TB := tb_in 494 (by decide +kernel) rfl
theorem tw_495 : Cond.methodLink "MoonRightsLaw" 69 yX6_least ∈ TB := tb_in 495 (by decide +kernel) rfl
theorem tw_496 : Cond.instanceMethod yX6_least ∈ TB := tb_in 496 (by decide +kernel) rfl
theorem tw_497 : Cond.selects "MoonRights" yX6_least yX6_least ∈ TB := tb_in 497 (by decide +kernel) rfl
theorem tw_498 : Cond.code yX6_least cX6_least 5 (some .int) ∈ TB := tb_in 498 (by decide +kernel) rfl
theorem tw_499 : Cond.methodLink "MoonRights" 185 yX6_leastQuarters ∈ TB := tb_in 499 (by decide +kernel) rfl
theorem tw_501 : Cond.instanceMethod yX6_leastQuarters ∈ TB := tb_in 501 (by decide +kernel) rfl
theorem tw_502 : Cond.code yX6_leastQuarters cX6_leastQuarters 3 (some .int) ∈ TB := tb_in 502 (by decide +kernel) rfl
theorem tw_503 : Cond.methodLink "MoonRights" 263 yX0_quartersFor ∈ TB := tb_in 503 (by decide +kernel) rfl
theorem tw_504 : Cond.instanceMethod yX0_quartersFor ∈ TB := tb_in 504 (by decide +kernel) rfl
theorem tw_505 : Cond.selects "MoonRights$Almanac" yX0_quartersFor yX0_quartersFor ∈ TB := tb_in 505 (by decide +kernel) rfl
theorem tw_506 : Cond.code yX0_quartersFor cX0_quartersFor 5 (some .int) ∈ TB := tb_in 506 (by decide +kernel) rfl
theorem tw_507 : Cond.methodLink "MoonRights$Almanac" 54 yX0_draw ∈ TB := tb_in 507 (by decide +kernel) rfl
theorem tw_509 : Cond.instanceMethod yX0_draw ∈ TB := tb_in 509 (by decide +kernel) rfl
theorem tw_510 : Cond.code yX0_draw cX0_draw 6 none ∈ TB := tb_in 510 (by decide +kernel) rfl
theorem tw_511 : Cond.methodLink "MoonRights$Almanac" 41 yX3_moon ∈ TB := tb_in 511 (by decide +kernel) rfl
theorem tw_512 : Cond.methodLink "MoonRights$Almanac" 45 yX0_nightsWith ∈ TB := tb_in 512 (by decide +kernel) rfl
theorem tw_514 : Cond.instanceMethod yX0_nightsWith ∈ TB := tb_in 514 (by decide +kernel) rfl
theorem tw_515 : Cond.code yX0_nightsWith cX0_nightsWith 3 (some .int) ∈ TB := tb_in 515 (by decide +kernel) rfl
theorem tw_516 : Cond.methodLink "MoonRights$Almanac" 49 Lib.Math.min.name ∈ TB := tb_in 516 (by decide +kernel) rfl
theorem tw_517 : Cond.methodLink "MoonRights$Almanac" 57 yX0_nightsFor ∈ TB := tb_in 517 (by decide +kernel) rfl
theorem tw_518 : Cond.instanceMethod yX0_nightsFor ∈ TB := tb_in 518 (by decide +kernel) rfl
theorem tw_519 : Cond.selects "MoonRights$Almanac" yX0_nightsFor yX0_nightsFor ∈ TB := tb_in 519 (by decide +kernel) rfl
theorem tw_520 : Cond.code yX0_nightsFor cX0_nightsFor 3 (some .int) ∈ TB := tb_in 520 (by decide +kernel) rfl
theorem tw_521 : Cond.methodLink "MoonRights" 189 yX0_nightsFor ∈ TB := tb_in 521 (by decide +kernel) rfl
theorem tw_522 : Cond.methodLink "MoonRights" 192 yX0_nightAt ∈ TB := tb_in 522 (by decide +kernel) rfl
theorem tw_523 : Cond.instanceMethod yX0_nightAt ∈ TB := tb_in 523 (by decide +kernel) rfl
theorem tw_524 : Cond.selects "MoonRights$Almanac" yX0_nightAt yX0_nightAt ∈ TB := tb_in 524 (by decide +kernel) rfl
theorem tw_525 : Cond.code yX0_nightAt cX0_nightAt 7 (some .int) ∈ TB := tb_in 525 (by decide +kernel) rfl
theorem tw_526 : Cond.methodLink "MoonRightsLaw" 73 yX6_soonest ∈ TB := tb_in 526 (by decide +kernel) rfl
theorem tw_527 : Cond.instanceMethod yX6_soonest ∈ TB := tb_in 527 (by decide +kernel) rfl
theorem tw_528 : Cond.selects "MoonRights" yX6_soonest yX6_soonest ∈ TB := tb_in 528 (by decide +kernel) rfl
theorem tw_529 : Cond.code yX6_soonest cX6_soonest 10 (some .int) ∈ TB := tb_in 529 (by decide +kernel) rfl
theorem tw_530 : Cond.methodLink "MoonRightsLaw" 77 yX6_need ∈ TB := tb_in 530 (by decide +kernel) rfl
theorem tw_531 : Cond.instanceMethod yX6_need ∈ TB := tb_in 531 (by decide +kernel) rfl
theorem tw_532 : Cond.selects "MoonRights" yX6_need yX6_need ∈ TB := tb_in 532 (by decide +kernel) rfl
theorem tw_533 : Cond.code yX6_need cX6_need 2 (some .int) ∈ TB := tb_in 533 (by decide +kernel) rfl
theorem tw_534 : Cond.methodLink "MoonRights" 196 yX6_needOf ∈ TB := tb_in 534 (by decide +kernel) rfl
theorem tw_536 : Cond.instanceMethod yX6_needOf ∈ TB := tb_in 536 (by decide +kernel) rfl
theorem tw_537 : Cond.code yX6_needOf cX6_needOf 5 (some .int) ∈ TB := tb_in 537 (by decide +kernel) rfl
theorem tw_538 : Cond.methodLink "MoonRightsLaw" 81 yX6_lacks ∈ TB := tb_in 538 (by decide +kernel) rfl
theorem tw_539 : Cond.instanceMethod yX6_lacks ∈ TB := tb_in 539 (by decide +kernel) rfl
theorem tw_540 : Cond.selects "MoonRights" yX6_lacks yX6_lacks ∈ TB := tb_in 540 (by decide +kernel) rfl
theorem tw_541 : Cond.code yX6_lacks cX6_lacks 3 (some .int) ∈ TB := tb_in 541 (by decide +kernel) rfl
theorem tw_542 : Cond.methodLink "MoonRights" 199 Lib.Math.max.name ∈ TB := tb_in 542 (by decide +kernel) rfl
theorem tw_543 : Cond.methodLink "MoonRightsLaw" 85 yX6_match ∈ TB := tb_in 543 (by decide +kernel) rfl
theorem tw_544 : Cond.instanceMethod yX6_match ∈ TB := tb_in 544 (by decide +kernel) rfl
theorem tw_545 : Cond.selects "MoonRights" yX6_match yX6_match ∈ TB := tb_in 545 (by decide +kernel) rfl
theorem tw_546 : Cond.code yX6_match cX6_match 7 (some .int) ∈ TB := tb_in 546 (by decide +kernel) rfl
theorem tw_547 : Cond.methodLink "MoonRights" 204 yX6_weighFreeFarmers ∈ TB := tb_in 547 (by decide +kernel) rfl
theorem tw_549 : Cond.instanceMethod yX6_weighFreeFarmers ∈ TB := tb_in 549 (by decide +kernel) rfl
theorem tw_550 : Cond.code yX6_weighFreeFarmers cX6_weighFreeFarmers 3 none ∈ TB := tb_in 550 (by decide +kernel) rfl
theorem tw_551 : Cond.methodLink "MoonRights" 210 Lib.Math.min.name ∈ TB := tb_in 551 (by decide +kernel) rfl
theorem tw_552 : Cond.methodLink "MoonRightsLaw" 89 yX6_cuts ∈ TB := tb_in 552 (by decide +kernel) rfl
theorem tw_553 : Cond.instanceMethod yX6_cuts ∈ TB := tb_in 553 (by decide +kernel) rfl
theorem tw_554 : Cond.selects "MoonRights" yX6_cuts yX6_cuts ∈ TB := tb_in 554 (by decide +kernel) rfl
theorem tw_555 : Cond.code yX6_cuts cX6_cuts 4 (some .int) ∈ TB := tb_in 555 (by decide +kernel) rfl
theorem tw_556 : Cond.methodLink "MoonRights" 213 yX1_add ∈ TB := tb_in 556 (by decide +kernel) rfl
theorem tw_557 : Cond.instanceMethod yX1_add ∈ TB := tb_in 557 (by decide +kernel) rfl
theorem tw_558 : Cond.selects "MoonRights$Cuts" yX1_add yX1_add ∈ TB := tb_in 558 (by decide +kernel) rfl
theorem tw_559 : Cond.code yX1_add cX1_add 4 (some .boolean) ∈ TB := tb_in 559 (by decide +kernel) rfl
theorem tw_560 : Cond.methodLink "MoonRightsLaw" 93 yX6_forget ∈ TB := tb_in 560 (by decide +kernel) rfl
theorem tw_561 : Cond.instanceMethod yX6_forget ∈ TB := tb_in 561 (by decide +kernel) rfl
theorem tw_562 : Cond.selects "MoonRights" yX6_forget yX6_forget ∈ TB := tb_in 562 (by decide +kernel) rfl
theorem tw_563 : Cond.code yX6_forget cX6_forget 2 (some .int) ∈ TB := tb_in 563 (by decide +kernel) rfl
theorem tw_564 : Cond.methodLink "MoonRightsLaw" 97 yX6_lit ∈ TB := tb_in 564 (by decide +kernel) rfl
theorem tw_565 : Cond.instanceMethod yX6_lit ∈ TB := tb_in 565 (by decide +kernel) rfl
theorem tw_566 : Cond.selects "MoonRights" yX6_lit yX6_lit ∈ TB := tb_in 566 (by decide +kernel) rfl
theorem tw_567 : Cond.code yX6_lit cX6_lit 6 (some .int) ∈ TB := tb_in 567 (by decide +kernel) rfl
theorem tw_568 : Cond.methodLink "MoonRightsLaw" 101 yX6_mean ∈ TB := tb_in 568 (by decide +kernel) rfl
theorem tw_569 : Cond.instanceMethod yX6_mean ∈ TB := tb_in 569 (by decide +kernel) rfl
theorem tw_570 : Cond.selects "MoonRights" yX6_mean yX6_mean ∈ TB := tb_in 570 (by decide +kernel) rfl
theorem tw_571 : Cond.code yX6_mean cX6_mean 6 (some .int) ∈ TB := tb_in 571 (by decide +kernel) rfl
theorem tw_572 : Cond.methodLink "MoonRights" 225 yX6_sharedWithTen ∈ TB := tb_in 572 (by decide +kernel) rfl
theorem tw_573 : Cond.static yX6_sharedWithTen ∈ TB := tb_in 573 (by decide +kernel) rfl
theorem tw_574 : Cond.code yX6_sharedWithTen cX6_sharedWithTen 1 (some .int) ∈ TB := tb_in 574 (by decide +kernel) rfl
theorem tw_575 : Cond.methodLink "MoonRightsLaw" 105 yX6_rate ∈ TB := tb_in 575 (by decide +kernel) rfl
theorem tw_576 : Cond.instanceMethod yX6_rate ∈ TB := tb_in 576 (by decide +kernel) rfl
theorem tw_577 : Cond.selects "MoonRights" yX6_rate yX6_rate ∈ TB := tb_in 577 (by decide +kernel) rfl
theorem tw_578 : Cond.code yX6_rate cX6_rate 3 (some .int) ∈ TB := tb_in 578 (by decide +kernel) rfl
theorem tw_579 : Cond.constant "MoonRights" 228 (-1000000 : Int32) ∈ TB := tb_in 579 (by decide +kernel) rfl
theorem tw_580 : Cond.methodLink "MoonRights" 229 yX6_asStrip ∈ TB := tb_in 580 (by decide +kernel) rfl
theorem tw_582 : Cond.instanceMethod yX6_asStrip ∈ TB := tb_in 582 (by decide +kernel) rfl
theorem tw_583 : Cond.code yX6_asStrip cX6_asStrip 2 (some .int) ∈ TB := tb_in 583 (by decide +kernel) rfl
theorem tw_584 : Cond.methodLink "MoonRights" 232 yX6_asClay ∈ TB := tb_in 584 (by decide +kernel) rfl
theorem tw_586 : Cond.instanceMethod yX6_asClay ∈ TB := tb_in 586 (by decide +kernel) rfl
theorem tw_587 : Cond.code yX6_asClay cX6_asClay 2 (some .int) ∈ TB := tb_in 587 (by decide +kernel) rfl
theorem tw_588 : Cond.constantLong "MoonRights" 266 (10 : Int64) ∈ TB := tb_in 588 (by decide +kernel) rfl
theorem tw_589 : Cond.methodLink "MoonRights" 235 yX6_asSand ∈ TB := tb_in 589 (by decide +kernel) rfl
theorem tw_591 : Cond.instanceMethod yX6_asSand ∈ TB := tb_in 591 (by decide +kernel) rfl
theorem tw_592 : Cond.code yX6_asSand cX6_asSand 2 (some .int) ∈ TB := tb_in 592 (by decide +kernel) rfl
theorem tw_593 : Cond.constantLong "MoonRights" 268 (100 : Int64) ∈ TB := tb_in 593 (by decide +kernel) rfl
theorem tw_594 : Cond.methodLink "MoonRights" 238 yX6_asMarsh ∈ TB := tb_in 594 (by decide +kernel) rfl
theorem tw_596 : Cond.instanceMethod yX6_asMarsh ∈ TB := tb_in 596 (by decide +kernel) rfl
theorem tw_597 : Cond.code yX6_asMarsh cX6_asMarsh 2 (some .int) ∈ TB := tb_in 597 (by decide +kernel) rfl
theorem tw_598 : Cond.constantLong "MoonRights" 270 (1000 : Int64) ∈ TB := tb_in 598 (by decide +kernel) rfl
theorem tw_599 : Cond.methodLink "MoonRights" 241 yX6_asHill ∈ TB := tb_in 599 (by decide +kernel) rfl
theorem tw_601 : Cond.instanceMethod yX6_asHill ∈ TB := tb_in 601 (by decide +kernel) rfl
theorem tw_602 : Cond.code yX6_asHill cX6_asHill 2 (some .int) ∈ TB := tb_in 602 (by decide +kernel) rfl
theorem tw_603 : Cond.constantLong "MoonRights" 272 (10000 : Int64) ∈ TB := tb_in 603 (by decide +kernel) rfl
theorem tw_604 : Cond.methodLink "MoonRights" 244 yX6_asMoor ∈ TB := tb_in 604 (by decide +kernel) rfl
theorem tw_606 : Cond.instanceMethod yX6_asMoor ∈ TB := tb_in 606 (by decide +kernel) rfl
theorem tw_607 : Cond.code yX6_asMoor cX6_asMoor 2 (some .int) ∈ TB := tb_in 607 (by decide +kernel) rfl
theorem tw_608 : Cond.constantLong "MoonRights" 274 (100000 : Int64) ∈ TB := tb_in 608 (by decide +kernel) rfl
theorem tw_609 : Cond.methodLink "MoonRightsLaw" 109 yX6_keep ∈ TB := tb_in 609 (by decide +kernel) rfl
theorem tw_610 : Cond.instanceMethod yX6_keep ∈ TB := tb_in 610 (by decide +kernel) rfl
theorem tw_611 : Cond.selects "MoonRights" yX6_keep yX6_keep ∈ TB := tb_in 611 (by decide +kernel) rfl
theorem tw_612 : Cond.code yX6_keep cX6_keep 2 (some .int) ∈ TB := tb_in 612 (by decide +kernel) rfl
theorem tw_613 : Cond.methodLink "MoonRights" 247 yX6_isImage ∈ TB := tb_in 613 (by decide +kernel) rfl
theorem tw_614 : Cond.static yX6_isImage ∈ TB := tb_in 614 (by decide +kernel) rfl
theorem tw_615 : Cond.code yX6_isImage cX6_isImage 1 (some .boolean) ∈ TB := tb_in 615 (by decide +kernel) rfl
theorem tw_616 : Cond.methodLink "MoonRights" 250 yX5_copy ∈ TB := tb_in 616 (by decide +kernel) rfl
theorem tw_617 : Cond.methodLink "MoonRightsLaw" 113 yX6_back ∈ TB := tb_in 617 (by decide +kernel) rfl
theorem tw_618 : Cond.instanceMethod yX6_back ∈ TB := tb_in 618 (by decide +kernel) rfl
theorem tw_619 : Cond.selects "MoonRights" yX6_back yX6_back ∈ TB := tb_in 619 (by decide +kernel) rfl
theorem tw_620 : Cond.code yX6_back cX6_back 2 (some .int) ∈ TB := tb_in 620 (by decide +kernel) rfl
theorem tw_621 : Cond.methodLink "MoonRightsLaw" 117 yX6_count ∈ TB := tb_in 621 (by decide +kernel) rfl
theorem tw_622 : Cond.instanceMethod yX6_count ∈ TB := tb_in 622 (by decide +kernel) rfl
theorem tw_623 : Cond.selects "MoonRights" yX6_count yX6_count ∈ TB := tb_in 623 (by decide +kernel) rfl
theorem tw_624 : Cond.code yX6_count cX6_count 2 (some .int) ∈ TB := tb_in 624 (by decide +kernel) rfl
theorem tw_625 : Cond.methodLink "MoonRightsLaw" 121 yX6_trace ∈ TB := tb_in 625 (by decide +kernel) rfl
theorem tw_626 : Cond.instanceMethod yX6_trace ∈ TB := tb_in 626 (by decide +kernel) rfl
theorem tw_627 : Cond.selects "MoonRights" yX6_trace yX6_trace ∈ TB := tb_in 627 (by decide +kernel) rfl
theorem tw_628 : Cond.code yX6_trace cX6_trace 1 (some .long) ∈ TB := tb_in 628 (by decide +kernel) rfl
theorem tw_629 : Cond.classLink "MoonRightsLaw" 10 "MoonRightsModel" ∈ TB := tb_in 629 (by decide +kernel) rfl
theorem tw_630 : Cond.instantiable "MoonRightsModel" 26 ∈ TB := tb_in 630 (by decide +kernel) rfl
theorem tw_631 : Cond.methodLink "MoonRightsLaw" 12 yX7_init ∈ TB := tb_in 631 (by decide +kernel) rfl
theorem tw_632 : Cond.instanceMethod yX7_init ∈ TB := tb_in 632 (by decide +kernel) rfl
theorem tw_633 : Cond.code yX7_init cX7_init 1 none ∈ TB := tb_in 633 (by decide +kernel) rfl
theorem tw_634 : Cond.methodLink "MoonRightsModel" 1 objectInit ∈ TB := tb_in 634 (by decide +kernel) rfl
theorem tw_635 : Cond.methodLink "MoonRightsModel" 56 yX7_begins ∈ TB := tb_in 635 (by decide +kernel) rfl
theorem tw_637 : Cond.instanceMethod yX7_begins ∈ TB := tb_in 637 (by decide +kernel) rfl
theorem tw_638 : Cond.code yX7_begins cX7_begins 2 none ∈ TB := tb_in 638 (by decide +kernel) rfl
theorem tw_639 : Cond.methodLink "MoonRightsModel" 59 yX7_settles ∈ TB := tb_in 639 (by decide +kernel) rfl
theorem tw_641 : Cond.instanceMethod yX7_settles ∈ TB := tb_in 641 (by decide +kernel) rfl
theorem tw_642 : Cond.code yX7_settles cX7_settles 2 none ∈ TB := tb_in 642 (by decide +kernel) rfl
theorem tw_643 : Cond.fieldLink "MoonRightsModel" 62 "MoonRightsModel" "thrown" "I" ∈ TB := tb_in 643 (by decide +kernel) rfl
theorem tw_644 : Cond.fieldLink "MoonRightsModel" 166 "MoonRightsModel" "trace" "J" ∈ TB := tb_in 644 (by decide +kernel) rfl
theorem tw_645 : Cond.fieldLink "MoonRightsModel" 7 "MoonRightsModel" "text" "[I" ∈ TB := tb_in 645 (by decide +kernel) rfl
theorem tw_646 : Cond.fieldLink "MoonRightsModel" 70 "MoonRightsModel" "typed" "I" ∈ TB := tb_in 646 (by decide +kernel) rfl
theorem tw_647 : Cond.fieldLink "MoonRightsModel" 73 "MoonRightsModel" "next" "I" ∈ TB := tb_in 647 (by decide +kernel) rfl
theorem tw_648 : Cond.fieldLink "MoonRightsModel" 83 "MoonRightsModel" "token" "I" ∈ TB := tb_in 648 (by decide +kernel) rfl
theorem tw_649 : Cond.fieldLink "MoonRightsModel" 80 "MoonRightsModel" "place" "I" ∈ TB := tb_in 649 (by decide +kernel) rfl
theorem tw_650 : Cond.fieldLink "MoonRightsModel" 86 "MoonRightsModel" "value" "I" ∈ TB := tb_in 650 (by decide +kernel) rfl
theorem tw_651 : Cond.fieldLink "MoonRightsModel" 93 "MoonRightsModel" "fault" "I" ∈ TB := tb_in 651 (by decide +kernel) rfl
theorem tw_652 : Cond.fieldLink "MoonRightsModel" 13 "MoonRightsModel" "many" "[I" ∈ TB := tb_in 652 (by decide +kernel) rfl
theorem tw_653 : Cond.fieldLink "MoonRightsModel" 107 "MoonRightsModel" "told" "I" ∈ TB := tb_in 653 (by decide +kernel) rfl
theorem tw_654 : Cond.fieldLink "MoonRightsModel" 16 "MoonRightsModel" "quarters" "[I" ∈ TB := tb_in 654 (by decide +kernel) rfl
theorem tw_655 : Cond.fieldLink "MoonRightsModel" 19 "MoonRightsModel" "oxen" "[I" ∈ TB := tb_in 655 (by decide +kernel) rfl
theorem tw_656 : Cond.fieldLink "MoonRightsModel" 22 "MoonRightsModel" "owners" "[I" ∈ TB := tb_in 656 (by decide +kernel) rfl
theorem tw_657 : Cond.fieldLink "MoonRightsModel" 25 "MoonRightsModel" "furrows" "[I" ∈ TB := tb_in 657 (by decide +kernel) rfl
theorem tw_658 : Cond.fieldLink "MoonRightsModel" 28 "MoonRightsModel" "isCloudy" "[Z" ∈ TB := tb_in 658 (by decide +kernel) rfl
theorem tw_659 : Cond.fieldLink "MoonRightsModel" 32 "MoonRightsModel" "s" "[I" ∈ TB := tb_in 659 (by decide +kernel) rfl
theorem tw_660 : Cond.fieldLink "MoonRightsModel" 35 "MoonRightsModel" "kept" "[I" ∈ TB := tb_in 660 (by decide +kernel) rfl
theorem tw_661 : Cond.fieldLink "MoonRightsModel" 38 "MoonRightsModel" "isKept" "[Z" ∈ TB := tb_in 661 (by decide +kernel) rfl
theorem tw_662 : Cond.fieldLink "MoonRightsModel" 41 "MoonRightsModel" "undos" "[I" ∈ TB := tb_in 662 (by decide +kernel) rfl
theorem tw_663 : Cond.fieldLink "MoonRightsModel" 124 "MoonRightsModel" "undoMany" "I" ∈ TB := tb_in 663 (by decide +kernel) rfl
theorem tw_664 : Cond.fieldLink "MoonRightsModel" 44 "MoonRightsModel" "cutBy" "[I" ∈ TB := tb_in 664 (by decide +kernel) rfl
theorem tw_665 : Cond.fieldLink "MoonRightsModel" 47 "MoonRightsModel" "cutIn" "[I" ∈ TB := tb_in 665 (by decide +kernel) rfl
theorem tw_666 : Cond.fieldLink "MoonRightsModel" 50 "MoonRightsModel" "cutMany" "[I" ∈ TB := tb_in 666 (by decide +kernel) rfl
theorem tw_667 : Cond.fieldLink "MoonRightsModel" 121 "MoonRightsModel" "cutLines" "I" ∈ TB := tb_in 667 (by decide +kernel) rfl
theorem tw_668 : Cond.fieldLink "MoonRightsModel" 53 "MoonRightsModel" "fewest" "[I" ∈ TB := tb_in 668 (by decide +kernel) rfl
theorem tw_722 : Cond.methodLink "MoonRightsLaw" 17 yX7_type ∈ TB := tb_in 722 (by decide +kernel) rfl
theorem tw_723 : Cond.instanceMethod yX7_type ∈ TB := tb_in 723 (by decide +kernel) rfl
theorem tw_724 : Cond.selects "MoonRightsModel" yX7_type yX7_type ∈ TB := tb_in 724 (by decide +kernel) rfl
theorem tw_725 : Cond.code yX7_type cX7_type 2 (some .int) ∈ TB := tb_in 725 (by decide +kernel) rfl
theorem tw_726 : Cond.methodLink "MoonRightsModel" 66 yX7_in ∈ TB := tb_in 726 (by decide +kernel) rfl
theorem tw_727 : Cond.static yX7_in ∈ TB := tb_in 727 (by decide +kernel) rfl
theorem tw_728 : Cond.code yX7_in cX7_in 3 (some .boolean) ∈ TB := tb_in 728 (by decide +kernel) rfl
theorem tw_729 : Cond.methodLink "MoonRightsLaw" 22 yX7_clear ∈ TB := tb_in 729 (by decide +kernel) rfl
theorem tw_730 : Cond.instanceMethod yX7_clear ∈ TB := tb_in 730 (by decide +kernel) rfl
theorem tw_731 : Cond.selects "MoonRightsModel" yX7_clear yX7_clear ∈ TB := tb_in 731 (by decide +kernel) rfl
theorem tw_732 : Cond.code yX7_clear cX7_clear 2 (some .int) ∈ TB := tb_in 732 (by decide +kernel) rfl
theorem tw_733 : Cond.methodLink "MoonRightsLaw" 26 yX7_parish ∈ TB := tb_in 733 (by decide +kernel) rfl
theorem tw_734 : Cond.instanceMethod yX7_parish ∈ TB := tb_in 734 (by decide +kernel) rfl
theorem tw_735 : Cond.selects "MoonRightsModel" yX7_parish yX7_parish ∈ TB := tb_in 735 (by decide +kernel) rfl
theorem tw_736 : Cond.code yX7_parish cX7_parish 3 (some .int) ∈ TB := tb_in 736 (by decide +kernel) rfl
theorem tw_737 : Cond.methodLink "MoonRightsModel" 100 yX7_advances ∈ TB := tb_in 737 (by decide +kernel) rfl
theorem tw_739 : Cond.instanceMethod yX7_advances ∈ TB := tb_in 739 (by decide +kernel) rfl
theorem tw_740 : Cond.code yX7_advances cX7_advances 2 none ∈ TB := tb_in 740 (by decide +kernel) rfl
theorem tw_741 : Cond.methodLink "MoonRightsModel" 76 yX7_letterAt ∈ TB := tb_in 741 (by decide +kernel) rfl
theorem tw_743 : Cond.instanceMethod yX7_letterAt ∈ TB := tb_in 743 (by decide +kernel) rfl
theorem tw_744 : Cond.code yX7_letterAt cX7_letterAt 2 (some .int) ∈ TB := tb_in 744 (by decide +kernel) rfl
theorem tw_745 : Cond.methodLink "MoonRightsModel" 89 yX7_isLetter ∈ TB := tb_in 745 (by decide +kernel) rfl
theorem tw_746 : Cond.static yX7_isLetter ∈ TB := tb_in 746 (by decide +kernel) rfl
theorem tw_747 : Cond.code yX7_isLetter cX7_isLetter 1 (some .boolean) ∈ TB := tb_in 747 (by decide +kernel) rfl
theorem tw_748 : Cond.methodLink "MoonRightsModel" 96 yX7_isWell ∈ TB := tb_in 748 (by decide +kernel) rfl
theorem tw_750 : Cond.instanceMethod yX7_isWell ∈ TB := tb_in 750 (by decide +kernel) rfl
theorem tw_751 : Cond.code yX7_isWell cX7_isWell 1 (some .boolean) ∈ TB := tb_in 751 (by decide +kernel) rfl
theorem tw_752 : Cond.methodLink "MoonRightsModel" 114 yX7_mayBegin ∈ TB := tb_in 752 (by decide +kernel) rfl
theorem tw_754 : Cond.instanceMethod yX7_mayBegin ∈ TB := tb_in 754 (by decide +kernel) rfl
theorem tw_755 : Cond.code yX7_mayBegin cX7_mayBegin 1 (some .boolean) ∈ TB := tb_in 755 (by decide +kernel) rfl
theorem tw_756 : Cond.methodLink "MoonRightsModel" 103 yX7_takes ∈ TB := tb_in 756 (by decide +kernel) rfl
theorem tw_758 : Cond.instanceMethod yX7_takes ∈ TB := tb_in 758 (by decide +kernel) rfl
theorem tw_759 : Cond.code yX7_takes cX7_takes 3 (some .int) ∈ TB := tb_in 759 (by decide +kernel) rfl
theorem tw_760 : Cond.methodLink "MoonRightsModel" 117 yX7_readsItem ∈ TB := tb_in 760 (by decide +kernel) rfl
theorem tw_762 : Cond.instanceMethod yX7_readsItem ∈ TB := tb_in 762 (by decide +kernel) rfl
theorem tw_763 : Cond.code yX7_readsItem cX7_readsItem 3 none ∈ TB := tb_in 763 (by decide +kernel) rfl
theorem tw_764 : Cond.methodLink "MoonRightsModel" 110 yX7_number ∈ TB := tb_in 764 (by decide +kernel) rfl
theorem tw_766 : Cond.instanceMethod yX7_number ∈ TB := tb_in 766 (by decide +kernel) rfl
theorem tw_767 : Cond.code yX7_number cX7_number 3 (some .int) ∈ TB := tb_in 767 (by decide +kernel) rfl
theorem tw_768 : Cond.methodLink "MoonRightsLaw" 31 yX7_farmer ∈ TB := tb_in 768 (by decide +kernel) rfl
theorem tw_769 : Cond.instanceMethod yX7_farmer ∈ TB := tb_in 769 (by decide +kernel) rfl
theorem tw_770 : Cond.selects "MoonRightsModel" yX7_farmer yX7_farmer ∈ TB := tb_in 770 (by decide +kernel) rfl
theorem tw_771 : Cond.code yX7_farmer cX7_farmer 3 (some .int) ∈ TB := tb_in 771 (by decide +kernel) rfl
theorem tw_772 : Cond.methodLink "MoonRightsModel" 127 yX7_isFarmer ∈ TB := tb_in 772 (by decide +kernel) rfl
theorem tw_774 : Cond.instanceMethod yX7_isFarmer ∈ TB := tb_in 774 (by decide +kernel) rfl
theorem tw_775 : Cond.code yX7_isFarmer cX7_isFarmer 2 (some .boolean) ∈ TB := tb_in 775 (by decide +kernel) rfl
theorem tw_776 : Cond.methodLink "MoonRightsLaw" 35 yX7_strip ∈ TB := tb_in 776 (by decide +kernel) rfl
theorem tw_777 : Cond.instanceMethod yX7_strip ∈ TB := tb_in 777 (by decide +kernel) rfl
theorem tw_778 : Cond.selects "MoonRightsModel" yX7_strip yX7_strip ∈ TB := tb_in 778 (by decide +kernel) rfl
theorem tw_779 : Cond.code yX7_strip cX7_strip 3 (some .int) ∈ TB := tb_in 779 (by decide +kernel) rfl
theorem tw_780 : Cond.methodLink "MoonRightsModel" 130 yX7_isStrip ∈ TB := tb_in 780 (by decide +kernel) rfl
theorem tw_782 : Cond.instanceMethod yX7_isStrip ∈ TB := tb_in 782 (by decide +kernel) rfl
theorem tw_783 : Cond.code yX7_isStrip cX7_isStrip 2 (some .boolean) ∈ TB := tb_in 783 (by decide +kernel) rfl
theorem tw_784 : Cond.methodLink "MoonRightsLaw" 39 yX7_night ∈ TB := tb_in 784 (by decide +kernel) rfl
theorem tw_785 : Cond.instanceMethod yX7_night ∈ TB := tb_in 785 (by decide +kernel) rfl
theorem tw_786 : Cond.selects "MoonRightsModel" yX7_night yX7_night ∈ TB := tb_in 786 (by decide +kernel) rfl
theorem tw_787 : Cond.code yX7_night cX7_night 3 (some .int) ∈ TB := tb_in 787 (by decide +kernel) rfl
theorem tw_788 : Cond.methodLink "MoonRightsModel" 133 yX7_moon ∈ TB := tb_in 788 (by decide +kernel) rfl
theorem tw_790 : Cond.instanceMethod yX7_moon ∈ TB := tb_in 790 (by decide +kernel) rfl
theorem tw_791 : Cond.code yX7_moon cX7_moon 3 (some .int) ∈ TB := tb_in 791 (by decide +kernel) rfl
theorem tw_792 : Cond.methodLink "MoonRightsLaw" 43 yX7_now ∈ TB := tb_in 792 (by decide +kernel) rfl
theorem tw_793 : Cond.instanceMethod yX7_now ∈ TB := tb_in 793 (by decide +kernel) rfl
theorem tw_794 : Cond.selects "MoonRightsModel" yX7_now yX7_now ∈ TB := tb_in 794 (by decide +kernel) rfl
theorem tw_795 : Cond.code yX7_now cX7_now 6 (some .int) ∈ TB := tb_in 795 (by decide +kernel) rfl
theorem tw_796 : Cond.methodLink "MoonRightsLaw" 47 yX7_ploughs ∈ TB := tb_in 796 (by decide +kernel) rfl
theorem tw_797 : Cond.instanceMethod yX7_ploughs ∈ TB := tb_in 797 (by decide +kernel) rfl
theorem tw_798 : Cond.selects "MoonRightsModel" yX7_ploughs yX7_ploughs ∈ TB := tb_in 798 (by decide +kernel) rfl
theorem tw_799 : Cond.code yX7_ploughs cX7_ploughs 6 (some .int) ∈ TB := tb_in 799 (by decide +kernel) rfl
theorem tw_800 : Cond.methodLink "MoonRightsModel" 136 yX7_lives ∈ TB := tb_in 800 (by decide +kernel) rfl
theorem tw_802 : Cond.instanceMethod yX7_lives ∈ TB := tb_in 802 (by decide +kernel) rfl
theorem tw_803 : Cond.code yX7_lives cX7_lives 2 (some .boolean) ∈ TB := tb_in 803 (by decide +kernel) rfl
theorem tw_804 : Cond.methodLink "MoonRightsModel" 139 yX7_notes ∈ TB := tb_in 804 (by decide +kernel) rfl
theorem tw_806 : Cond.instanceMethod yX7_notes ∈ TB := tb_in 806 (by decide +kernel) rfl
theorem tw_807 : Cond.code yX7_notes cX7_notes 2 none ∈ TB := tb_in 807 (by decide +kernel) rfl
theorem tw_808 : Cond.methodLink "MoonRightsLaw" 51 yX7_passes ∈ TB := tb_in 808 (by decide +kernel) rfl
theorem tw_809 : Cond.instanceMethod yX7_passes ∈ TB := tb_in 809 (by decide +kernel) rfl
theorem tw_810 : Cond.selects "MoonRightsModel" yX7_passes yX7_passes ∈ TB := tb_in 810 (by decide +kernel) rfl
theorem tw_811 : Cond.code yX7_passes cX7_passes 1 (some .int) ∈ TB := tb_in 811 (by decide +kernel) rfl
theorem tw_812 : Cond.methodLink "MoonRightsLaw" 56 yX7_lends ∈ TB := tb_in 812 (by decide +kernel) rfl
theorem tw_813 : Cond.instanceMethod yX7_lends ∈ TB := tb_in 813 (by decide +kernel) rfl
theorem tw_814 : Cond.selects "MoonRightsModel" yX7_lends yX7_lends ∈ TB := tb_in 814 (by decide +kernel) rfl
theorem tw_815 : Cond.code yX7_lends cX7_lends 4 (some .int) ∈ TB := tb_in 815 (by decide +kernel) rfl
theorem tw_816 : Cond.methodLink "MoonRightsLaw" 60 yX7_marries ∈ TB := tb_in 816 (by decide +kernel) rfl
theorem tw_817 : Cond.instanceMethod yX7_marries ∈ TB := tb_in 817 (by decide +kernel) rfl
theorem tw_818 : Cond.selects "MoonRightsModel" yX7_marries yX7_marries ∈ TB := tb_in 818 (by decide +kernel) rfl
theorem tw_819 : Cond.code yX7_marries cX7_marries 3 (some .int) ∈ TB := tb_in 819 (by decide +kernel) rfl
theorem tw_820 : Cond.methodLink "MoonRightsLaw" 64 yX7_dies ∈ TB := tb_in 820 (by decide +kernel) rfl
theorem tw_821 : Cond.instanceMethod yX7_dies ∈ TB := tb_in 821 (by decide +kernel) rfl
theorem tw_822 : Cond.selects "MoonRightsModel" yX7_dies yX7_dies ∈ TB := tb_in 822 (by decide +kernel) rfl
theorem tw_823 : Cond.code yX7_dies cX7_dies 6 (some .int) ∈ TB := tb_in 823 (by decide +kernel) rfl
theorem tw_824 : Cond.methodLink "MoonRightsModel" 142 yX7_inherits ∈ TB := tb_in 824 (by decide +kernel) rfl
theorem tw_826 : Cond.instanceMethod yX7_inherits ∈ TB := tb_in 826 (by decide +kernel) rfl
theorem tw_827 : Cond.code yX7_inherits cX7_inherits 4 none ∈ TB := tb_in 827 (by decide +kernel) rfl
theorem tw_828 : Cond.methodLink "MoonRightsLaw" 68 yX7_undo ∈ TB := tb_in 828 (by decide +kernel) rfl
theorem tw_829 : Cond.instanceMethod yX7_undo ∈ TB := tb_in 829 (by decide +kernel) rfl
theorem tw_830 : Cond.selects "MoonRightsModel" yX7_undo yX7_undo ∈ TB := tb_in 830 (by decide +kernel) rfl
theorem tw_831 : Cond.code yX7_undo cX7_undo 2 (some .int) ∈ TB := tb_in 831 (by decide +kernel) rfl
theorem tw_832 : Cond.methodLink "MoonRightsLaw" 72 yX7_least ∈ TB := tb_in 832 (by decide +kernel) rfl
theorem tw_833 : Cond.instanceMethod yX7_least ∈ TB := tb_in 833 (by decide +kernel) rfl
theorem tw_834 : Cond.selects "MoonRightsModel" yX7_least yX7_least ∈ TB := tb_in 834 (by decide +kernel) rfl
theorem tw_835 : Cond.code yX7_least cX7_least 8 (some .int) ∈ TB := tb_in 835 (by decide +kernel) rfl
theorem tw_836 : Cond.methodLink "MoonRightsModel" 153 yX7_measures ∈ TB := tb_in 836 (by decide +kernel) rfl
theorem tw_838 : Cond.instanceMethod yX7_measures ∈ TB := tb_in 838 (by decide +kernel) rfl
theorem tw_839 : Cond.code yX7_measures cX7_measures 7 (some .int) ∈ TB := tb_in 839 (by decide +kernel) rfl
theorem tw_840 : Cond.constant "MoonRightsModel" 146 (1000000 : Int32) ∈ TB := tb_in 840 (by decide +kernel) rfl
theorem tw_841 : Cond.methodLink "MoonRightsModel" 147 yX7_moonOf ∈ TB := tb_in 841 (by decide +kernel) rfl
theorem tw_843 : Cond.instanceMethod yX7_moonOf ∈ TB := tb_in 843 (by decide +kernel) rfl
theorem tw_844 : Cond.code yX7_moonOf cX7_moonOf 2 (some .int) ∈ TB := tb_in 844 (by decide +kernel) rfl
theorem tw_845 : Cond.methodLink "MoonRightsModel" 150 yX7_from ∈ TB := tb_in 845 (by decide +kernel) rfl
theorem tw_847 : Cond.instanceMethod yX7_from ∈ TB := tb_in 847 (by decide +kernel) rfl
theorem tw_848 : Cond.code yX7_from cX7_from 3 (some .int) ∈ TB := tb_in 848 (by decide +kernel) rfl
theorem tw_849 : Cond.methodLink "MoonRightsLaw" 76 yX7_soonest ∈ TB := tb_in 849 (by decide +kernel) rfl
theorem tw_850 : Cond.instanceMethod yX7_soonest ∈ TB := tb_in 850 (by decide +kernel) rfl
theorem tw_851 : Cond.selects "MoonRightsModel" yX7_soonest yX7_soonest ∈ TB := tb_in 851 (by decide +kernel) rfl
theorem tw_852 : Cond.code yX7_soonest cX7_soonest 11 (some .int) ∈ TB := tb_in 852 (by decide +kernel) rfl
theorem tw_853 : Cond.methodLink "MoonRightsLaw" 80 yX7_need ∈ TB := tb_in 853 (by decide +kernel) rfl
theorem tw_854 : Cond.instanceMethod yX7_need ∈ TB := tb_in 854 (by decide +kernel) rfl
theorem tw_855 : Cond.selects "MoonRightsModel" yX7_need yX7_need ∈ TB := tb_in 855 (by decide +kernel) rfl
theorem tw_856 : Cond.code yX7_need cX7_need 3 (some .int) ∈ TB := tb_in 856 (by decide +kernel) rfl
theorem tw_857 : Cond.methodLink "MoonRightsModel" 156 yX7_needOf ∈ TB := tb_in 857 (by decide +kernel) rfl
theorem tw_859 : Cond.instanceMethod yX7_needOf ∈ TB := tb_in 859 (by decide +kernel) rfl
theorem tw_860 : Cond.code yX7_needOf cX7_needOf 5 (some .int) ∈ TB := tb_in 860 (by decide +kernel) rfl
theorem tw_861 : Cond.methodLink "MoonRightsLaw" 84 yX7_lacks ∈ TB := tb_in 861 (by decide +kernel) rfl
theorem tw_862 : Cond.instanceMethod yX7_lacks ∈ TB := tb_in 862 (by decide +kernel) rfl
theorem tw_863 : Cond.selects "MoonRightsModel" yX7_lacks yX7_lacks ∈ TB := tb_in 863 (by decide +kernel) rfl
theorem tw_864 : Cond.code yX7_lacks cX7_lacks 3 (some .int) ∈ TB := tb_in 864 (by decide +kernel) rfl
theorem tw_865 : Cond.methodLink "MoonRightsModel" 159 yX7_lackOf ∈ TB := tb_in 865 (by decide +kernel) rfl
theorem tw_867 : Cond.instanceMethod yX7_lackOf ∈ TB := tb_in 867 (by decide +kernel) rfl
theorem tw_868 : Cond.code yX7_lackOf cX7_lackOf 3 (some .int) ∈ TB := tb_in 868 (by decide +kernel) rfl
theorem tw_869 : Cond.methodLink "MoonRightsLaw" 88 yX7_match ∈ TB := tb_in 869 (by decide +kernel) rfl
theorem tw_870 : Cond.instanceMethod yX7_match ∈ TB := tb_in 870 (by decide +kernel) rfl
theorem tw_871 : Cond.selects "MoonRightsModel" yX7_match yX7_match ∈ TB := tb_in 871 (by decide +kernel) rfl
theorem tw_872 : Cond.code yX7_match cX7_match 10 (some .int) ∈ TB := tb_in 872 (by decide +kernel) rfl
theorem tw_873 : Cond.methodLink "MoonRightsLaw" 92 yX7_cuts ∈ TB := tb_in 873 (by decide +kernel) rfl
theorem tw_874 : Cond.instanceMethod yX7_cuts ∈ TB := tb_in 874 (by decide +kernel) rfl
theorem tw_875 : Cond.selects "MoonRightsModel" yX7_cuts yX7_cuts ∈ TB := tb_in 875 (by decide +kernel) rfl
theorem tw_876 : Cond.code yX7_cuts cX7_cuts 4 (some .int) ∈ TB := tb_in 876 (by decide +kernel) rfl
theorem tw_877 : Cond.methodLink "MoonRightsLaw" 96 yX7_forget ∈ TB := tb_in 877 (by decide +kernel) rfl
theorem tw_878 : Cond.instanceMethod yX7_forget ∈ TB := tb_in 878 (by decide +kernel) rfl
theorem tw_879 : Cond.selects "MoonRightsModel" yX7_forget yX7_forget ∈ TB := tb_in 879 (by decide +kernel) rfl
theorem tw_880 : Cond.code yX7_forget cX7_forget 2 (some .int) ∈ TB := tb_in 880 (by decide +kernel) rfl
theorem tw_881 : Cond.methodLink "MoonRightsLaw" 100 yX7_lit ∈ TB := tb_in 881 (by decide +kernel) rfl
theorem tw_882 : Cond.instanceMethod yX7_lit ∈ TB := tb_in 882 (by decide +kernel) rfl
theorem tw_883 : Cond.selects "MoonRightsModel" yX7_lit yX7_lit ∈ TB := tb_in 883 (by decide +kernel) rfl
theorem tw_884 : Cond.code yX7_lit cX7_lit 3 (some .int) ∈ TB := tb_in 884 (by decide +kernel) rfl
theorem tw_885 : Cond.methodLink "MoonRightsLaw" 104 yX7_mean ∈ TB := tb_in 885 (by decide +kernel) rfl
theorem tw_886 : Cond.instanceMethod yX7_mean ∈ TB := tb_in 886 (by decide +kernel) rfl
theorem tw_887 : Cond.selects "MoonRightsModel" yX7_mean yX7_mean ∈ TB := tb_in 887 (by decide +kernel) rfl
theorem tw_888 : Cond.code yX7_mean cX7_mean 6 (some .int) ∈ TB := tb_in 888 (by decide +kernel) rfl
theorem tw_889 : Cond.methodLink "MoonRightsModel" 162 yX7_gcd ∈ TB := tb_in 889 (by decide +kernel) rfl
theorem tw_890 : Cond.static yX7_gcd ∈ TB := tb_in 890 (by decide +kernel) rfl
theorem tw_891 : Cond.code yX7_gcd cX7_gcd 5 (some .int) ∈ TB := tb_in 891 (by decide +kernel) rfl
theorem tw_892 : Cond.methodLink "MoonRightsLaw" 108 yX7_rate ∈ TB := tb_in 892 (by decide +kernel) rfl
theorem tw_893 : Cond.instanceMethod yX7_rate ∈ TB := tb_in 893 (by decide +kernel) rfl
theorem tw_894 : Cond.selects "MoonRightsModel" yX7_rate yX7_rate ∈ TB := tb_in 894 (by decide +kernel) rfl
theorem tw_895 : Cond.code yX7_rate cX7_rate 6 (some .int) ∈ TB := tb_in 895 (by decide +kernel) rfl
theorem tw_896 : Cond.constant "MoonRightsModel" 165 (-1000000 : Int32) ∈ TB := tb_in 896 (by decide +kernel) rfl
theorem tw_897 : Cond.constantLong "MoonRightsModel" 170 (11 : Int64) ∈ TB := tb_in 897 (by decide +kernel) rfl
theorem tw_898 : Cond.constantLong "MoonRightsModel" 172 (101 : Int64) ∈ TB := tb_in 898 (by decide +kernel) rfl
theorem tw_899 : Cond.constantLong "MoonRightsModel" 174 (1011 : Int64) ∈ TB := tb_in 899 (by decide +kernel) rfl
theorem tw_900 : Cond.constantLong "MoonRightsModel" 176 (10101 : Int64) ∈ TB := tb_in 900 (by decide +kernel) rfl
theorem tw_901 : Cond.constantLong "MoonRightsModel" 178 (100001 : Int64) ∈ TB := tb_in 901 (by decide +kernel) rfl
theorem tw_902 : Cond.methodLink "MoonRightsLaw" 112 yX7_keep ∈ TB := tb_in 902 (by decide +kernel) rfl
theorem tw_903 : Cond.instanceMethod yX7_keep ∈ TB := tb_in 903 (by decide +kernel) rfl
theorem tw_904 : Cond.selects "MoonRightsModel" yX7_keep yX7_keep ∈ TB := tb_in 904 (by decide +kernel) rfl
theorem tw_905 : Cond.code yX7_keep cX7_keep 3 (some .int) ∈ TB := tb_in 905 (by decide +kernel) rfl
theorem tw_906 : Cond.methodLink "MoonRightsLaw" 116 yX7_back ∈ TB := tb_in 906 (by decide +kernel) rfl
theorem tw_907 : Cond.instanceMethod yX7_back ∈ TB := tb_in 907 (by decide +kernel) rfl
theorem tw_908 : Cond.selects "MoonRightsModel" yX7_back yX7_back ∈ TB := tb_in 908 (by decide +kernel) rfl
theorem tw_909 : Cond.code yX7_back cX7_back 3 (some .int) ∈ TB := tb_in 909 (by decide +kernel) rfl
theorem tw_910 : Cond.methodLink "MoonRightsLaw" 120 yX7_count ∈ TB := tb_in 910 (by decide +kernel) rfl
theorem tw_911 : Cond.instanceMethod yX7_count ∈ TB := tb_in 911 (by decide +kernel) rfl
theorem tw_912 : Cond.selects "MoonRightsModel" yX7_count yX7_count ∈ TB := tb_in 912 (by decide +kernel) rfl
theorem tw_913 : Cond.code yX7_count cX7_count 2 (some .int) ∈ TB := tb_in 913 (by decide +kernel) rfl
theorem tw_914 : Cond.methodLink "MoonRightsLaw" 125 yX7_trace ∈ TB := tb_in 914 (by decide +kernel) rfl
theorem tw_915 : Cond.instanceMethod yX7_trace ∈ TB := tb_in 915 (by decide +kernel) rfl
theorem tw_916 : Cond.selects "MoonRightsModel" yX7_trace yX7_trace ∈ TB := tb_in 916 (by decide +kernel) rfl
theorem tw_917 : Cond.code yX7_trace cX7_trace 1 (some .long) ∈ TB := tb_in 917 (by decide +kernel) rfl
theorem inq_0 : ∀ w ∈ u_ws RX0 TX0 5, w ∈ TB := by decide +kernel
theorem inq_1 : ∀ w ∈ u_ws RX1 TX1 4, w ∈ TB := by decide +kernel
theorem inq_2 : ∀ w ∈ u_ws RX2 TX2 3, w ∈ TB := by decide +kernel
theorem inq_3 : ∀ w ∈ u_ws RX3 TX3 11, w ∈ TB := by decide +kernel
theorem inq_4 : ∀ w ∈ u_ws RX4 TX4 6, w ∈ TB := by decide +kernel
theorem inq_5 : ∀ w ∈ u_ws RX5 TX5 7, w ∈ TB := by decide +kernel
theorem inq_6 : ∀ w ∈ u_ws RX6 TX6 13, w ∈ TB := by decide +kernel
theorem inq_7 : ∀ w ∈ u_ws RX7 TX7 26, w ∈ TB := by decide +kernel
end
section
/-! the state of both objects, the layout of their cells, the world -/
abbrev St : Type := (Nat → Nat → Int32) × (Int64 × Int64)
def up (σ : St) (i k : Nat) (v : Int32) : St := (fun a => if a = i then upd (σ.1 i) k v else σ.1 a, σ.2)
def upT (σ : St) (v : Int64) : St := (σ.1, v, σ.2.2)
def upM (σ : St) (v : Int64) : St := (σ.1, σ.2.1, v)
abbrev LY : Type := va_G × ((Nat → ClassId) × ((Nat → Nat) × (Nat × (St → va_E))))
def yD (Y : LY) : va_G := Y.1
def yC (Y : LY) : Nat → ClassId := Y.2.1
def yA (Y : LY) : Nat → Nat := Y.2.2.1
def yN (Y : LY) : Nat := Y.2.2.2.1
def y0 (Y : LY) : St → va_E := Y.2.2.2.2
def KD : List (Nat × Nat) := [(0, 0), (3, 200), (4, 0), (5, 0), (1, 5), (1, 5), (1, 7), (1, 7), (2, 100), (5, 0), (1, 5), (1, 5), (1, 7), (1, 7), (2, 100), (6, 0), (1, 3904), (1, 60), (7, 0), (1, 5), (1, 5), (1, 7), (1, 7), (8, 0), (9, 10), (7, 0), (1, 5), (1, 5), (1, 7), (1, 7), (7, 0), (1, 5), (1, 5), (1, 7), (1, 7), (7, 0), (1, 5), (1, 5), (1, 7), (1, 7), (7, 0), (1, 5), (1, 5), (1, 7), (1, 7), (7, 0), (1, 5), (1, 5), (1, 7), (1, 7), (7, 0), (1, 5), (1, 5), (1, 7), (1, 7), (7, 0), (1, 5), (1, 5), (1, 7), (1, 7), (7, 0), (1, 5), (1, 5), (1, 7), (1, 7), (7, 0), (1, 5), (1, 5), (1, 7), (1, 7), (7, 0), (1, 5), (1, 5), (1, 7), (1, 7), (9, 2), (7, 0), (1, 5), (1, 5), (1, 7), (1, 7), (7, 0), (1, 5), (1, 5), (1, 7), (1, 7), (2, 2), (11, 0), (1, 6), (1, 6), (1, 6), (1, 5), (12, 0), (1, 200), (1, 8), (1, 5), (1, 10), (1, 7), (1, 14), (2, 200), (1, 27), (1, 54), (2, 2), (1, 270), (1, 6), (1, 6), (1, 6), (1, 3904)]
def kd (i : Nat) : Nat × Nat := KD.getD i (0, 0)
def cek (Y : LY) (σ : St) (i k n : Nat) : va_E := match k with
  | 1 => .inl (yC Y 0, n, .inl (σ.1 i))
  | 2 => .inl (yC Y 1, n, .inl (σ.1 i))
  | 3 => .inl (yC Y 2, n, .inl (σ.1 i))
  | 4 => .inr (4, [.ref (yA Y 1), .int (σ.1 i 1), .int (σ.1 i 2), .int (σ.1 i 3), .int (σ.1 i 4), .int (σ.1 i 5)])
  | 5 => .inr (3, [.ref (yA Y (i + 1)), .ref (yA Y (i + 2)), .ref (yA Y (i + 3)), .ref (yA Y (i + 4)), .ref (yA Y (i + 5)), .int (σ.1 i 5), .int (σ.1 i 6), .int (σ.1 i 7), .int (σ.1 i 8), .int (σ.1 i 9), .int (σ.1 i 10)])
  | 6 => .inr (0, [.ref (yA Y 16), .ref (yA Y 17), .ref (yA Y (σ.1 i 2).toNatClampNeg), .int (σ.1 i 3), .int (σ.1 i 4)])
  | 7 => .inr (5, [.ref (yA Y (i + 1)), .ref (yA Y (i + 2)), .ref (yA Y (i + 3)), .ref (yA Y (i + 4)), .int (σ.1 i 4), .int (σ.1 i 5), .int (σ.1 i 6)])
  | 8 => .inr (2, [.ref (yA Y 24), .int (σ.1 i 1), .int (σ.1 i 2)])
  | 9 => .inl (yC Y 3, n, .inr (.inr (.inr (.inr (fun j => if j < n then some (yA Y (i + 1 + 5 * j)) else none)))))
  | 11 => .inr (1, [.ref (yA Y 88), .ref (yA Y 89), .ref (yA Y 90), .int (σ.1 i 3)])
  | 12 => .inr (7, [.int (σ.1 i 0), .long σ.2.2, .ref (yA Y 93), .int (σ.1 i 3), .int (σ.1 i 4), .int (σ.1 i 5), .int (σ.1 i 6), .int (σ.1 i 7), .int (σ.1 i 8), .ref (yA Y 94), .int (σ.1 i 10), .ref (yA Y 95), .ref (yA Y 96), .ref (yA Y 97), .ref (yA Y 98), .ref (yA Y 99), .ref (yA Y 100), .ref (yA Y 101), .ref (yA Y 102), .ref (yA Y 103), .int (σ.1 i 20), .ref (yA Y 104), .ref (yA Y 105), .ref (yA Y 106), .int (σ.1 i 24), .ref (yA Y 107)])
  | _ => .inr (0, [])
def ce (Y : LY) (σ : St) (i : Nat) : va_E := if i = 0 then y0 Y σ else cek Y σ i (kd i).1 (kd i).2
def wd (Y : LY) (σ : St) : va_W := (List.range (yN Y)).map (fun i => (yA Y i, ce Y σ i))
theorem wd_at {Y : LY} {σ : St} {i : Nat} (hi : i < yN Y) : (wd Y σ)[i]? = some (yA Y i, ce Y σ i) := by
  simp [wd, hi]
theorem wd_len {Y : LY} {σ : St} : (wd Y σ).length = yN Y := by simp [wd]
/-- cell 0 looks at its own numbers alone -/
def YB (Y : LY) : Prop := (∀ (σ : St) (i k : Nat) (v : Int32), i ≠ 0 → y0 Y (up σ i k v) = y0 Y σ) ∧ ∀ (σ : St) (v : Int64), y0 Y (upM σ v) = y0 Y σ
theorem up_ne {σ : St} {i j k : Nat} {v : Int32} (h : j ≠ i) : (up σ i k v).1 j = σ.1 j := by simp [up, h]
theorem up_eq {σ : St} {i k : Nat} {v : Int32} : (up σ i k v).1 i = upd (σ.1 i) k v := by simp [up]
theorem ce_up_ne {Y : LY} (hB : YB Y) {σ : St} {i j k : Nat} {v : Int32} (h : j ≠ i) : ce Y (up σ i k v) j = ce Y σ j := by
  unfold ce
  by_cases hj : j = 0
  · rw [if_pos hj, if_pos hj]
    exact hB.1 σ i k v (fun e => h (hj.trans e.symm))
  · rw [if_neg hj, if_neg hj]
    unfold cek
    rw [up_ne h]
    rfl
theorem ce_upM_ne {Y : LY} (hB : YB Y) {σ : St} {j : Nat} {v : Int64} (h : (kd j).1 ≠ 12) : ce Y (upM σ v) j = ce Y σ j := by
  unfold ce
  by_cases hj : j = 0
  · rw [if_pos hj, if_pos hj]
    exact hB.2 σ v
  · rw [if_neg hj, if_neg hj]
    unfold cek
    split <;> first | rfl | (exfalso; simp_all)
theorem ce_upT_ne {Y : LY} {σ : St} {j : Nat} {v : Int64} (h : j ≠ 0) : ce Y (upT σ v) j = ce Y σ j := by
  unfold ce
  rw [if_neg h, if_neg h]
  rfl
theorem wd_set {Y : LY} {σ σ' : St} {i : Nat} (hi : i < yN Y) (h : ∀ j, j < yN Y → j ≠ i → ce Y σ' j = ce Y σ j) : wd Y σ' = (wd Y σ).set i (yA Y i, ce Y σ' i) := by
  apply List.ext_getElem?
  intro j
  by_cases hj : j < yN Y
  · rw [wd_at hj]
    by_cases e : j = i
    · subst e
      rw [List.getElem?_set_self (by rw [wd_len]; exact hj)]
    · rw [List.getElem?_set_ne (Ne.symm e), wd_at hj, h j hj e]
  · rw [List.getElem?_eq_none (by rw [wd_len]; omega), List.getElem?_eq_none (by rw [List.length_set, wd_len]; omega)]
def AD (Y : LY) : Nat → Prop := fun q => ∃ i, i < yN Y ∧ yA Y i = q
theorem wd_ad {Y : LY} {σ : St} {k : Nat} {q : Nat × va_E} (h : (wd Y σ)[k]? = some q) : k < yN Y ∧ q.1 = yA Y k := by
  have hk : k < yN Y := by
    rcases Nat.lt_or_ge k (yN Y) with c | c
    · exact c
    · rw [List.getElem?_eq_none (by rw [wd_len]; exact c)] at h
      cases h
  rw [wd_at hk] at h
  cases h
  exact ⟨hk, rfl⟩
theorem wd_D {Y : LY} {σ σ' : St} {A : Nat → Prop} (h : va_D A (wd Y σ)) : va_D A (wd Y σ') := by
  constructor
  · intro i j p q hi hj e
    have a := wd_ad hi
    have b := wd_ad hj
    exact h.1 i j _ _ (wd_at a.1) (wd_at b.1) (by show yA Y i = yA Y j; rw [← a.2, ← b.2]; exact e)
  · intro k q hk
    have a := wd_ad hk
    have b := h.2 k _ (wd_at a.1)
    rw [a.2]
    exact b
theorem wd_DA {Y : LY} {σ : St} {A : Nat → Prop} (h : va_D A (wd Y σ)) : va_D (AD Y) (wd Y σ) := ⟨h.1, fun k q hk => ⟨k, (wd_ad hk).1, (wd_ad hk).2.symm⟩⟩
theorem wd_AA {Y : LY} {σ : St} {A : Nat → Prop} (h : va_D A (wd Y σ)) : ∀ q, AD Y q → A q := by
  rintro q ⟨i, hi, rfl⟩
  exact h.2 i _ (wd_at hi)
def WS (Y : LY) (A : Nat → Prop) (H0 : Heap) (σ : St) (H : Heap) (locs : List Loc) : Prop := va_P (yD Y) vwCl (wd Y σ) H ∧ va_D A (wd Y σ) ∧ va_S A H0 H locs
def tyL (Y : LY) : List (ClassId × FieldType) := [(yC Y 0, .int), (yC Y 1, .boolean), (yC Y 2, .char), (yC Y 3, .object "MoonRights$Standing")]
def MC (p : Program) (s : State) (m : MethodId) (args : Array Value) (meth : Method) (c : Code) (cc : ByteArray) (nL : Nat) (ret : Option FieldType) (own : String) (Y : LY) : Prop :=
  p.tables.exec = Jvm.exec ∧ c.code = cc ∧ meth.sig.returnType = ret ∧ c.maxLocals = nL ∧ s.vm.findClass own = some m.cls ∧ meth.locks = false ∧ (∀ w ∈ TB, w.before args s = true) ∧ va_K (yD Y) vwCl (tyL Y) s ∧ YB Y
/-- an array of ints (t = 0), booleans (1), chars (2), of n places, at i -/
def AR (Y : LY) (t i n : Nat) : Prop := i < yN Y ∧ ∀ σ : St, ce Y σ i = .inl (yC Y t, n, .inl (σ.1 i))
/-- an object of class ci at i with these fields -/
def OB (Y : LY) (i ci : Nat) (fs : St → List Value) : Prop := i < yN Y ∧ ∀ σ : St, ce Y σ i = .inr (ci, fs σ)
def BW (Y : LY) (σ : St) (t : State) : Prop := va_P (yD Y) vwCl (wd Y σ) t.heap ∧ va_K (yD Y) vwCl (tyL Y) t
def PW (Y : LY) (σ : St) (U : State) : Prop := (va_P (yD Y) vwCl (wd Y σ) U.heap ∧ va_D (AD Y) (wd Y σ)) ∧ va_K (yD Y) vwCl (tyL Y) U
abbrev QI (Y : LY) (Q : Int32 → St → Prop) : Array Value → State → Outcome → State → Prop := va_Qi Q (BW Y) (AD Y)
abbrev QL (Y : LY) (Q : Int64 → St → Prop) : Array Value → State → Outcome → State → Prop := va_Ql Q (BW Y) (AD Y)
abbrev QV (Y : LY) (Q : St → Prop) : Array Value → State → Outcome → State → Prop := va_Qv Q (BW Y) (AD Y)
def CT (l : Launch) (y : MethodName) (cw : Cond) (rm : Room) (Y : LY) (vs : List Value) (σ : St) (Qc : Array Value → State → Outcome → State → Prop) : Prop := Met l y (cw :: TB) rm (va_Pc vs (PW Y σ)) Qc 0 0 (AD Y)
/-- loops: n turns at most -/
def Lp {α : Type} (F : (α → Prop) → α → Prop) : Nat → α → Prop
  | 0, _ => False
  | n + 1, a => F (Lp F n) a
section RowsQ
variable {p : Program} {l : Launch} {e : Env} {R : Room} {s : State} {m : MethodId} {args : Array Value} {below : List Frame} {meth : Method} {c : Code} {H : Heap} {locs : List Loc} {cells slots : Nat} {Q : State → Prop}
variable {cc : ByteArray} {pc nL : Nat} {ls : Array Slot} {rest : List Value} {A : Nat → Prop} {H0 : Heap} {Y : LY} {σ : St} {own : String} {ret : Option FieldType}
theorem q_get (M : MC p s m args meth c cc nL ret own Y) (hw : WS Y A H0 σ H locs) {i ci : Nat} {fs : St → List Value} (ho : OB Y i ci fs) {C : String} {T : u_T} {N index : Nat} (hc : vwCl[ci]? = some (C, T, N)) (hin : ∀ w ∈ u_ws C T N, w ∈ TB) (k : Nat) (hk : k < N) (hl : Cond.fieldLink own index (T k).1 (T k).2.1 (T k).2.2.1 ∈ TB) {v : Value} (hv : (fs σ)[k]? = some v) (hdg : decode cc pc = .ok (.getfield index, 3))
    (kk : W p l e R s m args below meth c H locs cells slots Q (F0 m (pc + 3) ls (v :: rest))) : W p l e R s m args below meth c H locs cells slots Q (F0 m pc ls (.ref (yA Y i) :: rest)) := by
  obtain ⟨hx, hb, hr, hml, hown, hlk, hT, hK, hB⟩ := M
  exact va_get hx hb hT hin hown hK hw.1 i ((wd_at ho.1).trans (by rw [ho.2 σ])) hc k hk (hT _ hl) (fun _ h9 => h9) hv hdg kk
theorem q_put (M : MC p s m args meth c cc nL ret own Y) (hw : WS Y A H0 σ H locs) {i ci : Nat} {fs : St → List Value} (ho : OB Y i ci fs) {C : String} {T : u_T} {N index : Nat} (hc : vwCl[ci]? = some (C, T, N)) (hin : ∀ w ∈ u_ws C T N, w ∈ TB) (ty0 : Nat → FieldType) (hty : ∀ k, k < N → parseFieldDescriptor (T k).2.2.1 = some (ty0 k)) (hnm : ∀ a, a < N → ∀ b, b < N → a ≠ b → (T a).2.1 ≠ (T b).2.1) (k : Nat) (hk : k < N) (hl : Cond.fieldLink own index (T k).1 (T k).2.1 (T k).2.2.1 ∈ TB) (hfin : (T k).2.2.2 = false) {v : Int32} (hn : narrow (ty0 k) (.int v) = .int v) (hfit : fits (ty0 k) (.int v) = true) (hlen : k < (fs σ).length) (hset : (fs σ).set k (.int v) = fs (up σ i k v)) (hdg : decode cc pc = .ok (.putfield index, 3))
    (kk : ∀ (σ1 : St) (H1 : Heap) (locs1 : List Loc), σ1 = up σ i k v → WS Y A H0 σ1 H1 locs1 → W p l e R s m args below meth c H1 locs1 cells slots Q (F0 m (pc + 3) ls rest)) : W p l e R s m args below meth c H locs cells slots Q (F0 m pc ls (.int v :: .ref (yA Y i) :: rest)) := by
  obtain ⟨hx, hb, hr, hml, hown, hlk, hT, hK, hB⟩ := M
  refine va_put hx hb hT hin ty0 hty hnm hown hK hw.1 hw.2.1 hw.2.2 i ((wd_at ho.1).trans (by rw [ho.2 σ])) hc k hk (hT _ hl) (fun _ h9 => h9) hfin (hty k hk) hn hfit hlen hdg (fun H1 locs1 hP hD hS => ?_)
  have he : wd Y (up σ i k v) = (wd Y σ).set i (yA Y i, .inr (ci, (fs σ).set k (.int v))) := by
    rw [wd_set (σ := σ) ho.1 (fun j _ hj => ce_up_ne hB hj), ho.2, hset]
  rw [← he] at hP hD
  exact kk _ H1 locs1 rfl ⟨hP, hD, hS⟩
theorem q_putT (M : MC p s m args meth c cc nL ret own Y) (hw : WS Y A H0 σ H locs) {ci : Nat} {fs : St → List Value} (ho : OB Y 0 ci fs) {C : String} {T : u_T} {N index : Nat} (hc : vwCl[ci]? = some (C, T, N)) (hin : ∀ w ∈ u_ws C T N, w ∈ TB) (ty0 : Nat → FieldType) (hty : ∀ k, k < N → parseFieldDescriptor (T k).2.2.1 = some (ty0 k)) (hnm : ∀ a, a < N → ∀ b, b < N → a ≠ b → (T a).2.1 ≠ (T b).2.1) (k : Nat) (hk : k < N) (hl : Cond.fieldLink own index (T k).1 (T k).2.1 (T k).2.2.1 ∈ TB) (hfin : (T k).2.2.2 = false) {v : Int64} (hn : narrow (ty0 k) (.long v) = .long v) (hfit : fits (ty0 k) (.long v) = true) (hlen : k < (fs σ).length) (hset : (fs σ).set k (.long v) = fs (upT σ v)) (hdg : decode cc pc = .ok (.putfield index, 3))
    (kk : ∀ (σ1 : St) (H1 : Heap) (locs1 : List Loc), σ1 = upT σ v → WS Y A H0 σ1 H1 locs1 → W p l e R s m args below meth c H1 locs1 cells slots Q (F0 m (pc + 3) ls rest)) : W p l e R s m args below meth c H locs cells slots Q (F0 m pc ls (.long v :: .ref (yA Y 0) :: rest)) := by
  obtain ⟨hx, hb, hr, hml, hown, hlk, hT, hK, hB⟩ := M
  refine va_put hx hb hT hin ty0 hty hnm hown hK hw.1 hw.2.1 hw.2.2 0 ((wd_at ho.1).trans (by rw [ho.2 σ])) hc k hk (hT _ hl) (fun _ h9 => h9) hfin (hty k hk) hn hfit hlen hdg (fun H1 locs1 hP hD hS => ?_)
  have he : wd Y (upT σ v) = (wd Y σ).set 0 (yA Y 0, .inr (ci, (fs σ).set k (.long v))) := by
    rw [wd_set (σ := σ) ho.1 (fun j _ hj => ce_upT_ne hj), ho.2, hset]
  rw [← he] at hP hD
  exact kk _ H1 locs1 rfl ⟨hP, hD, hS⟩
theorem q_putM (M : MC p s m args meth c cc nL ret own Y) (hw : WS Y A H0 σ H locs) {i ci : Nat} {fs : St → List Value} (ho : OB Y i ci fs) (hone : ∀ j, j < yN Y → j ≠ i → (kd j).1 ≠ 12) {C : String} {T : u_T} {N index : Nat} (hc : vwCl[ci]? = some (C, T, N)) (hin : ∀ w ∈ u_ws C T N, w ∈ TB) (ty0 : Nat → FieldType) (hty : ∀ k, k < N → parseFieldDescriptor (T k).2.2.1 = some (ty0 k)) (hnm : ∀ a, a < N → ∀ b, b < N → a ≠ b → (T a).2.1 ≠ (T b).2.1) (k : Nat) (hk : k < N) (hl : Cond.fieldLink own index (T k).1 (T k).2.1 (T k).2.2.1 ∈ TB) (hfin : (T k).2.2.2 = false) {v : Int64} (hn : narrow (ty0 k) (.long v) = .long v) (hfit : fits (ty0 k) (.long v) = true) (hlen : k < (fs σ).length) (hset : (fs σ).set k (.long v) = fs (upM σ v)) (hdg : decode cc pc = .ok (.putfield index, 3))
    (kk : ∀ (σ1 : St) (H1 : Heap) (locs1 : List Loc), σ1 = upM σ v → WS Y A H0 σ1 H1 locs1 → W p l e R s m args below meth c H1 locs1 cells slots Q (F0 m (pc + 3) ls rest)) : W p l e R s m args below meth c H locs cells slots Q (F0 m pc ls (.long v :: .ref (yA Y i) :: rest)) := by
  obtain ⟨hx, hb, hr, hml, hown, hlk, hT, hK, hB⟩ := M
  refine va_put hx hb hT hin ty0 hty hnm hown hK hw.1 hw.2.1 hw.2.2 i ((wd_at ho.1).trans (by rw [ho.2 σ])) hc k hk (hT _ hl) (fun _ h9 => h9) hfin (hty k hk) hn hfit hlen hdg (fun H1 locs1 hP hD hS => ?_)
  have he : wd Y (upM σ v) = (wd Y σ).set i (yA Y i, .inr (ci, (fs σ).set k (.long v))) := by
    rw [wd_set (σ := σ) ho.1 (fun j hj hji => ce_upM_ne hB (hone j hj hji)), ho.2, hset]
  rw [← he] at hP hD
  exact kk _ H1 locs1 rfl ⟨hP, hD, hS⟩
theorem q_ild (M : MC p s m args meth c cc nL ret own Y) (hw : WS Y A H0 σ H locs) {i n : Nat} (ha : AR Y 0 i n) {x : Int32} (hin : vp_in x n) (hdg : decode cc pc = .ok (.iaload, 1))
    (kk : W p l e R s m args below meth c H locs cells slots Q (F0 m (pc + 1) ls (.int (σ.1 i x.toNatClampNeg) :: rest))) : W p l e R s m args below meth c H locs cells slots Q (F0 m pc ls (.int x :: .ref (yA Y i) :: rest)) :=
  va_iald M.1 M.2.1 M.2.2.2.2.2.2.2.1 hw.1 i 0 ((wd_at ha.1).trans (by rw [ha.2 σ])) rfl hin hdg kk
theorem q_zld (M : MC p s m args meth c cc nL ret own Y) (hw : WS Y A H0 σ H locs) {i n : Nat} (ha : AR Y 1 i n) {x : Int32} (hin : vp_in x n) (hdg : decode cc pc = .ok (.baload, 1))
    (kk : W p l e R s m args below meth c H locs cells slots Q (F0 m (pc + 1) ls (.int (σ.1 i x.toNatClampNeg) :: rest))) : W p l e R s m args below meth c H locs cells slots Q (F0 m pc ls (.int x :: .ref (yA Y i) :: rest)) :=
  va_zald M.1 M.2.1 M.2.2.2.2.2.2.2.1 hw.1 i 1 ((wd_at ha.1).trans (by rw [ha.2 σ])) rfl hin hdg kk
theorem q_cld (M : MC p s m args meth c cc nL ret own Y) (hw : WS Y A H0 σ H locs) {i n : Nat} (ha : AR Y 2 i n) {x : Int32} (hin : vp_in x n) (hdg : decode cc pc = .ok (.caload, 1))
    (kk : W p l e R s m args below meth c H locs cells slots Q (F0 m (pc + 1) ls (.int (σ.1 i x.toNatClampNeg) :: rest))) : W p l e R s m args below meth c H locs cells slots Q (F0 m pc ls (.int x :: .ref (yA Y i) :: rest)) :=
  va_cald M.1 M.2.1 M.2.2.2.2.2.2.2.1 hw.1 i 2 ((wd_at ha.1).trans (by rw [ha.2 σ])) rfl hin hdg kk
theorem wd_upA (hB : YB Y) {t i n k : Nat} (ha : AR Y t i n) (v : Int32) : wd Y (up σ i k v) = (wd Y σ).set i (yA Y i, .inl (yC Y t, n, .inl (upd (σ.1 i) k v))) := by
  rw [wd_set (σ := σ) ha.1 (fun j _ hj => ce_up_ne hB hj), ha.2, up_eq]
theorem q_ist (M : MC p s m args meth c cc nL ret own Y) (hw : WS Y A H0 σ H locs) {i n : Nat} (ha : AR Y 0 i n) {x v : Int32} (hin : vp_in x n) (hdg : decode cc pc = .ok (.iastore, 1))
    (kk : ∀ (σ1 : St) (H1 : Heap) (locs1 : List Loc), σ1 = up σ i x.toNatClampNeg v → WS Y A H0 σ1 H1 locs1 → W p l e R s m args below meth c H1 locs1 cells slots Q (F0 m (pc + 1) ls rest)) : W p l e R s m args below meth c H locs cells slots Q (F0 m pc ls (.int v :: .int x :: .ref (yA Y i) :: rest)) := by
  obtain ⟨hx, hb, hr, hml, hown, hlk, hT, hK, hB⟩ := M
  refine va_iast hx hb hK hw.1 hw.2.1 hw.2.2 i 0 ((wd_at ha.1).trans (by rw [ha.2 σ])) rfl hin hdg (fun H1 locs1 hP hD hS => ?_)
  rw [← wd_upA hB ha] at hP hD
  exact kk _ H1 locs1 rfl ⟨hP, hD, hS⟩
theorem q_zst (M : MC p s m args meth c cc nL ret own Y) (hw : WS Y A H0 σ H locs) {i n : Nat} (ha : AR Y 1 i n) {x v : Int32} (hin : vp_in x n) (hdg : decode cc pc = .ok (.bastore, 1))
    (kk : ∀ (σ1 : St) (H1 : Heap) (locs1 : List Loc), σ1 = up σ i x.toNatClampNeg (vp_nar .boolean v) → WS Y A H0 σ1 H1 locs1 → W p l e R s m args below meth c H1 locs1 cells slots Q (F0 m (pc + 1) ls rest)) : W p l e R s m args below meth c H locs cells slots Q (F0 m pc ls (.int v :: .int x :: .ref (yA Y i) :: rest)) := by
  obtain ⟨hx, hb, hr, hml, hown, hlk, hT, hK, hB⟩ := M
  refine va_zast hx hb hK hw.1 hw.2.1 hw.2.2 i 1 ((wd_at ha.1).trans (by rw [ha.2 σ])) rfl hin hdg (fun H1 locs1 hP hD hS => ?_)
  rw [← wd_upA hB ha] at hP hD
  exact kk _ H1 locs1 rfl ⟨hP, hD, hS⟩
theorem q_cst (M : MC p s m args meth c cc nL ret own Y) (hw : WS Y A H0 σ H locs) {i n : Nat} (ha : AR Y 2 i n) {x v : Int32} (hin : vp_in x n) (hdg : decode cc pc = .ok (.castore, 1))
    (kk : ∀ (σ1 : St) (H1 : Heap) (locs1 : List Loc), σ1 = up σ i x.toNatClampNeg (vp_nar .char v) → WS Y A H0 σ1 H1 locs1 → W p l e R s m args below meth c H1 locs1 cells slots Q (F0 m (pc + 1) ls rest)) : W p l e R s m args below meth c H locs cells slots Q (F0 m pc ls (.int v :: .int x :: .ref (yA Y i) :: rest)) := by
  obtain ⟨hx, hb, hr, hml, hown, hlk, hT, hK, hB⟩ := M
  refine va_cast hx hb hK hw.1 hw.2.1 hw.2.2 i 2 ((wd_at ha.1).trans (by rw [ha.2 σ])) rfl hin hdg (fun H1 locs1 hP hD hS => ?_)
  rw [← wd_upA hB ha] at hP hD
  exact kk _ H1 locs1 rfl ⟨hP, hD, hS⟩
/-- an element of a row of standings -/
theorem q_sld (M : MC p s m args meth c cc nL ret own Y) (hw : WS Y A H0 σ H locs) {i n : Nat} (hi : i < yN Y) (ha : ∀ σ : St, ce Y σ i = .inl (yC Y 3, n, .inr (.inr (.inr (.inr (fun j => if j < n then some (yA Y (i + 1 + 5 * j)) else none)))))) {x : Int32} (hin : vp_in x n) (hdg : decode cc pc = .ok (.aaload, 1))
    (kk : W p l e R s m args below meth c H locs cells slots Q (F0 m (pc + 1) ls (.ref (yA Y (i + 1 + 5 * x.toNatClampNeg)) :: rest))) : W p l e R s m args below meth c H locs cells slots Q (F0 m pc ls (.int x :: .ref (yA Y i) :: rest)) := by
  refine va_aldq M.1 M.2.1 M.2.2.2.2.2.2.2.1 hw.1 i 3 ((wd_at hi).trans (by rw [ha σ])) rfl hin hdg ?_
  have h1 : x.toNatClampNeg < n := Nat.lt_of_not_le (fun c => hin (Or.inr c))
  show W p l e R s m args below meth c H locs cells slots Q (F0 m (pc + 1) ls (va_rf (if x.toNatClampNeg < n then some (yA Y (i + 1 + 5 * x.toNatClampNeg)) else none) :: rest))
  rw [if_pos h1]
  exact kk
theorem q_iret {Qp : Int32 → St → Prop} (M : MC p s m args meth c cc nL (some .int) own Y) (hw : WS Y (AD Y) s.heap σ H locs) {v : Int32} (h : Qp v σ) (hdg : decode cc pc = .ok (.ireturn, 1)) : W p l e R s m args below meth c H locs cells slots (MQ below (QI Y Qp) args s cells slots (AD Y)) (F0 m pc ls [.int v]) := by
  obtain ⟨hx, hb, hr, hml, hown, hlk, hT, hK, hB⟩ := M
  exact W.iret hx hb hr (fun t ht hW => ⟨⟨v, σ, rfl, h, by rw [ht]; exact hw.1, va_K.moved hW.alike hK⟩, hw.2.2.F ht⟩) hw.2.2.2.2 hdg hlk
theorem q_zret {Qp : Int32 → St → Prop} (M : MC p s m args meth c cc nL (some .boolean) own Y) (hw : WS Y (AD Y) s.heap σ H locs) {v : Int32} (hn : narrow .boolean (.int v) = .int v) (h : Qp v σ) (hdg : decode cc pc = .ok (.ireturn, 1)) : W p l e R s m args below meth c H locs cells slots (MQ below (QI Y Qp) args s cells slots (AD Y)) (F0 m pc ls [.int v]) := by
  obtain ⟨hx, hb, hr, hml, hown, hlk, hT, hK, hB⟩ := M
  exact W.zret hx hb hr hn (fun t ht hW => ⟨⟨v, σ, rfl, h, by rw [ht]; exact hw.1, va_K.moved hW.alike hK⟩, hw.2.2.F ht⟩) hw.2.2.2.2 hdg hlk
theorem q_lret {Qp : Int64 → St → Prop} (M : MC p s m args meth c cc nL (some .long) own Y) (hw : WS Y (AD Y) s.heap σ H locs) {v : Int64} (h : Qp v σ) (hdg : decode cc pc = .ok (.lreturn, 1)) : W p l e R s m args below meth c H locs cells slots (MQ below (QL Y Qp) args s cells slots (AD Y)) (F0 m pc ls [.long v]) := by
  obtain ⟨hx, hb, hr, hml, hown, hlk, hT, hK, hB⟩ := M
  exact W.lret hx hb hr (fun t ht hW => ⟨⟨v, σ, rfl, h, by rw [ht]; exact hw.1, va_K.moved hW.alike hK⟩, hw.2.2.F ht⟩) hw.2.2.2.2 hdg hlk
theorem q_vret {Qp : St → Prop} (M : MC p s m args meth c cc nL none own Y) (hw : WS Y (AD Y) s.heap σ H locs) (h : Qp σ) (hdg : decode cc pc = .ok (.return_, 1)) : W p l e R s m args below meth c H locs cells slots (MQ below (QV Y Qp) args s cells slots (AD Y)) (F0 m pc ls []) := by
  obtain ⟨hx, hb, hr, hml, hown, hlk, hT, hK, hB⟩ := M
  exact W.vret hx hb hr (fun t ht hW => ⟨⟨σ, rfl, h, by rw [ht]; exact hw.1, va_K.moved hW.alike hK⟩, hw.2.2.F ht⟩) hw.2.2.2.2 hdg hlk
end RowsQ
theorem pw_blind {vs : List Value} {Y : LY} {σ : St} : FrameBlind (va_Pc vs (PW Y σ)) := fun a U g mk q => ⟨q.1, q.2.1, va_K.moved (u := U) (U := U.calling g mk a) (Vm.Alike.refl U.vm) q.2.2⟩
theorem gd {cw : Cond} {ws : List Cond} (h : ∀ w ∈ ws, w ∈ TB) : GoodIn (cw :: TB) ws := fun w hw => ⟨List.mem_cons_of_mem _ (h w hw), tb_good w (h w hw)⟩
theorem gdT {ws : List Cond} (h : ∀ w ∈ ws, w ∈ TB) : GoodIn TB ws := fun w hw => ⟨h w hw, tb_good w (h w hw)⟩
/-- what is known of a method that is called -/
def MB (C : String) (y : MethodName) (b : ByteArray) (n nL : Nat) (r : Option FieldType) : Prop := Cond.instanceMethod y ∈ TB ∧ Cond.selects C y y ∈ TB ∧ Cond.initialized C ∈ TB ∧ Cond.code y b nL r ∈ TB ∧ (y.cls = C ∧ y.cls ≠ "java/lang/invoke/MethodHandle" ∧ y.cls ≠ "java/lang/invoke/VarHandle" ∧ (parseMethodDescriptor y.desc).map (fun d => d.parameters.length) = some n)
def MBS (y : MethodName) (b : ByteArray) (n nL : Nat) (r : Option FieldType) : Prop := Cond.static y ∈ TB ∧ Cond.initialized y.cls ∈ TB ∧ Cond.code y b nL r ∈ TB ∧ (y.cls ≠ "java/lang/invoke/MethodHandle" ∧ y.cls ≠ "java/lang/invoke/VarHandle" ∧ (parseMethodDescriptor y.desc).map (fun d => d.parameters.length) = some n)
section CallsQ
variable {p : Program} {l : Launch} {e : Env} {R : Room} {s : State} {m : MethodId} {args : Array Value} {below : List Frame} {meth : Method} {c : Code} {H : Heap} {locs : List Loc} {cells slots : Nat} {Q : State → Prop}
variable {cc : ByteArray} {pc nL : Nat} {ls : Array Slot} {rest st : List Value} {A : Nat → Prop} {H0 : Heap} {Y : LY} {σ : St} {own : String} {ret : Option FieldType}
theorem q_runV (M : MC p s m args meth c cc nL ret own Y) (hw : WS Y A H0 σ H locs) {C : String} {y : MethodName} {b : ByteArray} {n nL' : Nat} {r' : Option FieldType} {fr lo : Nat} {Qc : Array Value → State → Outcome → State → Prop} {As : List Value} {i ci index : Nat} {fs : St → List Value} {T : u_T} {N : Nat} (hM : CT l y (Cond.code y b nL' r') { frames := fr, cells := 0, slots := 0, locals := lo } Y (.ref (yA Y i) :: As) σ Qc) (hmb : MB C y b n nL' r') (ho : OB Y i ci fs) (hc : vwCl[ci]? = some (C, T, N)) (hml : Cond.methodLink own index y ∈ TB) (hn : As.length = n) (hls : ls.size = nL) (hst : st = As.reverse ++ .ref (yA Y i) :: rest) (hrm : (rest.map fun v => v.category).sum ≤ 8) (hR : fr + 1 ≤ R.frames ∧ 8 + (nL' + 11) + lo ≤ R.locals) (hcs : cells ≤ R.cells ∧ slots ≤ R.slots) (hdg : decode cc pc = .ok (.invokevirtual index, 3)) :
    va_Run p l e R s m args below meth c H locs cells slots 0 0 (F0 m pc ls st) rest (Qc (Value.ref (yA Y i) :: As).toArray) (AD Y) := by
  obtain ⟨hx, hb, hr, hmx, hown, hlk, hT, hK, hB⟩ := M
  obtain ⟨b1, b2, b3, b4, b5⟩ := hmb
  refine va_runV (As := As) (Ts := TB) ⟨hx, hb, hmx, hown, hT⟩ hM (cwV n hT (gdT ?_) rfl rfl rfl b5 hR) ⟨pw_blind, va_recv hK hw.1 hc ((wd_at ho.1).trans (by rw [ho.2 σ])), fun U hU hW => ⟨rfl, ⟨by rw [hU]; exact hw.1, wd_DA hw.2.1⟩, va_K.moved hW.alike hK⟩⟩ rfl hn hls hst (lv_room hrm) hdg hcs
  intro w h
  simp only [wsV, List.cons_append, List.nil_append, List.mem_cons] at h
  rcases h with rfl | rfl | rfl | rfl | rfl | h
  · exact hml
  · exact b1
  · exact b2
  · exact b3
  · exact b4
  · exact h
theorem q_runS (M : MC p s m args meth c cc nL ret own Y) (hw : WS Y A H0 σ H locs) {y : MethodName} {b : ByteArray} {n nL' : Nat} {r' : Option FieldType} {fr lo : Nat} {Qc : Array Value → State → Outcome → State → Prop} {As : List Value} {index : Nat} (hM : CT l y (Cond.code y b nL' r') { frames := fr, cells := 0, slots := 0, locals := lo } Y As σ Qc) (hmb : MBS y b n nL' r') (hml : Cond.methodLink own index y ∈ TB) (hn : As.length = n) (hls : ls.size = nL) (hst : st = As.reverse ++ rest) (hrm : (rest.map fun v => v.category).sum ≤ 8) (hR : fr + 1 ≤ R.frames ∧ 8 + (nL' + 11) + lo ≤ R.locals) (hcs : cells ≤ R.cells ∧ slots ≤ R.slots) (hdg : decode cc pc = .ok (.invokestatic index, 3)) :
    va_Run p l e R s m args below meth c H locs cells slots 0 0 (F0 m pc ls st) rest (Qc As.toArray) (AD Y) := by
  obtain ⟨hx, hb, hr, hmx, hown, hlk, hT, hK, hB⟩ := M
  obtain ⟨b1, b2, b4, b5⟩ := hmb
  refine va_runS (As := As) (Ts := TB) ⟨hx, hb, hmx, hown, hT⟩ hM ⟨callB_of n hT (gdT (fun w h => ?_)) rfl rfl rfl (hT _ b2) (hT _ hml) b5 hR, hT _ b1⟩ ⟨pw_blind, fun U hU hW => ⟨rfl, ⟨by rw [hU]; exact hw.1, wd_DA hw.2.1⟩, va_K.moved hW.alike hK⟩⟩ rfl hn hls hst (lv_room hrm) hdg hcs
  rcases List.mem_cons.mp h with rfl | h
  · exact b4
  · exact h
theorem q_goI {a : Array Value} {st : List Value} {Qp : Int32 → St → Prop} (hw : WS Y A H0 σ H locs) (hr : va_Run p l e R s m args below meth c H locs cells slots 0 0 (F0 m pc ls st) rest (QI Y Qp a) (AD Y)) (kk : ∀ (r : Int32) (σ1 : St) (H1 : Heap) (locs1 : List Loc), Qp r σ1 → WS Y A H0 σ1 H1 locs1 → W p l e R s m args below meth c H1 locs1 cells slots Q (F0 m (pc + 3) ls (.int r :: rest))) : W p l e R s m args below meth c H locs cells slots Q (F0 m pc ls st) :=
  va_calli hr hw.2.2 (fun q _ h => wd_AA hw.2.1 q h) (wd_AA hw.2.1) (fun r σ1 t H1 locs1 ht _ hq hB _ _ hS => kk r σ1 H1 locs1 hq ⟨by rw [← ht]; exact hB.1, wd_D hw.2.1, hS⟩)
theorem q_goL {a : Array Value} {st : List Value} {Qp : Int64 → St → Prop} (hw : WS Y A H0 σ H locs) (hr : va_Run p l e R s m args below meth c H locs cells slots 0 0 (F0 m pc ls st) rest (QL Y Qp a) (AD Y)) (kk : ∀ (r : Int64) (σ1 : St) (H1 : Heap) (locs1 : List Loc), Qp r σ1 → WS Y A H0 σ1 H1 locs1 → W p l e R s m args below meth c H1 locs1 cells slots Q (F0 m (pc + 3) ls (.long r :: rest))) : W p l e R s m args below meth c H locs cells slots Q (F0 m pc ls st) :=
  va_calll hr hw.2.2 (fun q _ h => wd_AA hw.2.1 q h) (wd_AA hw.2.1) (fun r σ1 t H1 locs1 ht _ hq hB _ _ hS => kk r σ1 H1 locs1 hq ⟨by rw [← ht]; exact hB.1, wd_D hw.2.1, hS⟩)
theorem q_goV {a : Array Value} {st : List Value} {Qp : St → Prop} (hw : WS Y A H0 σ H locs) (hr : va_Run p l e R s m args below meth c H locs cells slots 0 0 (F0 m pc ls st) rest (QV Y Qp a) (AD Y)) (kk : ∀ (σ1 : St) (H1 : Heap) (locs1 : List Loc), Qp σ1 → WS Y A H0 σ1 H1 locs1 → W p l e R s m args below meth c H1 locs1 cells slots Q (F0 m (pc + 3) ls rest)) : W p l e R s m args below meth c H locs cells slots Q (F0 m pc ls st) :=
  va_callv hr hw.2.2 (fun q _ h => wd_AA hw.2.1 q h) (wd_AA hw.2.1) (fun σ1 t H1 locs1 ht _ hq hB _ _ hS => kk σ1 H1 locs1 hq ⟨by rw [← ht]; exact hB.1, wd_D hw.2.1, hS⟩)
theorem q_ent {y : MethodName} {vs : List Value} {fr lo : Nat} {Qc : Array Value → State → Outcome → State → Prop} (hB : YB Y) (hy : plainName y.cls = true) (hn : (lg_sl vs).length ≤ nL)
    (body : ∀ (p : Program) (e : Env) (s : State) (m : MethodId) (below : List Frame) (meth : Method) (c : Code) (ls : Array Slot), MC p s m vs.toArray meth c cc nL ret y.cls Y → WS Y (AD Y) s.heap σ s.heap [] → lv_has ls nL (lv_args 0 vs) → W p l e { frames := fr, cells := 0, slots := 0, locals := lo } s m vs.toArray below meth c s.heap [] 0 0 (MQ below Qc vs.toArray s 0 0 (AD Y)) (F0 m 0 ls [])) :
    CT l y (Cond.code y cc nL ret) { frames := fr, cells := 0, slots := 0, locals := lo } Y vs σ Qc := by
  refine Met.ofW (cc := cc) (maxL := nL) (ret := ret) hy rfl ?_
  intro p e s m args below meth c s₁ B hml hv
  obtain ⟨rfl, ⟨hP, hD⟩, hK⟩ := hv
  have hts := atoms_spec (ws := Cond.code y cc nL ret :: TB) B.pre
  have hl := lv_entry vs (n := nL) hn
  rw [lg_entry_eq]
  exact body p e s m below meth c _ ⟨B.exec, B.bytes, B.returns, hml, findClass_of_methodNamed B.named, B.notSynchronized, fun w h => hts w (List.mem_cons_of_mem _ h), hK, hB⟩ ⟨hP, hD, va_S.rf⟩ hl
end CallsQ

def f0 (Y : LY) (t u : Nat) (σ : St) : List Value := [.ref (yA Y 1), .int (σ.1 0 1), .ref (yA Y 2), .ref (yA Y t), .ref (yA Y u), .ref (yA Y 15), .ref (yA Y 18), .ref (yA Y 23), .ref (yA Y 75), .ref (yA Y 86), .ref (yA Y 87), .ref (yA Y 91), .long σ.2.1]
def c0s (Y : LY) (t u : Nat) : Prop := ∀ σ : St, y0 Y σ = .inr (6, f0 Y t u σ)
theorem c0s_B {Y : LY} {t u : Nat} (h : c0s Y t u) : YB Y := ⟨fun σ i k v hi => by rw [h, h]; simp only [f0, up_ne (Ne.symm hi)]; rfl, fun σ v => by rw [h, h]; rfl⟩
def LYs (Y : LY) : Prop := yN Y = 108 ∧ c0s Y 3 9
theorem ob_0 {Y : LY} (hN : yN Y = 108) {t u : Nat} (h : c0s Y t u) : OB Y 0 6 (f0 Y t u) := ⟨by rw [hN]; decide, fun σ => by rw [ce, if_pos rfl]; exact h σ⟩
theorem ar_1 {Y : LY} (hN : yN Y = 108) : AR Y 2 1 200 := ⟨by rw [hN]; decide, fun _ => rfl⟩
theorem ob_2 {Y : LY} (hN : yN Y = 108) : OB Y 2 4 (fun σ => [.ref (yA Y 1), .int (σ.1 2 1), .int (σ.1 2 2), .int (σ.1 2 3), .int (σ.1 2 4), .int (σ.1 2 5)]) := ⟨by rw [hN]; decide, fun _ => rfl⟩
theorem ar_4 {Y : LY} (hN : yN Y = 108) : AR Y 0 4 5 := ⟨by rw [hN]; decide, fun _ => rfl⟩
theorem ar_5 {Y : LY} (hN : yN Y = 108) : AR Y 0 5 5 := ⟨by rw [hN]; decide, fun _ => rfl⟩
theorem ar_6 {Y : LY} (hN : yN Y = 108) : AR Y 0 6 7 := ⟨by rw [hN]; decide, fun _ => rfl⟩
theorem ar_7 {Y : LY} (hN : yN Y = 108) : AR Y 0 7 7 := ⟨by rw [hN]; decide, fun _ => rfl⟩
theorem ar_8 {Y : LY} (hN : yN Y = 108) : AR Y 1 8 100 := ⟨by rw [hN]; decide, fun _ => rfl⟩
theorem ar_10 {Y : LY} (hN : yN Y = 108) : AR Y 0 10 5 := ⟨by rw [hN]; decide, fun _ => rfl⟩
theorem ar_11 {Y : LY} (hN : yN Y = 108) : AR Y 0 11 5 := ⟨by rw [hN]; decide, fun _ => rfl⟩
theorem ar_12 {Y : LY} (hN : yN Y = 108) : AR Y 0 12 7 := ⟨by rw [hN]; decide, fun _ => rfl⟩
theorem ar_13 {Y : LY} (hN : yN Y = 108) : AR Y 0 13 7 := ⟨by rw [hN]; decide, fun _ => rfl⟩
theorem ar_14 {Y : LY} (hN : yN Y = 108) : AR Y 1 14 100 := ⟨by rw [hN]; decide, fun _ => rfl⟩
theorem ob_15 {Y : LY} (hN : yN Y = 108) : OB Y 15 0 (fun σ => [.ref (yA Y 16), .ref (yA Y 17), .ref (yA Y (σ.1 15 2).toNatClampNeg), .int (σ.1 15 3), .int (σ.1 15 4)]) := ⟨by rw [hN]; decide, fun _ => rfl⟩
theorem ar_16 {Y : LY} (hN : yN Y = 108) : AR Y 0 16 3904 := ⟨by rw [hN]; decide, fun _ => rfl⟩
theorem ar_17 {Y : LY} (hN : yN Y = 108) : AR Y 0 17 60 := ⟨by rw [hN]; decide, fun _ => rfl⟩
theorem ar_19 {Y : LY} (hN : yN Y = 108) : AR Y 0 19 5 := ⟨by rw [hN]; decide, fun _ => rfl⟩
theorem ar_20 {Y : LY} (hN : yN Y = 108) : AR Y 0 20 5 := ⟨by rw [hN]; decide, fun _ => rfl⟩
theorem ar_21 {Y : LY} (hN : yN Y = 108) : AR Y 0 21 7 := ⟨by rw [hN]; decide, fun _ => rfl⟩
theorem ar_22 {Y : LY} (hN : yN Y = 108) : AR Y 0 22 7 := ⟨by rw [hN]; decide, fun _ => rfl⟩
theorem ob_23 {Y : LY} (hN : yN Y = 108) : OB Y 23 2 (fun σ => [.ref (yA Y 24), .int (σ.1 23 1), .int (σ.1 23 2)]) := ⟨by rw [hN]; decide, fun _ => rfl⟩
theorem ar_26 {Y : LY} (hN : yN Y = 108) : AR Y 0 26 5 := ⟨by rw [hN]; decide, fun _ => rfl⟩
theorem ar_27 {Y : LY} (hN : yN Y = 108) : AR Y 0 27 5 := ⟨by rw [hN]; decide, fun _ => rfl⟩
theorem ar_28 {Y : LY} (hN : yN Y = 108) : AR Y 0 28 7 := ⟨by rw [hN]; decide, fun _ => rfl⟩
theorem ar_29 {Y : LY} (hN : yN Y = 108) : AR Y 0 29 7 := ⟨by rw [hN]; decide, fun _ => rfl⟩
theorem ar_31 {Y : LY} (hN : yN Y = 108) : AR Y 0 31 5 := ⟨by rw [hN]; decide, fun _ => rfl⟩
theorem ar_32 {Y : LY} (hN : yN Y = 108) : AR Y 0 32 5 := ⟨by rw [hN]; decide, fun _ => rfl⟩
theorem ar_33 {Y : LY} (hN : yN Y = 108) : AR Y 0 33 7 := ⟨by rw [hN]; decide, fun _ => rfl⟩
theorem ar_34 {Y : LY} (hN : yN Y = 108) : AR Y 0 34 7 := ⟨by rw [hN]; decide, fun _ => rfl⟩
theorem ar_36 {Y : LY} (hN : yN Y = 108) : AR Y 0 36 5 := ⟨by rw [hN]; decide, fun _ => rfl⟩
theorem ar_37 {Y : LY} (hN : yN Y = 108) : AR Y 0 37 5 := ⟨by rw [hN]; decide, fun _ => rfl⟩
theorem ar_38 {Y : LY} (hN : yN Y = 108) : AR Y 0 38 7 := ⟨by rw [hN]; decide, fun _ => rfl⟩
theorem ar_39 {Y : LY} (hN : yN Y = 108) : AR Y 0 39 7 := ⟨by rw [hN]; decide, fun _ => rfl⟩
theorem ar_41 {Y : LY} (hN : yN Y = 108) : AR Y 0 41 5 := ⟨by rw [hN]; decide, fun _ => rfl⟩
theorem ar_42 {Y : LY} (hN : yN Y = 108) : AR Y 0 42 5 := ⟨by rw [hN]; decide, fun _ => rfl⟩
theorem ar_43 {Y : LY} (hN : yN Y = 108) : AR Y 0 43 7 := ⟨by rw [hN]; decide, fun _ => rfl⟩
theorem ar_44 {Y : LY} (hN : yN Y = 108) : AR Y 0 44 7 := ⟨by rw [hN]; decide, fun _ => rfl⟩
theorem ar_46 {Y : LY} (hN : yN Y = 108) : AR Y 0 46 5 := ⟨by rw [hN]; decide, fun _ => rfl⟩
theorem ar_47 {Y : LY} (hN : yN Y = 108) : AR Y 0 47 5 := ⟨by rw [hN]; decide, fun _ => rfl⟩
theorem ar_48 {Y : LY} (hN : yN Y = 108) : AR Y 0 48 7 := ⟨by rw [hN]; decide, fun _ => rfl⟩
theorem ar_49 {Y : LY} (hN : yN Y = 108) : AR Y 0 49 7 := ⟨by rw [hN]; decide, fun _ => rfl⟩
theorem ar_51 {Y : LY} (hN : yN Y = 108) : AR Y 0 51 5 := ⟨by rw [hN]; decide, fun _ => rfl⟩
theorem ar_52 {Y : LY} (hN : yN Y = 108) : AR Y 0 52 5 := ⟨by rw [hN]; decide, fun _ => rfl⟩
theorem ar_53 {Y : LY} (hN : yN Y = 108) : AR Y 0 53 7 := ⟨by rw [hN]; decide, fun _ => rfl⟩
theorem ar_54 {Y : LY} (hN : yN Y = 108) : AR Y 0 54 7 := ⟨by rw [hN]; decide, fun _ => rfl⟩
theorem ar_56 {Y : LY} (hN : yN Y = 108) : AR Y 0 56 5 := ⟨by rw [hN]; decide, fun _ => rfl⟩
theorem ar_57 {Y : LY} (hN : yN Y = 108) : AR Y 0 57 5 := ⟨by rw [hN]; decide, fun _ => rfl⟩
theorem ar_58 {Y : LY} (hN : yN Y = 108) : AR Y 0 58 7 := ⟨by rw [hN]; decide, fun _ => rfl⟩
theorem ar_59 {Y : LY} (hN : yN Y = 108) : AR Y 0 59 7 := ⟨by rw [hN]; decide, fun _ => rfl⟩
theorem ar_61 {Y : LY} (hN : yN Y = 108) : AR Y 0 61 5 := ⟨by rw [hN]; decide, fun _ => rfl⟩
theorem ar_62 {Y : LY} (hN : yN Y = 108) : AR Y 0 62 5 := ⟨by rw [hN]; decide, fun _ => rfl⟩
theorem ar_63 {Y : LY} (hN : yN Y = 108) : AR Y 0 63 7 := ⟨by rw [hN]; decide, fun _ => rfl⟩
theorem ar_64 {Y : LY} (hN : yN Y = 108) : AR Y 0 64 7 := ⟨by rw [hN]; decide, fun _ => rfl⟩
theorem ar_66 {Y : LY} (hN : yN Y = 108) : AR Y 0 66 5 := ⟨by rw [hN]; decide, fun _ => rfl⟩
theorem ar_67 {Y : LY} (hN : yN Y = 108) : AR Y 0 67 5 := ⟨by rw [hN]; decide, fun _ => rfl⟩
theorem ar_68 {Y : LY} (hN : yN Y = 108) : AR Y 0 68 7 := ⟨by rw [hN]; decide, fun _ => rfl⟩
theorem ar_69 {Y : LY} (hN : yN Y = 108) : AR Y 0 69 7 := ⟨by rw [hN]; decide, fun _ => rfl⟩
theorem ar_71 {Y : LY} (hN : yN Y = 108) : AR Y 0 71 5 := ⟨by rw [hN]; decide, fun _ => rfl⟩
theorem ar_72 {Y : LY} (hN : yN Y = 108) : AR Y 0 72 5 := ⟨by rw [hN]; decide, fun _ => rfl⟩
theorem ar_73 {Y : LY} (hN : yN Y = 108) : AR Y 0 73 7 := ⟨by rw [hN]; decide, fun _ => rfl⟩
theorem ar_74 {Y : LY} (hN : yN Y = 108) : AR Y 0 74 7 := ⟨by rw [hN]; decide, fun _ => rfl⟩
theorem ar_77 {Y : LY} (hN : yN Y = 108) : AR Y 0 77 5 := ⟨by rw [hN]; decide, fun _ => rfl⟩
theorem ar_78 {Y : LY} (hN : yN Y = 108) : AR Y 0 78 5 := ⟨by rw [hN]; decide, fun _ => rfl⟩
theorem ar_79 {Y : LY} (hN : yN Y = 108) : AR Y 0 79 7 := ⟨by rw [hN]; decide, fun _ => rfl⟩
theorem ar_80 {Y : LY} (hN : yN Y = 108) : AR Y 0 80 7 := ⟨by rw [hN]; decide, fun _ => rfl⟩
theorem ar_82 {Y : LY} (hN : yN Y = 108) : AR Y 0 82 5 := ⟨by rw [hN]; decide, fun _ => rfl⟩
theorem ar_83 {Y : LY} (hN : yN Y = 108) : AR Y 0 83 5 := ⟨by rw [hN]; decide, fun _ => rfl⟩
theorem ar_84 {Y : LY} (hN : yN Y = 108) : AR Y 0 84 7 := ⟨by rw [hN]; decide, fun _ => rfl⟩
theorem ar_85 {Y : LY} (hN : yN Y = 108) : AR Y 0 85 7 := ⟨by rw [hN]; decide, fun _ => rfl⟩
theorem ar_86 {Y : LY} (hN : yN Y = 108) : AR Y 1 86 2 := ⟨by rw [hN]; decide, fun _ => rfl⟩
theorem ob_87 {Y : LY} (hN : yN Y = 108) : OB Y 87 1 (fun σ => [.ref (yA Y 88), .ref (yA Y 89), .ref (yA Y 90), .int (σ.1 87 3)]) := ⟨by rw [hN]; decide, fun _ => rfl⟩
theorem ar_88 {Y : LY} (hN : yN Y = 108) : AR Y 0 88 6 := ⟨by rw [hN]; decide, fun _ => rfl⟩
theorem ar_89 {Y : LY} (hN : yN Y = 108) : AR Y 0 89 6 := ⟨by rw [hN]; decide, fun _ => rfl⟩
theorem ar_90 {Y : LY} (hN : yN Y = 108) : AR Y 0 90 6 := ⟨by rw [hN]; decide, fun _ => rfl⟩
theorem ar_91 {Y : LY} (hN : yN Y = 108) : AR Y 0 91 5 := ⟨by rw [hN]; decide, fun _ => rfl⟩
theorem ob_92 {Y : LY} (hN : yN Y = 108) : OB Y 92 7 (fun σ => [.int (σ.1 92 0), .long σ.2.2, .ref (yA Y 93), .int (σ.1 92 3), .int (σ.1 92 4), .int (σ.1 92 5), .int (σ.1 92 6), .int (σ.1 92 7), .int (σ.1 92 8), .ref (yA Y 94), .int (σ.1 92 10), .ref (yA Y 95), .ref (yA Y 96), .ref (yA Y 97), .ref (yA Y 98), .ref (yA Y 99), .ref (yA Y 100), .ref (yA Y 101), .ref (yA Y 102), .ref (yA Y 103), .int (σ.1 92 20), .ref (yA Y 104), .ref (yA Y 105), .ref (yA Y 106), .int (σ.1 92 24), .ref (yA Y 107)]) := ⟨by rw [hN]; decide, fun _ => rfl⟩
theorem ar_93 {Y : LY} (hN : yN Y = 108) : AR Y 0 93 200 := ⟨by rw [hN]; decide, fun _ => rfl⟩
theorem ar_94 {Y : LY} (hN : yN Y = 108) : AR Y 0 94 8 := ⟨by rw [hN]; decide, fun _ => rfl⟩
theorem ar_95 {Y : LY} (hN : yN Y = 108) : AR Y 0 95 5 := ⟨by rw [hN]; decide, fun _ => rfl⟩
theorem ar_96 {Y : LY} (hN : yN Y = 108) : AR Y 0 96 10 := ⟨by rw [hN]; decide, fun _ => rfl⟩
theorem ar_97 {Y : LY} (hN : yN Y = 108) : AR Y 0 97 7 := ⟨by rw [hN]; decide, fun _ => rfl⟩
theorem ar_98 {Y : LY} (hN : yN Y = 108) : AR Y 0 98 14 := ⟨by rw [hN]; decide, fun _ => rfl⟩
theorem ar_99 {Y : LY} (hN : yN Y = 108) : AR Y 1 99 200 := ⟨by rw [hN]; decide, fun _ => rfl⟩
theorem ar_100 {Y : LY} (hN : yN Y = 108) : AR Y 0 100 27 := ⟨by rw [hN]; decide, fun _ => rfl⟩
theorem ar_101 {Y : LY} (hN : yN Y = 108) : AR Y 0 101 54 := ⟨by rw [hN]; decide, fun _ => rfl⟩
theorem ar_102 {Y : LY} (hN : yN Y = 108) : AR Y 1 102 2 := ⟨by rw [hN]; decide, fun _ => rfl⟩
theorem ar_103 {Y : LY} (hN : yN Y = 108) : AR Y 0 103 270 := ⟨by rw [hN]; decide, fun _ => rfl⟩
theorem ar_104 {Y : LY} (hN : yN Y = 108) : AR Y 0 104 6 := ⟨by rw [hN]; decide, fun _ => rfl⟩
theorem ar_105 {Y : LY} (hN : yN Y = 108) : AR Y 0 105 6 := ⟨by rw [hN]; decide, fun _ => rfl⟩
theorem ar_106 {Y : LY} (hN : yN Y = 108) : AR Y 0 106 6 := ⟨by rw [hN]; decide, fun _ => rfl⟩
theorem ar_107 {Y : LY} (hN : yN Y = 108) : AR Y 0 107 3904 := ⟨by rw [hN]; decide, fun _ => rfl⟩
def STL : List Nat := [18, 25, 30, 35, 40, 45, 50, 55, 60, 65, 70, 76, 81]
theorem st_kd : ∀ h ∈ STL, kd h = (7, 0) ∧ kd (h + 1) = (1, 5) ∧ kd (h + 2) = (1, 5) ∧ kd (h + 3) = (1, 7) ∧ kd (h + 4) = (1, 7) ∧ h ≠ 0 ∧ h + 4 < 108 := by decide
def SH (Y : LY) (h : Nat) : Prop := h ∈ STL ∧ h + 4 < yN Y
theorem sh_ob {Y : LY} {h : Nat} (hh : SH Y h) : OB Y h 5 (fun σ => [.ref (yA Y (h + 1)), .ref (yA Y (h + 2)), .ref (yA Y (h + 3)), .ref (yA Y (h + 4)), .int (σ.1 h 4), .int (σ.1 h 5), .int (σ.1 h 6)]) := ⟨by have := hh.2; omega, fun σ => by
  obtain ⟨a, -, -, -, -, b, -⟩ := st_kd h hh.1
  rw [ce, if_neg b, a]; rfl⟩
theorem sh_a1 {Y : LY} {h : Nat} (hh : SH Y h) : AR Y 0 (h + 1) 5 := ⟨by have := hh.2; omega, fun σ => by
  obtain ⟨-, a, -, -, -, -, -⟩ := st_kd h hh.1
  rw [ce, if_neg (by omega), a]; rfl⟩
theorem sh_a2 {Y : LY} {h : Nat} (hh : SH Y h) : AR Y 0 (h + 2) 5 := ⟨by have := hh.2; omega, fun σ => by
  obtain ⟨-, -, a, -, -, -, -⟩ := st_kd h hh.1
  rw [ce, if_neg (by omega), a]; rfl⟩
theorem sh_a3 {Y : LY} {h : Nat} (hh : SH Y h) : AR Y 0 (h + 3) 7 := ⟨by have := hh.2; omega, fun σ => by
  obtain ⟨-, -, -, a, -, -, -⟩ := st_kd h hh.1
  rw [ce, if_neg (by omega), a]; rfl⟩
theorem sh_a4 {Y : LY} {h : Nat} (hh : SH Y h) : AR Y 0 (h + 4) 7 := ⟨by have := hh.2; omega, fun σ => by
  obtain ⟨-, -, -, -, a, -, -⟩ := st_kd h hh.1
  rw [ce, if_neg (by omega), a]; rfl⟩
theorem sh_18 {Y : LY} (hN : yN Y = 108) : SH Y 18 := ⟨by decide, by rw [hN]; decide⟩
theorem sh_past {Y : LY} (hN : yN Y = 108) {x : Int32} (h : vp_in x 10) : SH Y (24 + 1 + 5 * x.toNatClampNeg) := by
  have h1 : x.toNatClampNeg < 10 := Nat.lt_of_not_le (fun c => h (Or.inr c))
  generalize x.toNatClampNeg = j at h1
  have : (24 + 1 + 5 * j) ∈ STL := (by decide : ∀ j, j < 10 → (24 + 1 + 5 * j) ∈ STL) j h1
  exact ⟨this, by rw [hN]; omega⟩
theorem sh_imag {Y : LY} (hN : yN Y = 108) {x : Int32} (h : vp_in x 2) : SH Y (75 + 1 + 5 * x.toNatClampNeg) := by
  have h1 : x.toNatClampNeg < 2 := Nat.lt_of_not_le (fun c => h (Or.inr c))
  generalize x.toNatClampNeg = j at h1
  have : (75 + 1 + 5 * j) ∈ STL := (by decide : ∀ j, j < 2 → (75 + 1 + 5 * j) ∈ STL) j h1
  exact ⟨this, by rw [hN]; omega⟩
def PH (Y : LY) (h : Nat) : Prop := h ∈ [3, 9] ∧ h + 5 < yN Y
theorem pa_kd : ∀ h ∈ [3, 9], kd h = (5, 0) ∧ kd (h + 1) = (1, 5) ∧ kd (h + 2) = (1, 5) ∧ kd (h + 3) = (1, 7) ∧ kd (h + 4) = (1, 7) ∧ kd (h + 5) = (2, 100) ∧ h ≠ 0 := by decide
theorem ph_ob {Y : LY} {h : Nat} (hh : PH Y h) : OB Y h 3 (fun σ => [.ref (yA Y (h + 1)), .ref (yA Y (h + 2)), .ref (yA Y (h + 3)), .ref (yA Y (h + 4)), .ref (yA Y (h + 5)), .int (σ.1 h 5), .int (σ.1 h 6), .int (σ.1 h 7), .int (σ.1 h 8), .int (σ.1 h 9), .int (σ.1 h 10)]) := ⟨by have := hh.2; omega, fun σ => by
  obtain ⟨a, -, -, -, -, -, b⟩ := pa_kd h hh.1
  rw [ce, if_neg b, a]; rfl⟩
theorem ph_a1 {Y : LY} {h : Nat} (hh : PH Y h) : AR Y 0 (h + 1) 5 := ⟨by have := hh.2; omega, fun σ => by
  obtain ⟨-, a, -, -, -, -, -⟩ := pa_kd h hh.1
  rw [ce, if_neg (by omega), a]; rfl⟩
theorem ph_a2 {Y : LY} {h : Nat} (hh : PH Y h) : AR Y 0 (h + 2) 5 := ⟨by have := hh.2; omega, fun σ => by
  obtain ⟨-, -, a, -, -, -, -⟩ := pa_kd h hh.1
  rw [ce, if_neg (by omega), a]; rfl⟩
theorem ph_a3 {Y : LY} {h : Nat} (hh : PH Y h) : AR Y 0 (h + 3) 7 := ⟨by have := hh.2; omega, fun σ => by
  obtain ⟨-, -, -, a, -, -, -⟩ := pa_kd h hh.1
  rw [ce, if_neg (by omega), a]; rfl⟩
theorem ph_a4 {Y : LY} {h : Nat} (hh : PH Y h) : AR Y 0 (h + 4) 7 := ⟨by have := hh.2; omega, fun σ => by
  obtain ⟨-, -, -, -, a, -, -⟩ := pa_kd h hh.1
  rw [ce, if_neg (by omega), a]; rfl⟩
theorem ph_a5 {Y : LY} {h : Nat} (hh : PH Y h) : AR Y 1 (h + 5) 100 := ⟨by have := hh.2; omega, fun σ => by
  obtain ⟨-, -, -, -, -, a, -⟩ := pa_kd h hh.1
  rw [ce, if_neg (by omega), a]; rfl⟩
theorem ph_3 {Y : LY} (hN : yN Y = 108) : PH Y 3 := ⟨by decide, by rw [hN]; decide⟩
theorem ph_9 {Y : LY} (hN : yN Y = 108) : PH Y 9 := ⟨by decide, by rw [hN]; decide⟩
theorem one_12 {Y : LY} (hN : yN Y = 108) : ∀ j, j < yN Y → j ≠ 92 → (kd j).1 ≠ 12 := by rw [hN]; decide
theorem sw_out {x : Int32} (n : Nat) (hn : n < 100) (h : ∀ k : Nat, k ≤ n → ¬ x = Int32.ofNat k) : x.toInt < 0 ∨ (n : Int) < x.toInt := by
  rcases Int.lt_or_le x.toInt 0 with a | a
  · exact Or.inl a
  · rcases Int.lt_or_le (n : Int) x.toInt with b | b
    · exact Or.inr b
    · exfalso
      refine h x.toInt.toNat (by omega) (Int32.toInt_inj.mp ?_)
      rw [show Int32.ofNat x.toInt.toNat = nI x.toInt.toNat from rfl, nI_toInt (by omega)]
      omega
theorem q_putD {p : Program} {l : Launch} {e : Env} {R : Room} {s : State} {m : MethodId} {args : Array Value} {below : List Frame} {meth : Method} {c : Code} {H : Heap} {locs : List Loc} {cells slots : Nat} {Q : State → Prop} {cc : ByteArray} {pc nL : Nat} {ls : Array Slot} {rest : List Value} {A : Nat → Prop} {H0 : Heap} {Y : LY} {σ : St} {own : String} {ret : Option FieldType} (M : MC p s m args meth c cc nL ret own Y) (hw : WS Y A H0 σ H locs) (hN : yN Y = 108) {pq : Nat} (hp : PH Y pq) {index : Nat} (hl : Cond.fieldLink own index (TX0 2).1 (TX0 2).2.1 (TX0 2).2.2.1 ∈ TB) (hdg : decode cc pc = .ok (.putfield index, 3))
    (kk : ∀ (σ1 : St) (H1 : Heap) (locs1 : List Loc), σ1 = up σ 15 2 (nI pq) → WS Y A H0 σ1 H1 locs1 → W p l e R s m args below meth c H1 locs1 cells slots Q (F0 m (pc + 3) ls rest)) : W p l e R s m args below meth c H locs cells slots Q (F0 m pc ls (.ref (yA Y pq) :: .ref (yA Y 15) :: rest)) := by
  obtain ⟨hx, hb, hr, hml, hown, hlk, hT, hK, hB⟩ := M
  have ho := ob_15 hN
  refine va_put (v := .ref (yA Y pq)) hx hb hT inq_0 tyX0 tyX0_ok nmX0 hown hK hw.1 hw.2.1 hw.2.2 15 ((wd_at ho.1).trans (by rw [ho.2 σ])) rfl 2 (by decide) (hT _ hl) (fun _ h9 => h9) rfl (tyX0_ok 2 (by decide)) rfl rfl (Nat.le_of_ble_eq_true rfl) hdg (fun H1 locs1 hP hD hS => ?_)
  have hpc : (nI pq).toNatClampNeg = pq := nI_clamp (by have := hp.1; simp at this; omega)
  have he : wd Y (up σ 15 2 (nI pq)) = (wd Y σ).set 15 (yA Y 15, .inr (0, [Value.ref (yA Y 16), Value.ref (yA Y 17), Value.ref (yA Y (σ.1 15 2).toNatClampNeg), Value.int (σ.1 15 3), Value.int (σ.1 15 4)].set 2 (.ref (yA Y pq)))) := by
    rw [wd_set (σ := σ) ho.1 (fun j _ hj => ce_up_ne hB hj), ho.2]
    simp [up, upd, hpc]
  rw [← he] at hP hD
  exact kk _ H1 locs1 rfl ⟨hP, hD, hS⟩
theorem nar01 {v : Int32} (h : v = 0 ∨ v = 1) : narrow .boolean (.int v) = .int v := by rcases h with rfl | rfl <;> decide
end
section
section
variable {p : Program} {l : Launch} {e : Env} {s : State} {m : MethodId} {args : Array Value} {below : List Frame} {meth : Method} {c : Code} {Y : LY}
theorem dX0_begin_0 : decode cX0_begin 0 = .ok (.aload_n 0, 1) := by decide +kernel
theorem dX0_begin_1 : decode cX0_begin 1 = .ok (.aload_n 1, 1) := by decide +kernel
theorem dX0_begin_2 : decode cX0_begin 2 = .ok (.putfield 22, 3) := by decide +kernel
theorem dX0_begin_5 : decode cX0_begin 5 = .ok (.aload_n 0, 1) := by decide +kernel
theorem dX0_begin_6 : decode cX0_begin 6 = .ok (.aload_n 1, 1) := by decide +kernel
theorem dX0_begin_7 : decode cX0_begin 7 = .ok (.getfield 26, 3) := by decide +kernel
theorem dX0_begin_10 : decode cX0_begin 10 = .ok (.putfield 32, 3) := by decide +kernel
theorem dX0_begin_13 : decode cX0_begin 13 = .ok (.aload_n 0, 1) := by decide +kernel
theorem dX0_begin_14 : decode cX0_begin 14 = .ok (.iconst 0, 1) := by decide +kernel
theorem dX0_begin_15 : decode cX0_begin 15 = .ok (.putfield 33, 3) := by decide +kernel
theorem dX0_begin_18 : decode cX0_begin 18 = .ok (.return_, 1) := by decide +kernel
def wX0_begin (pq : Nat) (σ : St) (Q : St → Prop) : Prop :=
  (∀ σ1 : St, σ1 = up σ 15 2 (nI pq) → (∀ σ2 : St, σ2 = up σ1 15 3 (σ1.1 pq 8) → (∀ σ3 : St, σ3 = up σ2 15 4 0 → Q σ3)))
set_option maxHeartbeats 4000000 in
set_option maxRecDepth 100000 in
theorem tX0_begin_E {pq : Nat} {Q : St → Prop} (M : MC p s m args meth c cX0_begin 2 none RX0 Y) (hN : yN Y = 108) (hh_pq : PH Y pq)  (σ : St) (H : Heap) (locs : List Loc) (ls : Array Slot) (hw : WS Y (AD Y) s.heap σ H locs) (hl : lv_has ls 2 [(0, .ref (yA Y 15)), (1, .ref (yA Y pq))]) (h : wX0_begin pq σ Q) : W p l e { frames := 0, cells := 0, slots := 0, locals := 0 } s m args below meth c H locs 0 0 (MQ below (QV Y Q) args s 0 0 (AD Y)) (F0 m 0 ls []) := by
  obtain ⟨hx, hb, hr, hml, hown, hlk, hT, hK, hB⟩ := id M
  unfold wX0_begin at h
  refine lv_aload_n hx hb dX0_begin_0 rfl (lv_at hl 0 rfl) ?_
  refine lv_aload_n hx hb dX0_begin_1 rfl (lv_at hl 1 rfl) ?_
  refine q_putD M hw hN hh_pq tw_170 dX0_begin_2 (fun σ1 H locs es hw => ?_)
  have h := h σ1 es
  refine lv_aload_n hx hb dX0_begin_5 rfl (lv_at hl 0 rfl) ?_
  refine lv_aload_n hx hb dX0_begin_6 rfl (lv_at hl 1 rfl) ?_
  refine q_get (v := .int (σ1.1 pq 8)) M hw (ph_ob hh_pq) rfl inq_3 8 (by decide) tw_126 rfl dX0_begin_7 ?_
  refine q_put (v := (σ1.1 pq 8)) M hw (ob_15 hN) rfl inq_0 tyX0 tyX0_ok nmX0 3 (by decide) tw_171 rfl rfl rfl (Nat.le_of_ble_eq_true rfl) (by simp [up, upd, f0]) dX0_begin_10 (fun σ2 H locs es hw => ?_)
  have h := h σ2 es
  refine lv_aload_n hx hb dX0_begin_13 rfl (lv_at hl 0 rfl) ?_
  refine lv_iconst (v := 0) hx hb dX0_begin_14 (by decide) ?_
  refine q_put (v := 0) M hw (ob_15 hN) rfl inq_0 tyX0 tyX0_ok nmX0 4 (by decide) tw_172 rfl (by decide) rfl (Nat.le_of_ble_eq_true rfl) (by simp [up, upd, f0]) dX0_begin_15 (fun σ3 H locs es hw => ?_)
  have h := h σ3 es
  exact q_vret M hw h dX0_begin_18
set_option maxRecDepth 100000 in
theorem ctX0_begin (l : Launch) {Y : LY} {pq : Nat} (hB : YB Y) (hN : yN Y = 108) (hh_pq : PH Y pq) (σ : St) (Q : St → Prop) (h : wX0_begin pq σ Q) : CT l yX0_begin (Cond.code yX0_begin cX0_begin 2 none) { frames := 0, cells := 0, slots := 0, locals := 0 } Y [.ref (yA Y 15), .ref (yA Y pq)] σ (QV Y Q) :=
  q_ent hB (by decide +kernel) (Nat.le_of_ble_eq_true rfl) (fun p e s m below meth c ls M hw hl => tX0_begin_E M hN hh_pq σ _ _ ls hw hl h)
theorem mbX0_begin : MB RX0 yX0_begin cX0_begin 1 2 none := ⟨tw_165, tw_166, tw_52, tw_167, by decide +kernel⟩
end
section
variable {p : Program} {l : Launch} {e : Env} {s : State} {m : MethodId} {args : Array Value} {below : List Frame} {meth : Method} {c : Code} {Y : LY}
theorem dX0_nightsWith_0 : decode cX0_nightsWith 0 = .ok (.aload_n 0, 1) := by decide +kernel
theorem dX0_nightsWith_1 : decode cX0_nightsWith 1 = .ok (.getfield 15, 3) := by decide +kernel
theorem dX0_nightsWith_4 : decode cX0_nightsWith 4 = .ok (.iload_n 1, 1) := by decide +kernel
theorem dX0_nightsWith_5 : decode cX0_nightsWith 5 = .ok (.iaload, 1) := by decide +kernel
theorem dX0_nightsWith_6 : decode cX0_nightsWith 6 = .ok (.ifCond .eq 13, 3) := by decide +kernel
theorem dX0_nightsWith_9 : decode cX0_nightsWith 9 = .ok (.aload_n 0, 1) := by decide +kernel
theorem dX0_nightsWith_10 : decode cX0_nightsWith 10 = .ok (.getfield 15, 3) := by decide +kernel
theorem dX0_nightsWith_13 : decode cX0_nightsWith 13 = .ok (.iload_n 1, 1) := by decide +kernel
theorem dX0_nightsWith_14 : decode cX0_nightsWith 14 = .ok (.iaload, 1) := by decide +kernel
theorem dX0_nightsWith_15 : decode cX0_nightsWith 15 = .ok (.iload_n 2, 1) := by decide +kernel
theorem dX0_nightsWith_16 : decode cX0_nightsWith 16 = .ok (.if_icmp .le 7, 3) := by decide +kernel
theorem dX0_nightsWith_19 : decode cX0_nightsWith 19 = .ok (.sipush 1000, 3) := by decide +kernel
theorem dX0_nightsWith_22 : decode cX0_nightsWith 22 = .ok (.ireturn, 1) := by decide +kernel
theorem dX0_nightsWith_23 : decode cX0_nightsWith 23 = .ok (.aload_n 0, 1) := by decide +kernel
theorem dX0_nightsWith_24 : decode cX0_nightsWith 24 = .ok (.getfield 11, 3) := by decide +kernel
theorem dX0_nightsWith_27 : decode cX0_nightsWith 27 = .ok (.iload_n 1, 1) := by decide +kernel
theorem dX0_nightsWith_28 : decode cX0_nightsWith 28 = .ok (.iconst 1, 1) := by decide +kernel
theorem dX0_nightsWith_29 : decode cX0_nightsWith 29 = .ok (.iadd, 1) := by decide +kernel
theorem dX0_nightsWith_30 : decode cX0_nightsWith 30 = .ok (.bipush 64, 2) := by decide +kernel
theorem dX0_nightsWith_32 : decode cX0_nightsWith 32 = .ok (.imul, 1) := by decide +kernel
theorem dX0_nightsWith_33 : decode cX0_nightsWith 33 = .ok (.iload_n 2, 1) := by decide +kernel
theorem dX0_nightsWith_34 : decode cX0_nightsWith 34 = .ok (.iadd, 1) := by decide +kernel
theorem dX0_nightsWith_35 : decode cX0_nightsWith 35 = .ok (.aload_n 0, 1) := by decide +kernel
theorem dX0_nightsWith_36 : decode cX0_nightsWith 36 = .ok (.getfield 15, 3) := by decide +kernel
theorem dX0_nightsWith_39 : decode cX0_nightsWith 39 = .ok (.iload_n 1, 1) := by decide +kernel
theorem dX0_nightsWith_40 : decode cX0_nightsWith 40 = .ok (.iaload, 1) := by decide +kernel
theorem dX0_nightsWith_41 : decode cX0_nightsWith 41 = .ok (.isub, 1) := by decide +kernel
theorem dX0_nightsWith_42 : decode cX0_nightsWith 42 = .ok (.iaload, 1) := by decide +kernel
theorem dX0_nightsWith_43 : decode cX0_nightsWith 43 = .ok (.iconst 1, 1) := by decide +kernel
theorem dX0_nightsWith_44 : decode cX0_nightsWith 44 = .ok (.iadd, 1) := by decide +kernel
theorem dX0_nightsWith_45 : decode cX0_nightsWith 45 = .ok (.ireturn, 1) := by decide +kernel
def wX0_nightsWith (a0 : Int32) (a1 : Int32) (σ : St) (Q : Int32 → St → Prop) : Prop :=
  (vp_in a0 60 ∧ (((σ.1 17 a0.toNatClampNeg) = 0 → Q 1000 σ) ∧ (¬ (σ.1 17 a0.toNatClampNeg) = 0 → (vp_in a0 60 ∧ (((σ.1 17 a0.toNatClampNeg) ≤ a1 → (vp_in a0 60 ∧ (vp_in ((((a0 + 1) * 64) + a1) - (σ.1 17 a0.toNatClampNeg)) 3904 ∧ Q ((σ.1 16 ((((a0 + 1) * 64) + a1) - (σ.1 17 a0.toNatClampNeg)).toNatClampNeg) + 1) σ))) ∧ (¬ (σ.1 17 a0.toNatClampNeg) ≤ a1 → Q 1000 σ))))))
set_option maxHeartbeats 4000000 in
set_option maxRecDepth 100000 in
theorem tX0_nightsWith_E {Q : Int32 → St → Prop} (M : MC p s m args meth c cX0_nightsWith 3 (some .int) RX0 Y) (hN : yN Y = 108) (a0 : Int32) (a1 : Int32) (σ : St) (H : Heap) (locs : List Loc) (ls : Array Slot) (hw : WS Y (AD Y) s.heap σ H locs) (hl : lv_has ls 3 [(0, .ref (yA Y 15)), (1, .int a0), (2, .int a1)]) (h : wX0_nightsWith a0 a1 σ Q) : W p l e { frames := 0, cells := 0, slots := 0, locals := 0 } s m args below meth c H locs 0 0 (MQ below (QI Y Q) args s 0 0 (AD Y)) (F0 m 0 ls []) := by
  obtain ⟨hx, hb, hr, hml, hown, hlk, hT, hK, hB⟩ := id M
  unfold wX0_nightsWith at h
  refine lv_aload_n hx hb dX0_nightsWith_0 rfl (lv_at hl 0 rfl) ?_
  refine q_get (v := .ref (yA Y 17)) M hw (ob_15 hN) rfl inq_0 1 (by decide) tw_169 rfl dX0_nightsWith_1 ?_
  refine lv_iload_n hx hb dX0_nightsWith_4 rfl (lv_at hl 1 rfl) ?_
  have c1 := h.1
  have h := h.2
  refine q_ild M hw (ar_17 hN) c1 dX0_nightsWith_5 ?_
  refine lv_if_eq (tgt := 19) hx hb dX0_nightsWith_6 (by decide) (fun c2 => ?_) (fun c2 => ?_)
  · have h := h.1 c2
    refine lv_sipush (v := 1000) hx hb dX0_nightsWith_19 (by decide) ?_
    exact q_iret M hw h dX0_nightsWith_22
  · have h := h.2 c2
    refine lv_aload_n hx hb dX0_nightsWith_9 rfl (lv_at hl 0 rfl) ?_
    refine q_get (v := .ref (yA Y 17)) M hw (ob_15 hN) rfl inq_0 1 (by decide) tw_169 rfl dX0_nightsWith_10 ?_
    refine lv_iload_n hx hb dX0_nightsWith_13 rfl (lv_at hl 1 rfl) ?_
    have c3 := h.1
    have h := h.2
    refine q_ild M hw (ar_17 hN) c3 dX0_nightsWith_14 ?_
    refine lv_iload_n hx hb dX0_nightsWith_15 rfl (lv_at hl 2 rfl) ?_
    refine lv_icmp_le (tgt := 23) hx hb dX0_nightsWith_16 (by decide) (fun c4 => ?_) (fun c4 => ?_)
    · have h := h.1 c4
      refine lv_aload_n hx hb dX0_nightsWith_23 rfl (lv_at hl 0 rfl) ?_
      refine q_get (v := .ref (yA Y 16)) M hw (ob_15 hN) rfl inq_0 0 (by decide) tw_168 rfl dX0_nightsWith_24 ?_
      refine lv_iload_n hx hb dX0_nightsWith_27 rfl (lv_at hl 1 rfl) ?_
      refine lv_iconst (v := 1) hx hb dX0_nightsWith_28 (by decide) ?_
      refine lv_iadd hx hb dX0_nightsWith_29 ?_
      refine lv_bipush (v := 64) hx hb dX0_nightsWith_30 (by decide) ?_
      refine lv_imul hx hb dX0_nightsWith_32 ?_
      refine lv_iload_n hx hb dX0_nightsWith_33 rfl (lv_at hl 2 rfl) ?_
      refine lv_iadd hx hb dX0_nightsWith_34 ?_
      refine lv_aload_n hx hb dX0_nightsWith_35 rfl (lv_at hl 0 rfl) ?_
      refine q_get (v := .ref (yA Y 17)) M hw (ob_15 hN) rfl inq_0 1 (by decide) tw_169 rfl dX0_nightsWith_36 ?_
      refine lv_iload_n hx hb dX0_nightsWith_39 rfl (lv_at hl 1 rfl) ?_
      have c5 := h.1
      have h := h.2
      refine q_ild M hw (ar_17 hN) c5 dX0_nightsWith_40 ?_
      refine lv_isub hx hb dX0_nightsWith_41 ?_
      have c6 := h.1
      have h := h.2
      refine q_ild M hw (ar_16 hN) c6 dX0_nightsWith_42 ?_
      refine lv_iconst (v := 1) hx hb dX0_nightsWith_43 (by decide) ?_
      refine lv_iadd hx hb dX0_nightsWith_44 ?_
      exact q_iret M hw h dX0_nightsWith_45
    · have h := h.2 c4
      refine lv_sipush (v := 1000) hx hb dX0_nightsWith_19 (by decide) ?_
      exact q_iret M hw h dX0_nightsWith_22
set_option maxRecDepth 100000 in
theorem ctX0_nightsWith (l : Launch) {Y : LY} (hB : YB Y) (hN : yN Y = 108) (a0 : Int32) (a1 : Int32) (σ : St) (Q : Int32 → St → Prop) (h : wX0_nightsWith a0 a1 σ Q) : CT l yX0_nightsWith (Cond.code yX0_nightsWith cX0_nightsWith 3 (some .int)) { frames := 0, cells := 0, slots := 0, locals := 0 } Y [.ref (yA Y 15), .int a0, .int a1] σ (QI Y Q) :=
  q_ent hB (by decide +kernel) (Nat.le_of_ble_eq_true rfl) (fun p e s m below meth c ls M hw hl => tX0_nightsWith_E M hN a0 a1 σ _ _ ls hw hl h)
theorem mbX0_nightsWith : MB RX0 yX0_nightsWith cX0_nightsWith 2 3 (some .int) := ⟨tw_514, tw_19, tw_52, tw_515, by decide +kernel⟩
end
section
variable {p : Program} {l : Launch} {e : Env} {s : State} {m : MethodId} {args : Array Value} {below : List Frame} {meth : Method} {c : Code} {Y : LY}
theorem dX3_moon_0 : decode cX3_moon 0 = .ok (.iload_n 1, 1) := by decide +kernel
theorem dX3_moon_1 : decode cX3_moon 1 = .ok (.aload_n 0, 1) := by decide +kernel
theorem dX3_moon_2 : decode cX3_moon 2 = .ok (.getfield 38, 3) := by decide +kernel
theorem dX3_moon_5 : decode cX3_moon 5 = .ok (.iadd, 1) := by decide +kernel
theorem dX3_moon_6 : decode cX3_moon 6 = .ok (.bipush 16, 2) := by decide +kernel
theorem dX3_moon_8 : decode cX3_moon 8 = .ok (.irem, 1) := by decide +kernel
theorem dX3_moon_9 : decode cX3_moon 9 = .ok (.istore_n 2, 1) := by decide +kernel
theorem dX3_moon_10 : decode cX3_moon 10 = .ok (.iload_n 2, 1) := by decide +kernel
theorem dX3_moon_11 : decode cX3_moon 11 = .ok (.bipush 8, 2) := by decide +kernel
theorem dX3_moon_13 : decode cX3_moon 13 = .ok (.if_icmp .gt 9, 3) := by decide +kernel
theorem dX3_moon_16 : decode cX3_moon 16 = .ok (.iload_n 2, 1) := by decide +kernel
theorem dX3_moon_17 : decode cX3_moon 17 = .ok (.iconst 2, 1) := by decide +kernel
theorem dX3_moon_18 : decode cX3_moon 18 = .ok (.idiv, 1) := by decide +kernel
theorem dX3_moon_19 : decode cX3_moon 19 = .ok (.goto 9, 3) := by decide +kernel
theorem dX3_moon_22 : decode cX3_moon 22 = .ok (.bipush 16, 2) := by decide +kernel
theorem dX3_moon_24 : decode cX3_moon 24 = .ok (.iload_n 2, 1) := by decide +kernel
theorem dX3_moon_25 : decode cX3_moon 25 = .ok (.isub, 1) := by decide +kernel
theorem dX3_moon_26 : decode cX3_moon 26 = .ok (.iconst 2, 1) := by decide +kernel
theorem dX3_moon_27 : decode cX3_moon 27 = .ok (.idiv, 1) := by decide +kernel
theorem dX3_moon_28 : decode cX3_moon 28 = .ok (.ireturn, 1) := by decide +kernel
def wX3_moon (pq : Nat) (a0 : Int32) (σ : St) (Q : Int32 → St → Prop) : Prop :=
  (∀ x1 : Int32, x1 = ((a0 + (σ.1 pq 7)) - (a0 + (σ.1 pq 7)) / 16 * 16) → ((8 < x1 → Q ((16 - x1) / 2) σ) ∧ (¬ 8 < x1 → Q (x1 / 2) σ)))
set_option maxHeartbeats 4000000 in
set_option maxRecDepth 100000 in
theorem tX3_moon_E {pq : Nat} {Q : Int32 → St → Prop} (M : MC p s m args meth c cX3_moon 3 (some .int) RX3 Y) (hh_pq : PH Y pq) (a0 : Int32) (σ : St) (H : Heap) (locs : List Loc) (ls : Array Slot) (hw : WS Y (AD Y) s.heap σ H locs) (hl : lv_has ls 3 [(0, .ref (yA Y pq)), (1, .int a0)]) (h : wX3_moon pq a0 σ Q) : W p l e { frames := 0, cells := 0, slots := 0, locals := 0 } s m args below meth c H locs 0 0 (MQ below (QI Y Q) args s 0 0 (AD Y)) (F0 m 0 ls []) := by
  obtain ⟨hx, hb, hr, hml, hown, hlk, hT, hK, hB⟩ := id M
  unfold wX3_moon at h
  refine lv_iload_n hx hb dX3_moon_0 rfl (lv_at hl 1 rfl) ?_
  refine lv_aload_n hx hb dX3_moon_1 rfl (lv_at hl 0 rfl) ?_
  refine q_get (v := .int (σ.1 pq 7)) M hw (ph_ob hh_pq) rfl inq_3 7 (by decide) tw_122 rfl dX3_moon_2 ?_
  refine lv_iadd hx hb dX3_moon_5 ?_
  refine lv_bipush (v := 16) hx hb dX3_moon_6 (by decide) ?_
  refine lv_irem hx hb dX3_moon_8 (by decide) ?_
  refine lv_topi (fun x1 ex1 => ?_)
  have h := h x1 ex1
  refine lv_istore_n (lv' := [(2, .int x1), (0, .ref (yA Y pq)), (1, .int a0)]) hx hb dX3_moon_9 rfl hl (by decide) rfl (fun ls hl => ?_)
  refine lv_iload_n hx hb dX3_moon_10 rfl (lv_at hl 0 rfl) ?_
  refine lv_bipush (v := 8) hx hb dX3_moon_11 (by decide) ?_
  refine lv_icmp_gt (tgt := 22) hx hb dX3_moon_13 (by decide) (fun c2 => ?_) (fun c2 => ?_)
  · have h := h.1 c2
    refine lv_bipush (v := 16) hx hb dX3_moon_22 (by decide) ?_
    refine lv_iload_n hx hb dX3_moon_24 rfl (lv_at hl 0 rfl) ?_
    refine lv_isub hx hb dX3_moon_25 ?_
    refine lv_iconst (v := 2) hx hb dX3_moon_26 (by decide) ?_
    refine lv_idiv hx hb dX3_moon_27 (by decide) ?_
    exact q_iret M hw h dX3_moon_28
  · have h := h.2 c2
    refine lv_iload_n hx hb dX3_moon_16 rfl (lv_at hl 0 rfl) ?_
    refine lv_iconst (v := 2) hx hb dX3_moon_17 (by decide) ?_
    refine lv_idiv hx hb dX3_moon_18 (by decide) ?_
    refine lv_goto (tgt := 28) hx hb dX3_moon_19 (by decide) ?_
    exact q_iret M hw h dX3_moon_28
set_option maxRecDepth 100000 in
theorem ctX3_moon (l : Launch) {Y : LY} {pq : Nat} (hB : YB Y) (hh_pq : PH Y pq) (a0 : Int32) (σ : St) (Q : Int32 → St → Prop) (h : wX3_moon pq a0 σ Q) : CT l yX3_moon (Cond.code yX3_moon cX3_moon 3 (some .int)) { frames := 0, cells := 0, slots := 0, locals := 0 } Y [.ref (yA Y pq), .int a0] σ (QI Y Q) :=
  q_ent hB (by decide +kernel) (Nat.le_of_ble_eq_true rfl) (fun p e s m below meth c ls M hw hl => tX3_moon_E M hh_pq a0 σ _ _ ls hw hl h)
theorem mbX3_moon : MB RX3 yX3_moon cX3_moon 1 3 (some .int) := ⟨tw_403, tw_404, tw_51, tw_405, by decide +kernel⟩
end
section
variable {p : Program} {l : Launch} {e : Env} {s : State} {m : MethodId} {args : Array Value} {below : List Frame} {meth : Method} {c : Code} {Y : LY}
theorem dX0_draw_0 : decode cX0_draw 0 = .ok (.aload_n 0, 1) := by decide +kernel
theorem dX0_draw_1 : decode cX0_draw 1 = .ok (.iconst 1, 1) := by decide +kernel
theorem dX0_draw_2 : decode cX0_draw 2 = .ok (.putfield 33, 3) := by decide +kernel
theorem dX0_draw_5 : decode cX0_draw 5 = .ok (.aload_n 0, 1) := by decide +kernel
theorem dX0_draw_6 : decode cX0_draw 6 = .ok (.getfield 32, 3) := by decide +kernel
theorem dX0_draw_9 : decode cX0_draw 9 = .ok (.bipush 64, 2) := by decide +kernel
theorem dX0_draw_11 : decode cX0_draw 11 = .ok (.imul, 1) := by decide +kernel
theorem dX0_draw_12 : decode cX0_draw 12 = .ok (.istore_n 1, 1) := by decide +kernel
theorem dX0_draw_13 : decode cX0_draw 13 = .ok (.iconst 0, 1) := by decide +kernel
theorem dX0_draw_14 : decode cX0_draw 14 = .ok (.istore_n 2, 1) := by decide +kernel
theorem dX0_draw_15 : decode cX0_draw 15 = .ok (.iload_n 2, 1) := by decide +kernel
theorem dX0_draw_16 : decode cX0_draw 16 = .ok (.bipush 64, 2) := by decide +kernel
theorem dX0_draw_18 : decode cX0_draw 18 = .ok (.if_icmp .ge 28, 3) := by decide +kernel
theorem dX0_draw_21 : decode cX0_draw 21 = .ok (.aload_n 0, 1) := by decide +kernel
theorem dX0_draw_22 : decode cX0_draw 22 = .ok (.getfield 11, 3) := by decide +kernel
theorem dX0_draw_25 : decode cX0_draw 25 = .ok (.iload_n 1, 1) := by decide +kernel
theorem dX0_draw_26 : decode cX0_draw 26 = .ok (.iload_n 2, 1) := by decide +kernel
theorem dX0_draw_27 : decode cX0_draw 27 = .ok (.iadd, 1) := by decide +kernel
theorem dX0_draw_28 : decode cX0_draw 28 = .ok (.iload_n 2, 1) := by decide +kernel
theorem dX0_draw_29 : decode cX0_draw 29 = .ok (.ifCond .ne 7, 3) := by decide +kernel
theorem dX0_draw_32 : decode cX0_draw 32 = .ok (.iconst 0, 1) := by decide +kernel
theorem dX0_draw_33 : decode cX0_draw 33 = .ok (.goto 6, 3) := by decide +kernel
theorem dX0_draw_36 : decode cX0_draw 36 = .ok (.sipush 1000, 3) := by decide +kernel
theorem dX0_draw_39 : decode cX0_draw 39 = .ok (.iastore, 1) := by decide +kernel
theorem dX0_draw_40 : decode cX0_draw 40 = .ok (.iinc 2 1, 3) := by decide +kernel
theorem dX0_draw_43 : decode cX0_draw 43 = .ok (.goto (-28), 3) := by decide +kernel
theorem dX0_draw_46 : decode cX0_draw 46 = .ok (.aload_n 0, 1) := by decide +kernel
theorem dX0_draw_47 : decode cX0_draw 47 = .ok (.getfield 32, 3) := by decide +kernel
theorem dX0_draw_50 : decode cX0_draw 50 = .ok (.iconst 1, 1) := by decide +kernel
theorem dX0_draw_51 : decode cX0_draw 51 = .ok (.isub, 1) := by decide +kernel
theorem dX0_draw_52 : decode cX0_draw 52 = .ok (.istore_n 2, 1) := by decide +kernel
theorem dX0_draw_53 : decode cX0_draw 53 = .ok (.iload_n 2, 1) := by decide +kernel
theorem dX0_draw_54 : decode cX0_draw 54 = .ok (.ifCond .lt 95, 3) := by decide +kernel
theorem dX0_draw_57 : decode cX0_draw 57 = .ok (.aload_n 0, 1) := by decide +kernel
theorem dX0_draw_58 : decode cX0_draw 58 = .ok (.getfield 15, 3) := by decide +kernel
theorem dX0_draw_61 : decode cX0_draw 61 = .ok (.iload_n 2, 1) := by decide +kernel
theorem dX0_draw_62 : decode cX0_draw 62 = .ok (.aload_n 0, 1) := by decide +kernel
theorem dX0_draw_63 : decode cX0_draw 63 = .ok (.getfield 22, 3) := by decide +kernel
theorem dX0_draw_66 : decode cX0_draw 66 = .ok (.getfield 37, 3) := by decide +kernel
theorem dX0_draw_69 : decode cX0_draw 69 = .ok (.iload_n 2, 1) := by decide +kernel
theorem dX0_draw_70 : decode cX0_draw 70 = .ok (.baload, 1) := by decide +kernel
theorem dX0_draw_71 : decode cX0_draw 71 = .ok (.ifCond .eq 7, 3) := by decide +kernel
theorem dX0_draw_74 : decode cX0_draw 74 = .ok (.iconst 0, 1) := by decide +kernel
theorem dX0_draw_75 : decode cX0_draw 75 = .ok (.goto 11, 3) := by decide +kernel
theorem dX0_draw_78 : decode cX0_draw 78 = .ok (.aload_n 0, 1) := by decide +kernel
theorem dX0_draw_79 : decode cX0_draw 79 = .ok (.getfield 22, 3) := by decide +kernel
theorem dX0_draw_82 : decode cX0_draw 82 = .ok (.iload_n 2, 1) := by decide +kernel
theorem dX0_draw_83 : decode cX0_draw 83 = .ok (.invokevirtual 41, 3) := by decide +kernel
theorem dX0_draw_86 : decode cX0_draw 86 = .ok (.iastore, 1) := by decide +kernel
theorem dX0_draw_87 : decode cX0_draw 87 = .ok (.iload_n 2, 1) := by decide +kernel
theorem dX0_draw_88 : decode cX0_draw 88 = .ok (.bipush 64, 2) := by decide +kernel
theorem dX0_draw_90 : decode cX0_draw 90 = .ok (.imul, 1) := by decide +kernel
theorem dX0_draw_91 : decode cX0_draw 91 = .ok (.istore_n 3, 1) := by decide +kernel
theorem dX0_draw_92 : decode cX0_draw 92 = .ok (.iconst 0, 1) := by decide +kernel
theorem dX0_draw_93 : decode cX0_draw 93 = .ok (.istore 4, 2) := by decide +kernel
theorem dX0_draw_95 : decode cX0_draw 95 = .ok (.iload 4, 2) := by decide +kernel
theorem dX0_draw_97 : decode cX0_draw 97 = .ok (.bipush 64, 2) := by decide +kernel
theorem dX0_draw_99 : decode cX0_draw 99 = .ok (.if_icmp .ge 44, 3) := by decide +kernel
theorem dX0_draw_102 : decode cX0_draw 102 = .ok (.aload_n 0, 1) := by decide +kernel
theorem dX0_draw_103 : decode cX0_draw 103 = .ok (.getfield 11, 3) := by decide +kernel
theorem dX0_draw_106 : decode cX0_draw 106 = .ok (.iload_n 3, 1) := by decide +kernel
theorem dX0_draw_107 : decode cX0_draw 107 = .ok (.bipush 64, 2) := by decide +kernel
theorem dX0_draw_109 : decode cX0_draw 109 = .ok (.iadd, 1) := by decide +kernel
theorem dX0_draw_110 : decode cX0_draw 110 = .ok (.iload 4, 2) := by decide +kernel
theorem dX0_draw_112 : decode cX0_draw 112 = .ok (.iadd, 1) := by decide +kernel
theorem dX0_draw_113 : decode cX0_draw 113 = .ok (.iaload, 1) := by decide +kernel
theorem dX0_draw_114 : decode cX0_draw 114 = .ok (.istore 5, 2) := by decide +kernel
theorem dX0_draw_116 : decode cX0_draw 116 = .ok (.aload_n 0, 1) := by decide +kernel
theorem dX0_draw_117 : decode cX0_draw 117 = .ok (.getfield 11, 3) := by decide +kernel
theorem dX0_draw_120 : decode cX0_draw 120 = .ok (.iload_n 3, 1) := by decide +kernel
theorem dX0_draw_121 : decode cX0_draw 121 = .ok (.iload 4, 2) := by decide +kernel
theorem dX0_draw_123 : decode cX0_draw 123 = .ok (.iadd, 1) := by decide +kernel
theorem dX0_draw_124 : decode cX0_draw 124 = .ok (.iload 5, 2) := by decide +kernel
theorem dX0_draw_126 : decode cX0_draw 126 = .ok (.aload_n 0, 1) := by decide +kernel
theorem dX0_draw_127 : decode cX0_draw 127 = .ok (.iload_n 2, 1) := by decide +kernel
theorem dX0_draw_128 : decode cX0_draw 128 = .ok (.iload 4, 2) := by decide +kernel
theorem dX0_draw_130 : decode cX0_draw 130 = .ok (.invokevirtual 45, 3) := by decide +kernel
theorem dX0_draw_133 : decode cX0_draw 133 = .ok (.invokestatic 49, 3) := by decide +kernel
theorem dX0_draw_136 : decode cX0_draw 136 = .ok (.iastore, 1) := by decide +kernel
theorem dX0_draw_137 : decode cX0_draw 137 = .ok (.iinc 4 1, 3) := by decide +kernel
theorem dX0_draw_140 : decode cX0_draw 140 = .ok (.goto (-45), 3) := by decide +kernel
theorem dX0_draw_143 : decode cX0_draw 143 = .ok (.iinc 2 (-1), 3) := by decide +kernel
theorem dX0_draw_146 : decode cX0_draw 146 = .ok (.goto (-93), 3) := by decide +kernel
theorem dX0_draw_149 : decode cX0_draw 149 = .ok (.return_, 1) := by decide +kernel
def bX0_draw_39 (R_15 : Int32 × Int32 × St → Prop) (y1 : Int32) (y2 : Int32) (z0 : Int32) (z1 : Int32) (σ : St) (Q : St → Prop) : Prop :=
  (vp_in z1 3904 ∧ ∀ σ2 : St, σ2 = up σ 16 z1.toNatClampNeg z0 → (∀ x3 : Int32, x3 = y2 + 1 → R_15 (y1, x3, σ2)))
set_option maxHeartbeats 4000000 in
set_option maxRecDepth 100000 in
theorem tX0_draw_39 {R_15 : Int32 × Int32 × St → Prop} {Q : St → Prop} (M : MC p s m args meth c cX0_draw 6 none RX0 Y) (hN : yN Y = 108) (hR_15 : ∀ (y1 y2 : Int32) (σ : St) (H : Heap) (locs : List Loc) (ls : Array Slot), WS Y (AD Y) s.heap σ H locs → lv_has ls 6 [(0, .ref (yA Y 15)), (1, .int y1), (2, .int y2)] → R_15 (y1, y2, σ) → W p l e { frames := 1, cells := 0, slots := 0, locals := 22 } s m args below meth c H locs 0 0 (MQ below (QV Y Q) args s 0 0 (AD Y)) (F0 m 15 ls [])) (y1 : Int32) (y2 : Int32) (z0 : Int32) (z1 : Int32) (σ : St) (H : Heap) (locs : List Loc) (ls : Array Slot) (hw : WS Y (AD Y) s.heap σ H locs) (hl : lv_has ls 6 [(0, .ref (yA Y 15)), (1, .int y1), (2, .int y2)]) (h : bX0_draw_39 R_15 y1 y2 z0 z1 σ Q) : W p l e { frames := 1, cells := 0, slots := 0, locals := 22 } s m args below meth c H locs 0 0 (MQ below (QV Y Q) args s 0 0 (AD Y)) (F0 m 39 ls [.int z0, .int z1, .ref (yA Y 16)]) := by
  obtain ⟨hx, hb, hr, hml, hown, hlk, hT, hK, hB⟩ := id M
  unfold bX0_draw_39 at h
  have c1 := h.1
  refine q_ist M hw (ar_16 hN) c1 dX0_draw_39 (fun σ2 H locs es hw => ?_)
  have h := h.2 σ2 es
  obtain ⟨x3, ex3⟩ : ∃ y : Int32, y = y2 + 1 := ⟨_, rfl⟩
  have h := h x3 ex3
  refine lv_iinc (v := x3) (lv' := [(2, .int x3), (0, .ref (yA Y 15)), (1, .int y1)]) hx hb dX0_draw_40 hl (k := 2) rfl (by rw [ex3]; rfl) (by decide) rfl (fun ls hl => ?_)
  refine lv_goto (tgt := 15) hx hb dX0_draw_43 (by decide) ?_
  exact hR_15 y1 x3 σ2 _ _ _ hw (lv_sub hl [1, 2, 0] rfl) h
def bX0_draw_95 (R_53 : Int32 × St → Prop) (R_95 : Int32 × Int32 × Int32 × St → Prop) (y2 : Int32) (y3 : Int32) (y4 : Int32) (σ : St) (Q : St → Prop) : Prop :=
  ((64 ≤ y4 → (∀ x2 : Int32, x2 = y2 + (-1) → R_53 (x2, σ))) ∧ (¬ 64 ≤ y4 → (vp_in ((y3 + 64) + y4) 3904 ∧ (∀ x4 : Int32, x4 = (σ.1 16 ((y3 + 64) + y4).toNatClampNeg) → wX0_nightsWith y2 y4 σ (fun r6 σ5 => (∀ x7 : Int32, x7 = (if r6 < x4 then r6 else x4) → (vp_in (y3 + y4) 3904 ∧ ∀ σ9 : St, σ9 = up σ5 16 (y3 + y4).toNatClampNeg x7 → (∀ x10 : Int32, x10 = y4 + 1 → R_95 (y2, y3, x10, σ9)))))))))
set_option maxHeartbeats 4000000 in
set_option maxRecDepth 100000 in
theorem tX0_draw_95 {R_53 : Int32 × St → Prop} {R_95 : Int32 × Int32 × Int32 × St → Prop} {Q : St → Prop} (M : MC p s m args meth c cX0_draw 6 none RX0 Y) (hN : yN Y = 108) (hR_53 : ∀ (y2 : Int32) (σ : St) (H : Heap) (locs : List Loc) (ls : Array Slot), WS Y (AD Y) s.heap σ H locs → lv_has ls 6 [(0, .ref (yA Y 15)), (2, .int y2)] → R_53 (y2, σ) → W p l e { frames := 1, cells := 0, slots := 0, locals := 22 } s m args below meth c H locs 0 0 (MQ below (QV Y Q) args s 0 0 (AD Y)) (F0 m 53 ls [])) (hR_95 : ∀ (y2 y3 y4 : Int32) (σ : St) (H : Heap) (locs : List Loc) (ls : Array Slot), WS Y (AD Y) s.heap σ H locs → lv_has ls 6 [(0, .ref (yA Y 15)), (2, .int y2), (3, .int y3), (4, .int y4)] → R_95 (y2, y3, y4, σ) → W p l e { frames := 1, cells := 0, slots := 0, locals := 22 } s m args below meth c H locs 0 0 (MQ below (QV Y Q) args s 0 0 (AD Y)) (F0 m 95 ls [])) (y2 : Int32) (y3 : Int32) (y4 : Int32) (σ : St) (H : Heap) (locs : List Loc) (ls : Array Slot) (hw : WS Y (AD Y) s.heap σ H locs) (hl : lv_has ls 6 [(0, .ref (yA Y 15)), (2, .int y2), (3, .int y3), (4, .int y4)]) (h : bX0_draw_95 R_53 R_95 y2 y3 y4 σ Q) : W p l e { frames := 1, cells := 0, slots := 0, locals := 22 } s m args below meth c H locs 0 0 (MQ below (QV Y Q) args s 0 0 (AD Y)) (F0 m 95 ls []) := by
  obtain ⟨hx, hb, hr, hml, hown, hlk, hT, hK, hB⟩ := id M
  unfold bX0_draw_95 at h
  refine lv_iload hx hb dX0_draw_95 (lv_at hl 3 rfl) ?_
  refine lv_bipush (v := 64) hx hb dX0_draw_97 (by decide) ?_
  refine lv_icmp_ge (tgt := 143) hx hb dX0_draw_99 (by decide) (fun c1 => ?_) (fun c1 => ?_)
  · have h := h.1 c1
    obtain ⟨x2, ex2⟩ : ∃ y : Int32, y = y2 + (-1) := ⟨_, rfl⟩
    have h := h x2 ex2
    refine lv_iinc (v := x2) (lv' := [(2, .int x2), (0, .ref (yA Y 15)), (3, .int y3), (4, .int y4)]) hx hb dX0_draw_143 hl (k := 1) rfl (by rw [ex2]; rfl) (by decide) rfl (fun ls hl => ?_)
    refine lv_goto (tgt := 53) hx hb dX0_draw_146 (by decide) ?_
    exact hR_53 x2 σ _ _ _ hw (lv_sub hl [1, 0] rfl) h
  · have h := h.2 c1
    refine lv_aload_n hx hb dX0_draw_102 rfl (lv_at hl 0 rfl) ?_
    refine q_get (v := .ref (yA Y 16)) M hw (ob_15 hN) rfl inq_0 0 (by decide) tw_168 rfl dX0_draw_103 ?_
    refine lv_iload_n hx hb dX0_draw_106 rfl (lv_at hl 2 rfl) ?_
    refine lv_bipush (v := 64) hx hb dX0_draw_107 (by decide) ?_
    refine lv_iadd hx hb dX0_draw_109 ?_
    refine lv_iload hx hb dX0_draw_110 (lv_at hl 3 rfl) ?_
    refine lv_iadd hx hb dX0_draw_112 ?_
    have c3 := h.1
    have h := h.2
    refine q_ild M hw (ar_16 hN) c3 dX0_draw_113 ?_
    refine lv_topi (fun x4 ex4 => ?_)
    have h := h x4 ex4
    refine lv_istore (lv' := [(5, .int x4), (0, .ref (yA Y 15)), (2, .int y2), (3, .int y3), (4, .int y4)]) hx hb dX0_draw_114 hl (by decide) rfl (fun ls hl => ?_)
    refine lv_aload_n hx hb dX0_draw_116 rfl (lv_at hl 1 rfl) ?_
    refine q_get (v := .ref (yA Y 16)) M hw (ob_15 hN) rfl inq_0 0 (by decide) tw_168 rfl dX0_draw_117 ?_
    refine lv_iload_n hx hb dX0_draw_120 rfl (lv_at hl 3 rfl) ?_
    refine lv_iload hx hb dX0_draw_121 (lv_at hl 4 rfl) ?_
    refine lv_iadd hx hb dX0_draw_123 ?_
    refine lv_iload hx hb dX0_draw_124 (lv_at hl 0 rfl) ?_
    refine lv_aload_n hx hb dX0_draw_126 rfl (lv_at hl 1 rfl) ?_
    refine lv_iload_n hx hb dX0_draw_127 rfl (lv_at hl 2 rfl) ?_
    refine lv_iload hx hb dX0_draw_128 (lv_at hl 4 rfl) ?_
    refine q_goI hw (q_runV (rest := [.int x4, .int (y3 + y4), .ref (yA Y 16)]) M hw (ctX0_nightsWith l hB hN y2 y4 σ _ h) mbX0_nightsWith (ob_15 hN) rfl tw_512 rfl hl.1 rfl (Nat.le_of_ble_eq_true rfl) ⟨Nat.le_of_ble_eq_true rfl, Nat.le_of_ble_eq_true rfl⟩ ⟨Nat.le_refl _, Nat.le_refl _⟩ dX0_draw_130) (fun r6 σ5 H locs h hw => ?_)
    refine va_mmin hx hb (by rw [hl.1]; exact hml) hown (hT _ tw_516) (hT _ tw_441) (hT _ tw_57) (hT _ tw_442) (Nat.le_of_ble_eq_true rfl) (Nat.le_of_ble_eq_true rfl) (Nat.le_refl _) (Nat.le_refl _) dX0_draw_133 ?_
    refine lv_topi (fun x7 ex7 => ?_)
    have h := h x7 ex7
    have c8 := h.1
    refine q_ist M hw (ar_16 hN) c8 dX0_draw_136 (fun σ9 H locs es hw => ?_)
    have h := h.2 σ9 es
    obtain ⟨x10, ex10⟩ : ∃ y : Int32, y = y4 + 1 := ⟨_, rfl⟩
    have h := h x10 ex10
    refine lv_iinc (v := x10) (lv' := [(4, .int x10), (5, .int x4), (0, .ref (yA Y 15)), (2, .int y2), (3, .int y3)]) hx hb dX0_draw_137 hl (k := 4) rfl (by rw [ex10]; rfl) (by decide) rfl (fun ls hl => ?_)
    refine lv_goto (tgt := 95) hx hb dX0_draw_140 (by decide) ?_
    exact hR_95 y2 y3 x10 σ9 _ _ _ hw (lv_sub hl [2, 3, 4, 0] rfl) h
def lX0_draw_95 (R_53 : Int32 × St → Prop) (Q : St → Prop) : (Int32 × Int32 × Int32 × St → Prop) → Int32 × Int32 × Int32 × St → Prop := fun R a => bX0_draw_95 R_53 R a.1 a.2.1 a.2.2.1 a.2.2.2 Q
theorem tlX0_draw_95 {R_53 : Int32 × St → Prop} {Q : St → Prop} (M : MC p s m args meth c cX0_draw 6 none RX0 Y) (hN : yN Y = 108) (hR_53 : ∀ (y2 : Int32) (σ : St) (H : Heap) (locs : List Loc) (ls : Array Slot), WS Y (AD Y) s.heap σ H locs → lv_has ls 6 [(0, .ref (yA Y 15)), (2, .int y2)] → R_53 (y2, σ) → W p l e { frames := 1, cells := 0, slots := 0, locals := 22 } s m args below meth c H locs 0 0 (MQ below (QV Y Q) args s 0 0 (AD Y)) (F0 m 53 ls [])) (n : Nat) : ∀ (y2 : Int32) (y3 : Int32) (y4 : Int32) (σ : St) (H : Heap) (locs : List Loc) (ls : Array Slot) (hw : WS Y (AD Y) s.heap σ H locs) (hl : lv_has ls 6 [(0, .ref (yA Y 15)), (2, .int y2), (3, .int y3), (4, .int y4)]) (h : Lp (lX0_draw_95 R_53 Q) n (y2, y3, y4, σ)), W p l e { frames := 1, cells := 0, slots := 0, locals := 22 } s m args below meth c H locs 0 0 (MQ below (QV Y Q) args s 0 0 (AD Y)) (F0 m 95 ls []) := by
  induction n with
  | zero => intro y2 y3 y4 σ H locs ls hw hl h; exact h.elim
  | succ n ih =>
    intro y2 y3 y4 σ H locs ls hw hl h
    exact tX0_draw_95 M hN hR_53 ih y2 y3 y4 σ H locs ls hw hl h
def bX0_draw_86 (R_53 : Int32 × St → Prop) (y2 : Int32) (z0 : Int32) (z1 : Int32) (σ : St) (Q : St → Prop) : Prop :=
  (vp_in z1 60 ∧ ∀ σ2 : St, σ2 = up σ 17 z1.toNatClampNeg z0 → (∀ x3 : Int32, x3 = (y2 * 64) → ∃ n : Nat, Lp (lX0_draw_95 R_53 Q) n (y2, x3, 0, σ2)))
set_option maxHeartbeats 4000000 in
set_option maxRecDepth 100000 in
theorem tX0_draw_86 {R_53 : Int32 × St → Prop} {Q : St → Prop} (M : MC p s m args meth c cX0_draw 6 none RX0 Y) (hN : yN Y = 108) (hR_53 : ∀ (y2 : Int32) (σ : St) (H : Heap) (locs : List Loc) (ls : Array Slot), WS Y (AD Y) s.heap σ H locs → lv_has ls 6 [(0, .ref (yA Y 15)), (2, .int y2)] → R_53 (y2, σ) → W p l e { frames := 1, cells := 0, slots := 0, locals := 22 } s m args below meth c H locs 0 0 (MQ below (QV Y Q) args s 0 0 (AD Y)) (F0 m 53 ls [])) (y2 : Int32) (z0 : Int32) (z1 : Int32) (σ : St) (H : Heap) (locs : List Loc) (ls : Array Slot) (hw : WS Y (AD Y) s.heap σ H locs) (hl : lv_has ls 6 [(0, .ref (yA Y 15)), (2, .int y2)]) (h : bX0_draw_86 R_53 y2 z0 z1 σ Q) : W p l e { frames := 1, cells := 0, slots := 0, locals := 22 } s m args below meth c H locs 0 0 (MQ below (QV Y Q) args s 0 0 (AD Y)) (F0 m 86 ls [.int z0, .int z1, .ref (yA Y 17)]) := by
  obtain ⟨hx, hb, hr, hml, hown, hlk, hT, hK, hB⟩ := id M
  unfold bX0_draw_86 at h
  have c1 := h.1
  refine q_ist M hw (ar_17 hN) c1 dX0_draw_86 (fun σ2 H locs es hw => ?_)
  have h := h.2 σ2 es
  refine lv_iload_n hx hb dX0_draw_87 rfl (lv_at hl 1 rfl) ?_
  refine lv_bipush (v := 64) hx hb dX0_draw_88 (by decide) ?_
  refine lv_imul hx hb dX0_draw_90 ?_
  refine lv_topi (fun x3 ex3 => ?_)
  have h := h x3 ex3
  refine lv_istore_n (lv' := [(3, .int x3), (0, .ref (yA Y 15)), (2, .int y2)]) hx hb dX0_draw_91 rfl hl (by decide) rfl (fun ls hl => ?_)
  refine lv_iconst (v := 0) hx hb dX0_draw_92 (by decide) ?_
  refine lv_istore (lv' := [(4, .int 0), (3, .int x3), (0, .ref (yA Y 15)), (2, .int y2)]) hx hb dX0_draw_93 hl (by decide) rfl (fun ls hl => ?_)
  obtain ⟨n, h⟩ := h
  exact tlX0_draw_95 M hN hR_53 n y2 x3 0 σ2 _ _ _ hw (lv_sub hl [2, 3, 1, 0] rfl) h
def bX0_draw_53 (R_53 : Int32 × St → Prop) (y2 : Int32) (σ : St) (Q : St → Prop) : Prop :=
  ((y2 < 0 → Q σ) ∧ (¬ y2 < 0 → (σ.1 15 2 = 3 ∧ (vp_in y2 100 ∧ (((σ.1 8 y2.toNatClampNeg) = 0 → (σ.1 15 2 = 3 ∧ wX3_moon 3 y2 σ (fun r7 σ6 => bX0_draw_86 R_53 y2 r7 y2 σ6 Q))) ∧ (¬ (σ.1 8 y2.toNatClampNeg) = 0 → bX0_draw_86 R_53 y2 0 y2 σ Q))))))
set_option maxHeartbeats 4000000 in
set_option maxRecDepth 100000 in
theorem tX0_draw_53 {R_53 : Int32 × St → Prop} {Q : St → Prop} (M : MC p s m args meth c cX0_draw 6 none RX0 Y) (hN : yN Y = 108) (hR_53 : ∀ (y2 : Int32) (σ : St) (H : Heap) (locs : List Loc) (ls : Array Slot), WS Y (AD Y) s.heap σ H locs → lv_has ls 6 [(0, .ref (yA Y 15)), (2, .int y2)] → R_53 (y2, σ) → W p l e { frames := 1, cells := 0, slots := 0, locals := 22 } s m args below meth c H locs 0 0 (MQ below (QV Y Q) args s 0 0 (AD Y)) (F0 m 53 ls [])) (y2 : Int32) (σ : St) (H : Heap) (locs : List Loc) (ls : Array Slot) (hw : WS Y (AD Y) s.heap σ H locs) (hl : lv_has ls 6 [(0, .ref (yA Y 15)), (2, .int y2)]) (h : bX0_draw_53 R_53 y2 σ Q) : W p l e { frames := 1, cells := 0, slots := 0, locals := 22 } s m args below meth c H locs 0 0 (MQ below (QV Y Q) args s 0 0 (AD Y)) (F0 m 53 ls []) := by
  obtain ⟨hx, hb, hr, hml, hown, hlk, hT, hK, hB⟩ := id M
  unfold bX0_draw_53 at h
  refine lv_iload_n hx hb dX0_draw_53 rfl (lv_at hl 1 rfl) ?_
  refine lv_if_lt (tgt := 149) hx hb dX0_draw_54 (by decide) (fun c1 => ?_) (fun c1 => ?_)
  · have h := h.1 c1
    exact q_vret M hw h dX0_draw_149
  · have h := h.2 c1
    refine lv_aload_n hx hb dX0_draw_57 rfl (lv_at hl 0 rfl) ?_
    refine q_get (v := .ref (yA Y 17)) M hw (ob_15 hN) rfl inq_0 1 (by decide) tw_169 rfl dX0_draw_58 ?_
    refine lv_iload_n hx hb dX0_draw_61 rfl (lv_at hl 1 rfl) ?_
    refine lv_aload_n hx hb dX0_draw_62 rfl (lv_at hl 0 rfl) ?_
    have c2 := h.1
    have h := h.2
    refine q_get (v := .ref (yA Y 3)) M hw (ob_15 hN) rfl inq_0 2 (by decide) tw_170 (by show some (Value.ref (yA Y (σ.1 15 2).toNatClampNeg)) = _; rw [c2]; rfl) dX0_draw_63 ?_
    refine q_get (v := .ref (yA Y 8)) M hw (ph_ob (ph_3 hN)) rfl inq_3 4 (by decide) tw_112 rfl dX0_draw_66 ?_
    refine lv_iload_n hx hb dX0_draw_69 rfl (lv_at hl 1 rfl) ?_
    have c3 := h.1
    have h := h.2
    refine q_zld M hw (ar_8 hN) c3 dX0_draw_70 ?_
    refine lv_if_eq (tgt := 78) hx hb dX0_draw_71 (by decide) (fun c4 => ?_) (fun c4 => ?_)
    · have h := h.1 c4
      refine lv_aload_n hx hb dX0_draw_78 rfl (lv_at hl 0 rfl) ?_
      have c5 := h.1
      have h := h.2
      refine q_get (v := .ref (yA Y 3)) M hw (ob_15 hN) rfl inq_0 2 (by decide) tw_170 (by show some (Value.ref (yA Y (σ.1 15 2).toNatClampNeg)) = _; rw [c5]; rfl) dX0_draw_79 ?_
      refine lv_iload_n hx hb dX0_draw_82 rfl (lv_at hl 1 rfl) ?_
      refine q_goI hw (q_runV (rest := [.int y2, .ref (yA Y 17)]) M hw (ctX3_moon l hB (ph_3 hN) y2 σ _ h) mbX3_moon (ph_ob (ph_3 hN)) rfl tw_511 rfl hl.1 rfl (Nat.le_of_ble_eq_true rfl) ⟨Nat.le_of_ble_eq_true rfl, Nat.le_of_ble_eq_true rfl⟩ ⟨Nat.le_refl _, Nat.le_refl _⟩ dX0_draw_83) (fun r7 σ6 H locs h hw => ?_)
      exact tX0_draw_86 M hN hR_53 y2 r7 y2 σ6 _ _ _ hw (lv_sub hl [0, 1] rfl) h
    · have h := h.2 c4
      refine lv_iconst (v := 0) hx hb dX0_draw_74 (by decide) ?_
      refine lv_goto (tgt := 86) hx hb dX0_draw_75 (by decide) ?_
      exact tX0_draw_86 M hN hR_53 y2 0 y2 σ _ _ _ hw (lv_sub hl [0, 1] rfl) h
def lX0_draw_53 (Q : St → Prop) : (Int32 × St → Prop) → Int32 × St → Prop := fun R a => bX0_draw_53 R a.1 a.2 Q
theorem tlX0_draw_53 {Q : St → Prop} (M : MC p s m args meth c cX0_draw 6 none RX0 Y) (hN : yN Y = 108) (n : Nat) : ∀ (y2 : Int32) (σ : St) (H : Heap) (locs : List Loc) (ls : Array Slot) (hw : WS Y (AD Y) s.heap σ H locs) (hl : lv_has ls 6 [(0, .ref (yA Y 15)), (2, .int y2)]) (h : Lp (lX0_draw_53 Q) n (y2, σ)), W p l e { frames := 1, cells := 0, slots := 0, locals := 22 } s m args below meth c H locs 0 0 (MQ below (QV Y Q) args s 0 0 (AD Y)) (F0 m 53 ls []) := by
  induction n with
  | zero => intro y2 σ H locs ls hw hl h; exact h.elim
  | succ n ih =>
    intro y2 σ H locs ls hw hl h
    exact tX0_draw_53 M hN ih y2 σ H locs ls hw hl h
def bX0_draw_15 (R_15 : Int32 × Int32 × St → Prop) (y1 : Int32) (y2 : Int32) (σ : St) (Q : St → Prop) : Prop :=
  ((64 ≤ y2 → (∀ x2 : Int32, x2 = ((σ.1 15 3) - 1) → ∃ n : Nat, Lp (lX0_draw_53 Q) n (x2, σ))) ∧ (¬ 64 ≤ y2 → ((y2 = 0 → bX0_draw_39 R_15 y1 y2 0 (y1 + y2) σ Q) ∧ (¬ y2 = 0 → bX0_draw_39 R_15 y1 y2 1000 (y1 + y2) σ Q))))
set_option maxHeartbeats 4000000 in
set_option maxRecDepth 100000 in
theorem tX0_draw_15 {R_15 : Int32 × Int32 × St → Prop} {Q : St → Prop} (M : MC p s m args meth c cX0_draw 6 none RX0 Y) (hN : yN Y = 108) (hR_15 : ∀ (y1 y2 : Int32) (σ : St) (H : Heap) (locs : List Loc) (ls : Array Slot), WS Y (AD Y) s.heap σ H locs → lv_has ls 6 [(0, .ref (yA Y 15)), (1, .int y1), (2, .int y2)] → R_15 (y1, y2, σ) → W p l e { frames := 1, cells := 0, slots := 0, locals := 22 } s m args below meth c H locs 0 0 (MQ below (QV Y Q) args s 0 0 (AD Y)) (F0 m 15 ls [])) (y1 : Int32) (y2 : Int32) (σ : St) (H : Heap) (locs : List Loc) (ls : Array Slot) (hw : WS Y (AD Y) s.heap σ H locs) (hl : lv_has ls 6 [(0, .ref (yA Y 15)), (1, .int y1), (2, .int y2)]) (h : bX0_draw_15 R_15 y1 y2 σ Q) : W p l e { frames := 1, cells := 0, slots := 0, locals := 22 } s m args below meth c H locs 0 0 (MQ below (QV Y Q) args s 0 0 (AD Y)) (F0 m 15 ls []) := by
  obtain ⟨hx, hb, hr, hml, hown, hlk, hT, hK, hB⟩ := id M
  unfold bX0_draw_15 at h
  refine lv_iload_n hx hb dX0_draw_15 rfl (lv_at hl 2 rfl) ?_
  refine lv_bipush (v := 64) hx hb dX0_draw_16 (by decide) ?_
  refine lv_icmp_ge (tgt := 46) hx hb dX0_draw_18 (by decide) (fun c1 => ?_) (fun c1 => ?_)
  · have h := h.1 c1
    refine lv_aload_n hx hb dX0_draw_46 rfl (lv_at hl 0 rfl) ?_
    refine q_get (v := .int (σ.1 15 3)) M hw (ob_15 hN) rfl inq_0 3 (by decide) tw_171 rfl dX0_draw_47 ?_
    refine lv_iconst (v := 1) hx hb dX0_draw_50 (by decide) ?_
    refine lv_isub hx hb dX0_draw_51 ?_
    refine lv_topi (fun x2 ex2 => ?_)
    have h := h x2 ex2
    refine lv_istore_n (lv' := [(2, .int x2), (0, .ref (yA Y 15)), (1, .int y1)]) hx hb dX0_draw_52 rfl hl (by decide) rfl (fun ls hl => ?_)
    obtain ⟨n, h⟩ := h
    exact tlX0_draw_53 M hN n x2 σ _ _ _ hw (lv_sub hl [1, 0] rfl) h
  · have h := h.2 c1
    refine lv_aload_n hx hb dX0_draw_21 rfl (lv_at hl 0 rfl) ?_
    refine q_get (v := .ref (yA Y 16)) M hw (ob_15 hN) rfl inq_0 0 (by decide) tw_168 rfl dX0_draw_22 ?_
    refine lv_iload_n hx hb dX0_draw_25 rfl (lv_at hl 1 rfl) ?_
    refine lv_iload_n hx hb dX0_draw_26 rfl (lv_at hl 2 rfl) ?_
    refine lv_iadd hx hb dX0_draw_27 ?_
    refine lv_iload_n hx hb dX0_draw_28 rfl (lv_at hl 2 rfl) ?_
    refine lv_if_ne (tgt := 36) hx hb dX0_draw_29 (by decide) (fun c3 => ?_) (fun c3 => ?_)
    · have h := h.2 c3
      refine lv_sipush (v := 1000) hx hb dX0_draw_36 (by decide) ?_
      exact tX0_draw_39 M hN hR_15 y1 y2 1000 (y1 + y2) σ _ _ _ hw (lv_sub hl [0, 1, 2] rfl) h
    · have h := h.1 c3
      refine lv_iconst (v := 0) hx hb dX0_draw_32 (by decide) ?_
      refine lv_goto (tgt := 39) hx hb dX0_draw_33 (by decide) ?_
      exact tX0_draw_39 M hN hR_15 y1 y2 0 (y1 + y2) σ _ _ _ hw (lv_sub hl [0, 1, 2] rfl) h
def lX0_draw_15 (Q : St → Prop) : (Int32 × Int32 × St → Prop) → Int32 × Int32 × St → Prop := fun R a => bX0_draw_15 R a.1 a.2.1 a.2.2 Q
theorem tlX0_draw_15 {Q : St → Prop} (M : MC p s m args meth c cX0_draw 6 none RX0 Y) (hN : yN Y = 108) (n : Nat) : ∀ (y1 : Int32) (y2 : Int32) (σ : St) (H : Heap) (locs : List Loc) (ls : Array Slot) (hw : WS Y (AD Y) s.heap σ H locs) (hl : lv_has ls 6 [(0, .ref (yA Y 15)), (1, .int y1), (2, .int y2)]) (h : Lp (lX0_draw_15 Q) n (y1, y2, σ)), W p l e { frames := 1, cells := 0, slots := 0, locals := 22 } s m args below meth c H locs 0 0 (MQ below (QV Y Q) args s 0 0 (AD Y)) (F0 m 15 ls []) := by
  induction n with
  | zero => intro y1 y2 σ H locs ls hw hl h; exact h.elim
  | succ n ih =>
    intro y1 y2 σ H locs ls hw hl h
    exact tX0_draw_15 M hN ih y1 y2 σ H locs ls hw hl h
def wX0_draw (σ : St) (Q : St → Prop) : Prop :=
  (∀ σ1 : St, σ1 = up σ 15 4 1 → (∀ x2 : Int32, x2 = ((σ1.1 15 3) * 64) → ∃ n : Nat, Lp (lX0_draw_15 Q) n (x2, 0, σ1)))
set_option maxHeartbeats 4000000 in
set_option maxRecDepth 100000 in
theorem tX0_draw_E {Q : St → Prop} (M : MC p s m args meth c cX0_draw 6 none RX0 Y) (hN : yN Y = 108)  (σ : St) (H : Heap) (locs : List Loc) (ls : Array Slot) (hw : WS Y (AD Y) s.heap σ H locs) (hl : lv_has ls 6 [(0, .ref (yA Y 15))]) (h : wX0_draw σ Q) : W p l e { frames := 1, cells := 0, slots := 0, locals := 22 } s m args below meth c H locs 0 0 (MQ below (QV Y Q) args s 0 0 (AD Y)) (F0 m 0 ls []) := by
  obtain ⟨hx, hb, hr, hml, hown, hlk, hT, hK, hB⟩ := id M
  unfold wX0_draw at h
  refine lv_aload_n hx hb dX0_draw_0 rfl (lv_at hl 0 rfl) ?_
  refine lv_iconst (v := 1) hx hb dX0_draw_1 (by decide) ?_
  refine q_put (v := 1) M hw (ob_15 hN) rfl inq_0 tyX0 tyX0_ok nmX0 4 (by decide) tw_172 rfl (by decide) rfl (Nat.le_of_ble_eq_true rfl) (by simp [up, upd, f0]) dX0_draw_2 (fun σ1 H locs es hw => ?_)
  have h := h σ1 es
  refine lv_aload_n hx hb dX0_draw_5 rfl (lv_at hl 0 rfl) ?_
  refine q_get (v := .int (σ1.1 15 3)) M hw (ob_15 hN) rfl inq_0 3 (by decide) tw_171 rfl dX0_draw_6 ?_
  refine lv_bipush (v := 64) hx hb dX0_draw_9 (by decide) ?_
  refine lv_imul hx hb dX0_draw_11 ?_
  refine lv_topi (fun x2 ex2 => ?_)
  have h := h x2 ex2
  refine lv_istore_n (lv' := [(1, .int x2), (0, .ref (yA Y 15))]) hx hb dX0_draw_12 rfl hl (by decide) rfl (fun ls hl => ?_)
  refine lv_iconst (v := 0) hx hb dX0_draw_13 (by decide) ?_
  refine lv_istore_n (lv' := [(2, .int 0), (1, .int x2), (0, .ref (yA Y 15))]) hx hb dX0_draw_14 rfl hl (by decide) rfl (fun ls hl => ?_)
  obtain ⟨n, h⟩ := h
  exact tlX0_draw_15 M hN n x2 0 σ1 _ _ _ hw (lv_sub hl [2, 1, 0] rfl) h
set_option maxRecDepth 100000 in
theorem ctX0_draw (l : Launch) {Y : LY} (hB : YB Y) (hN : yN Y = 108) (σ : St) (Q : St → Prop) (h : wX0_draw σ Q) : CT l yX0_draw (Cond.code yX0_draw cX0_draw 6 none) { frames := 1, cells := 0, slots := 0, locals := 22 } Y [.ref (yA Y 15)] σ (QV Y Q) :=
  q_ent hB (by decide +kernel) (Nat.le_of_ble_eq_true rfl) (fun p e s m below meth c ls M hw hl => tX0_draw_E M hN σ _ _ ls hw hl h)
theorem mbX0_draw : MB RX0 yX0_draw cX0_draw 0 6 none := ⟨tw_509, tw_18, tw_52, tw_510, by decide +kernel⟩
end
section
variable {p : Program} {l : Launch} {e : Env} {s : State} {m : MethodId} {args : Array Value} {below : List Frame} {meth : Method} {c : Code} {Y : LY}
theorem dX0_nightsFor_0 : decode cX0_nightsFor 0 = .ok (.aload_n 0, 1) := by decide +kernel
theorem dX0_nightsFor_1 : decode cX0_nightsFor 1 = .ok (.getfield 11, 3) := by decide +kernel
theorem dX0_nightsFor_4 : decode cX0_nightsFor 4 = .ok (.iload_n 1, 1) := by decide +kernel
theorem dX0_nightsFor_5 : decode cX0_nightsFor 5 = .ok (.aload_n 0, 1) := by decide +kernel
theorem dX0_nightsFor_6 : decode cX0_nightsFor 6 = .ok (.getfield 32, 3) := by decide +kernel
theorem dX0_nightsFor_9 : decode cX0_nightsFor 9 = .ok (.invokestatic 49, 3) := by decide +kernel
theorem dX0_nightsFor_12 : decode cX0_nightsFor 12 = .ok (.bipush 64, 2) := by decide +kernel
theorem dX0_nightsFor_14 : decode cX0_nightsFor 14 = .ok (.imul, 1) := by decide +kernel
theorem dX0_nightsFor_15 : decode cX0_nightsFor 15 = .ok (.iload_n 2, 1) := by decide +kernel
theorem dX0_nightsFor_16 : decode cX0_nightsFor 16 = .ok (.iadd, 1) := by decide +kernel
theorem dX0_nightsFor_17 : decode cX0_nightsFor 17 = .ok (.iaload, 1) := by decide +kernel
theorem dX0_nightsFor_18 : decode cX0_nightsFor 18 = .ok (.ireturn, 1) := by decide +kernel
def wX0_nightsFor (a0 : Int32) (a1 : Int32) (σ : St) (Q : Int32 → St → Prop) : Prop :=
  (∀ x1 : Int32, x1 = (if (σ.1 15 3) < a0 then (σ.1 15 3) else a0) → (vp_in ((x1 * 64) + a1) 3904 ∧ Q (σ.1 16 ((x1 * 64) + a1).toNatClampNeg) σ))
set_option maxHeartbeats 4000000 in
set_option maxRecDepth 100000 in
theorem tX0_nightsFor_E {Q : Int32 → St → Prop} (M : MC p s m args meth c cX0_nightsFor 3 (some .int) RX0 Y) (hN : yN Y = 108) (a0 : Int32) (a1 : Int32) (σ : St) (H : Heap) (locs : List Loc) (ls : Array Slot) (hw : WS Y (AD Y) s.heap σ H locs) (hl : lv_has ls 3 [(0, .ref (yA Y 15)), (1, .int a0), (2, .int a1)]) (h : wX0_nightsFor a0 a1 σ Q) : W p l e { frames := 1, cells := 0, slots := 0, locals := 21 } s m args below meth c H locs 0 0 (MQ below (QI Y Q) args s 0 0 (AD Y)) (F0 m 0 ls []) := by
  obtain ⟨hx, hb, hr, hml, hown, hlk, hT, hK, hB⟩ := id M
  unfold wX0_nightsFor at h
  refine lv_aload_n hx hb dX0_nightsFor_0 rfl (lv_at hl 0 rfl) ?_
  refine q_get (v := .ref (yA Y 16)) M hw (ob_15 hN) rfl inq_0 0 (by decide) tw_168 rfl dX0_nightsFor_1 ?_
  refine lv_iload_n hx hb dX0_nightsFor_4 rfl (lv_at hl 1 rfl) ?_
  refine lv_aload_n hx hb dX0_nightsFor_5 rfl (lv_at hl 0 rfl) ?_
  refine q_get (v := .int (σ.1 15 3)) M hw (ob_15 hN) rfl inq_0 3 (by decide) tw_171 rfl dX0_nightsFor_6 ?_
  refine va_mmin hx hb (by rw [hl.1]; exact hml) hown (hT _ tw_516) (hT _ tw_441) (hT _ tw_57) (hT _ tw_442) (Nat.le_of_ble_eq_true rfl) (Nat.le_of_ble_eq_true rfl) (Nat.le_refl _) (Nat.le_refl _) dX0_nightsFor_9 ?_
  refine lv_topi (fun x1 ex1 => ?_)
  have h := h x1 ex1
  refine lv_bipush (v := 64) hx hb dX0_nightsFor_12 (by decide) ?_
  refine lv_imul hx hb dX0_nightsFor_14 ?_
  refine lv_iload_n hx hb dX0_nightsFor_15 rfl (lv_at hl 2 rfl) ?_
  refine lv_iadd hx hb dX0_nightsFor_16 ?_
  have c2 := h.1
  have h := h.2
  refine q_ild M hw (ar_16 hN) c2 dX0_nightsFor_17 ?_
  exact q_iret M hw h dX0_nightsFor_18
set_option maxRecDepth 100000 in
theorem ctX0_nightsFor (l : Launch) {Y : LY} (hB : YB Y) (hN : yN Y = 108) (a0 : Int32) (a1 : Int32) (σ : St) (Q : Int32 → St → Prop) (h : wX0_nightsFor a0 a1 σ Q) : CT l yX0_nightsFor (Cond.code yX0_nightsFor cX0_nightsFor 3 (some .int)) { frames := 1, cells := 0, slots := 0, locals := 21 } Y [.ref (yA Y 15), .int a0, .int a1] σ (QI Y Q) :=
  q_ent hB (by decide +kernel) (Nat.le_of_ble_eq_true rfl) (fun p e s m below meth c ls M hw hl => tX0_nightsFor_E M hN a0 a1 σ _ _ ls hw hl h)
theorem mbX0_nightsFor : MB RX0 yX0_nightsFor cX0_nightsFor 2 3 (some .int) := ⟨tw_518, tw_519, tw_52, tw_520, by decide +kernel⟩
end
section
variable {p : Program} {l : Launch} {e : Env} {s : State} {m : MethodId} {args : Array Value} {below : List Frame} {meth : Method} {c : Code} {Y : LY}
theorem dX0_quartersFor_0 : decode cX0_quartersFor 0 = .ok (.aload_n 0, 1) := by decide +kernel
theorem dX0_quartersFor_1 : decode cX0_quartersFor 1 = .ok (.getfield 33, 3) := by decide +kernel
theorem dX0_quartersFor_4 : decode cX0_quartersFor 4 = .ok (.ifCond .ne 7, 3) := by decide +kernel
theorem dX0_quartersFor_7 : decode cX0_quartersFor 7 = .ok (.aload_n 0, 1) := by decide +kernel
theorem dX0_quartersFor_8 : decode cX0_quartersFor 8 = .ok (.invokevirtual 54, 3) := by decide +kernel
theorem dX0_quartersFor_11 : decode cX0_quartersFor 11 = .ok (.iconst 0, 1) := by decide +kernel
theorem dX0_quartersFor_12 : decode cX0_quartersFor 12 = .ok (.istore 4, 2) := by decide +kernel
theorem dX0_quartersFor_14 : decode cX0_quartersFor 14 = .ok (.iload 4, 2) := by decide +kernel
theorem dX0_quartersFor_16 : decode cX0_quartersFor 16 = .ok (.bipush 64, 2) := by decide +kernel
theorem dX0_quartersFor_18 : decode cX0_quartersFor 18 = .ok (.if_icmp .ge 33, 3) := by decide +kernel
theorem dX0_quartersFor_21 : decode cX0_quartersFor 21 = .ok (.iload 4, 2) := by decide +kernel
theorem dX0_quartersFor_23 : decode cX0_quartersFor 23 = .ok (.iload_n 2, 1) := by decide +kernel
theorem dX0_quartersFor_24 : decode cX0_quartersFor 24 = .ok (.imul, 1) := by decide +kernel
theorem dX0_quartersFor_25 : decode cX0_quartersFor 25 = .ok (.iload_n 3, 1) := by decide +kernel
theorem dX0_quartersFor_26 : decode cX0_quartersFor 26 = .ok (.if_icmp .lt 19, 3) := by decide +kernel
theorem dX0_quartersFor_29 : decode cX0_quartersFor 29 = .ok (.aload_n 0, 1) := by decide +kernel
theorem dX0_quartersFor_30 : decode cX0_quartersFor 30 = .ok (.iload_n 1, 1) := by decide +kernel
theorem dX0_quartersFor_31 : decode cX0_quartersFor 31 = .ok (.iload 4, 2) := by decide +kernel
theorem dX0_quartersFor_33 : decode cX0_quartersFor 33 = .ok (.invokevirtual 57, 3) := by decide +kernel
theorem dX0_quartersFor_36 : decode cX0_quartersFor 36 = .ok (.sipush 1000, 3) := by decide +kernel
theorem dX0_quartersFor_39 : decode cX0_quartersFor 39 = .ok (.if_icmp .ge 6, 3) := by decide +kernel
theorem dX0_quartersFor_42 : decode cX0_quartersFor 42 = .ok (.iload 4, 2) := by decide +kernel
theorem dX0_quartersFor_44 : decode cX0_quartersFor 44 = .ok (.ireturn, 1) := by decide +kernel
theorem dX0_quartersFor_45 : decode cX0_quartersFor 45 = .ok (.iinc 4 1, 3) := by decide +kernel
theorem dX0_quartersFor_48 : decode cX0_quartersFor 48 = .ok (.goto (-34), 3) := by decide +kernel
theorem dX0_quartersFor_51 : decode cX0_quartersFor 51 = .ok (.bipush (-9), 2) := by decide +kernel
theorem dX0_quartersFor_53 : decode cX0_quartersFor 53 = .ok (.ireturn, 1) := by decide +kernel
def bX0_quartersFor_45 (R_14 : Int32 × Int32 × Int32 × Int32 × St → Prop) (y1 : Int32) (y2 : Int32) (y3 : Int32) (y4 : Int32) (σ : St) (Q : Int32 → St → Prop) : Prop :=
  (∀ x1 : Int32, x1 = y4 + 1 → R_14 (y1, y2, y3, x1, σ))
set_option maxHeartbeats 4000000 in
set_option maxRecDepth 100000 in
theorem tX0_quartersFor_45 {R_14 : Int32 × Int32 × Int32 × Int32 × St → Prop} {Q : Int32 → St → Prop} (M : MC p s m args meth c cX0_quartersFor 5 (some .int) RX0 Y) (hN : yN Y = 108) (hR_14 : ∀ (y1 y2 y3 y4 : Int32) (σ : St) (H : Heap) (locs : List Loc) (ls : Array Slot), WS Y (AD Y) s.heap σ H locs → lv_has ls 5 [(0, .ref (yA Y 15)), (1, .int y1), (2, .int y2), (3, .int y3), (4, .int y4)] → R_14 (y1, y2, y3, y4, σ) → W p l e { frames := 2, cells := 0, slots := 0, locals := 47 } s m args below meth c H locs 0 0 (MQ below (QI Y Q) args s 0 0 (AD Y)) (F0 m 14 ls [])) (y1 : Int32) (y2 : Int32) (y3 : Int32) (y4 : Int32) (σ : St) (H : Heap) (locs : List Loc) (ls : Array Slot) (hw : WS Y (AD Y) s.heap σ H locs) (hl : lv_has ls 5 [(0, .ref (yA Y 15)), (1, .int y1), (2, .int y2), (3, .int y3), (4, .int y4)]) (h : bX0_quartersFor_45 R_14 y1 y2 y3 y4 σ Q) : W p l e { frames := 2, cells := 0, slots := 0, locals := 47 } s m args below meth c H locs 0 0 (MQ below (QI Y Q) args s 0 0 (AD Y)) (F0 m 45 ls []) := by
  obtain ⟨hx, hb, hr, hml, hown, hlk, hT, hK, hB⟩ := id M
  unfold bX0_quartersFor_45 at h
  obtain ⟨x1, ex1⟩ : ∃ y : Int32, y = y4 + 1 := ⟨_, rfl⟩
  have h := h x1 ex1
  refine lv_iinc (v := x1) (lv' := [(4, .int x1), (0, .ref (yA Y 15)), (1, .int y1), (2, .int y2), (3, .int y3)]) hx hb dX0_quartersFor_45 hl (k := 4) rfl (by rw [ex1]; rfl) (by decide) rfl (fun ls hl => ?_)
  refine lv_goto (tgt := 14) hx hb dX0_quartersFor_48 (by decide) ?_
  exact hR_14 y1 y2 y3 x1 σ _ _ _ hw (lv_sub hl [1, 2, 3, 4, 0] rfl) h
def bX0_quartersFor_14 (R_14 : Int32 × Int32 × Int32 × Int32 × St → Prop) (y1 : Int32) (y2 : Int32) (y3 : Int32) (y4 : Int32) (σ : St) (Q : Int32 → St → Prop) : Prop :=
  ((64 ≤ y4 → Q (-9) σ) ∧ (¬ 64 ≤ y4 → (((y4 * y2) < y3 → bX0_quartersFor_45 R_14 y1 y2 y3 y4 σ Q) ∧ (¬ (y4 * y2) < y3 → wX0_nightsFor y1 y4 σ (fun r4 σ3 => ((1000 ≤ r4 → bX0_quartersFor_45 R_14 y1 y2 y3 y4 σ3 Q) ∧ (¬ 1000 ≤ r4 → Q y4 σ3)))))))
set_option maxHeartbeats 4000000 in
set_option maxRecDepth 100000 in
theorem tX0_quartersFor_14 {R_14 : Int32 × Int32 × Int32 × Int32 × St → Prop} {Q : Int32 → St → Prop} (M : MC p s m args meth c cX0_quartersFor 5 (some .int) RX0 Y) (hN : yN Y = 108) (hR_14 : ∀ (y1 y2 y3 y4 : Int32) (σ : St) (H : Heap) (locs : List Loc) (ls : Array Slot), WS Y (AD Y) s.heap σ H locs → lv_has ls 5 [(0, .ref (yA Y 15)), (1, .int y1), (2, .int y2), (3, .int y3), (4, .int y4)] → R_14 (y1, y2, y3, y4, σ) → W p l e { frames := 2, cells := 0, slots := 0, locals := 47 } s m args below meth c H locs 0 0 (MQ below (QI Y Q) args s 0 0 (AD Y)) (F0 m 14 ls [])) (y1 : Int32) (y2 : Int32) (y3 : Int32) (y4 : Int32) (σ : St) (H : Heap) (locs : List Loc) (ls : Array Slot) (hw : WS Y (AD Y) s.heap σ H locs) (hl : lv_has ls 5 [(0, .ref (yA Y 15)), (1, .int y1), (2, .int y2), (3, .int y3), (4, .int y4)]) (h : bX0_quartersFor_14 R_14 y1 y2 y3 y4 σ Q) : W p l e { frames := 2, cells := 0, slots := 0, locals := 47 } s m args below meth c H locs 0 0 (MQ below (QI Y Q) args s 0 0 (AD Y)) (F0 m 14 ls []) := by
  obtain ⟨hx, hb, hr, hml, hown, hlk, hT, hK, hB⟩ := id M
  unfold bX0_quartersFor_14 at h
  refine lv_iload hx hb dX0_quartersFor_14 (lv_at hl 4 rfl) ?_
  refine lv_bipush (v := 64) hx hb dX0_quartersFor_16 (by decide) ?_
  refine lv_icmp_ge (tgt := 51) hx hb dX0_quartersFor_18 (by decide) (fun c1 => ?_) (fun c1 => ?_)
  · have h := h.1 c1
    refine lv_bipush (v := (-9)) hx hb dX0_quartersFor_51 (by decide) ?_
    exact q_iret M hw h dX0_quartersFor_53
  · have h := h.2 c1
    refine lv_iload hx hb dX0_quartersFor_21 (lv_at hl 4 rfl) ?_
    refine lv_iload_n hx hb dX0_quartersFor_23 rfl (lv_at hl 2 rfl) ?_
    refine lv_imul hx hb dX0_quartersFor_24 ?_
    refine lv_iload_n hx hb dX0_quartersFor_25 rfl (lv_at hl 3 rfl) ?_
    refine lv_icmp_lt (tgt := 45) hx hb dX0_quartersFor_26 (by decide) (fun c2 => ?_) (fun c2 => ?_)
    · have h := h.1 c2
      exact tX0_quartersFor_45 M hN hR_14 y1 y2 y3 y4 σ _ _ _ hw (lv_sub hl [0, 1, 2, 3, 4] rfl) h
    · have h := h.2 c2
      refine lv_aload_n hx hb dX0_quartersFor_29 rfl (lv_at hl 0 rfl) ?_
      refine lv_iload_n hx hb dX0_quartersFor_30 rfl (lv_at hl 1 rfl) ?_
      refine lv_iload hx hb dX0_quartersFor_31 (lv_at hl 4 rfl) ?_
      refine q_goI hw (q_runV (rest := []) M hw (ctX0_nightsFor l hB hN y1 y4 σ _ h) mbX0_nightsFor (ob_15 hN) rfl tw_517 rfl hl.1 rfl (Nat.le_of_ble_eq_true rfl) ⟨Nat.le_of_ble_eq_true rfl, Nat.le_of_ble_eq_true rfl⟩ ⟨Nat.le_refl _, Nat.le_refl _⟩ dX0_quartersFor_33) (fun r4 σ3 H locs h hw => ?_)
      refine lv_sipush (v := 1000) hx hb dX0_quartersFor_36 (by decide) ?_
      refine lv_icmp_ge (tgt := 45) hx hb dX0_quartersFor_39 (by decide) (fun c5 => ?_) (fun c5 => ?_)
      · have h := h.1 c5
        exact tX0_quartersFor_45 M hN hR_14 y1 y2 y3 y4 σ3 _ _ _ hw (lv_sub hl [0, 1, 2, 3, 4] rfl) h
      · have h := h.2 c5
        refine lv_iload hx hb dX0_quartersFor_42 (lv_at hl 4 rfl) ?_
        exact q_iret M hw h dX0_quartersFor_44
def lX0_quartersFor_14 (Q : Int32 → St → Prop) : (Int32 × Int32 × Int32 × Int32 × St → Prop) → Int32 × Int32 × Int32 × Int32 × St → Prop := fun R a => bX0_quartersFor_14 R a.1 a.2.1 a.2.2.1 a.2.2.2.1 a.2.2.2.2 Q
theorem tlX0_quartersFor_14 {Q : Int32 → St → Prop} (M : MC p s m args meth c cX0_quartersFor 5 (some .int) RX0 Y) (hN : yN Y = 108) (n : Nat) : ∀ (y1 : Int32) (y2 : Int32) (y3 : Int32) (y4 : Int32) (σ : St) (H : Heap) (locs : List Loc) (ls : Array Slot) (hw : WS Y (AD Y) s.heap σ H locs) (hl : lv_has ls 5 [(0, .ref (yA Y 15)), (1, .int y1), (2, .int y2), (3, .int y3), (4, .int y4)]) (h : Lp (lX0_quartersFor_14 Q) n (y1, y2, y3, y4, σ)), W p l e { frames := 2, cells := 0, slots := 0, locals := 47 } s m args below meth c H locs 0 0 (MQ below (QI Y Q) args s 0 0 (AD Y)) (F0 m 14 ls []) := by
  induction n with
  | zero => intro y1 y2 y3 y4 σ H locs ls hw hl h; exact h.elim
  | succ n ih =>
    intro y1 y2 y3 y4 σ H locs ls hw hl h
    exact tX0_quartersFor_14 M hN ih y1 y2 y3 y4 σ H locs ls hw hl h
def bX0_quartersFor_11 (y1 : Int32) (y2 : Int32) (y3 : Int32) (σ : St) (Q : Int32 → St → Prop) : Prop :=
  ∃ n : Nat, Lp (lX0_quartersFor_14 Q) n (y1, y2, y3, 0, σ)
set_option maxHeartbeats 4000000 in
set_option maxRecDepth 100000 in
theorem tX0_quartersFor_11 {Q : Int32 → St → Prop} (M : MC p s m args meth c cX0_quartersFor 5 (some .int) RX0 Y) (hN : yN Y = 108) (y1 : Int32) (y2 : Int32) (y3 : Int32) (σ : St) (H : Heap) (locs : List Loc) (ls : Array Slot) (hw : WS Y (AD Y) s.heap σ H locs) (hl : lv_has ls 5 [(0, .ref (yA Y 15)), (1, .int y1), (2, .int y2), (3, .int y3)]) (h : bX0_quartersFor_11 y1 y2 y3 σ Q) : W p l e { frames := 2, cells := 0, slots := 0, locals := 47 } s m args below meth c H locs 0 0 (MQ below (QI Y Q) args s 0 0 (AD Y)) (F0 m 11 ls []) := by
  obtain ⟨hx, hb, hr, hml, hown, hlk, hT, hK, hB⟩ := id M
  unfold bX0_quartersFor_11 at h
  refine lv_iconst (v := 0) hx hb dX0_quartersFor_11 (by decide) ?_
  refine lv_istore (lv' := [(4, .int 0), (0, .ref (yA Y 15)), (1, .int y1), (2, .int y2), (3, .int y3)]) hx hb dX0_quartersFor_12 hl (by decide) rfl (fun ls hl => ?_)
  obtain ⟨n, h⟩ := h
  exact tlX0_quartersFor_14 M hN n y1 y2 y3 0 σ _ _ _ hw (lv_sub hl [1, 2, 3, 4, 0] rfl) h
def wX0_quartersFor (a0 : Int32) (a1 : Int32) (a2 : Int32) (σ : St) (Q : Int32 → St → Prop) : Prop :=
  (((σ.1 15 4) = 0 → wX0_draw σ (fun σ2 => bX0_quartersFor_11 a0 a1 a2 σ2 Q)) ∧ (¬ (σ.1 15 4) = 0 → bX0_quartersFor_11 a0 a1 a2 σ Q))
set_option maxHeartbeats 4000000 in
set_option maxRecDepth 100000 in
theorem tX0_quartersFor_E {Q : Int32 → St → Prop} (M : MC p s m args meth c cX0_quartersFor 5 (some .int) RX0 Y) (hN : yN Y = 108) (a0 : Int32) (a1 : Int32) (a2 : Int32) (σ : St) (H : Heap) (locs : List Loc) (ls : Array Slot) (hw : WS Y (AD Y) s.heap σ H locs) (hl : lv_has ls 5 [(0, .ref (yA Y 15)), (1, .int a0), (2, .int a1), (3, .int a2)]) (h : wX0_quartersFor a0 a1 a2 σ Q) : W p l e { frames := 2, cells := 0, slots := 0, locals := 47 } s m args below meth c H locs 0 0 (MQ below (QI Y Q) args s 0 0 (AD Y)) (F0 m 0 ls []) := by
  obtain ⟨hx, hb, hr, hml, hown, hlk, hT, hK, hB⟩ := id M
  unfold wX0_quartersFor at h
  refine lv_aload_n hx hb dX0_quartersFor_0 rfl (lv_at hl 0 rfl) ?_
  refine q_get (v := .int (σ.1 15 4)) M hw (ob_15 hN) rfl inq_0 4 (by decide) tw_172 rfl dX0_quartersFor_1 ?_
  refine lv_if_ne (tgt := 11) hx hb dX0_quartersFor_4 (by decide) (fun c1 => ?_) (fun c1 => ?_)
  · have h := h.2 c1
    exact tX0_quartersFor_11 M hN a0 a1 a2 σ _ _ _ hw (lv_sub hl [0, 1, 2, 3] rfl) h
  · have h := h.1 c1
    refine lv_aload_n hx hb dX0_quartersFor_7 rfl (lv_at hl 0 rfl) ?_
    refine q_goV hw (q_runV (rest := []) M hw (ctX0_draw l hB hN σ _ h) mbX0_draw (ob_15 hN) rfl tw_507 rfl hl.1 rfl (Nat.le_of_ble_eq_true rfl) ⟨Nat.le_of_ble_eq_true rfl, Nat.le_of_ble_eq_true rfl⟩ ⟨Nat.le_refl _, Nat.le_refl _⟩ dX0_quartersFor_8) (fun σ2 H locs h hw => ?_)
    exact tX0_quartersFor_11 M hN a0 a1 a2 σ2 _ _ _ hw (lv_sub hl [0, 1, 2, 3] rfl) h
set_option maxRecDepth 100000 in
theorem ctX0_quartersFor (l : Launch) {Y : LY} (hB : YB Y) (hN : yN Y = 108) (a0 : Int32) (a1 : Int32) (a2 : Int32) (σ : St) (Q : Int32 → St → Prop) (h : wX0_quartersFor a0 a1 a2 σ Q) : CT l yX0_quartersFor (Cond.code yX0_quartersFor cX0_quartersFor 5 (some .int)) { frames := 2, cells := 0, slots := 0, locals := 47 } Y [.ref (yA Y 15), .int a0, .int a1, .int a2] σ (QI Y Q) :=
  q_ent hB (by decide +kernel) (Nat.le_of_ble_eq_true rfl) (fun p e s m below meth c ls M hw hl => tX0_quartersFor_E M hN a0 a1 a2 σ _ _ ls hw hl h)
theorem mbX0_quartersFor : MB RX0 yX0_quartersFor cX0_quartersFor 3 5 (some .int) := ⟨tw_504, tw_505, tw_52, tw_506, by decide +kernel⟩
end
section
variable {p : Program} {l : Launch} {e : Env} {s : State} {m : MethodId} {args : Array Value} {below : List Frame} {meth : Method} {c : Code} {Y : LY}
theorem dX0_nightAt_0 : decode cX0_nightAt 0 = .ok (.iload_n 2, 1) := by decide +kernel
theorem dX0_nightAt_1 : decode cX0_nightAt 1 = .ok (.istore 4, 2) := by decide +kernel
theorem dX0_nightAt_3 : decode cX0_nightAt 3 = .ok (.iconst 0, 1) := by decide +kernel
theorem dX0_nightAt_4 : decode cX0_nightAt 4 = .ok (.istore 5, 2) := by decide +kernel
theorem dX0_nightAt_6 : decode cX0_nightAt 6 = .ok (.iload_n 1, 1) := by decide +kernel
theorem dX0_nightAt_7 : decode cX0_nightAt 7 = .ok (.istore 6, 2) := by decide +kernel
theorem dX0_nightAt_9 : decode cX0_nightAt 9 = .ok (.iload 6, 2) := by decide +kernel
theorem dX0_nightAt_11 : decode cX0_nightAt 11 = .ok (.aload_n 0, 1) := by decide +kernel
theorem dX0_nightAt_12 : decode cX0_nightAt 12 = .ok (.getfield 32, 3) := by decide +kernel
theorem dX0_nightAt_15 : decode cX0_nightAt 15 = .ok (.if_icmp .ge 57, 3) := by decide +kernel
theorem dX0_nightAt_18 : decode cX0_nightAt 18 = .ok (.aload_n 0, 1) := by decide +kernel
theorem dX0_nightAt_19 : decode cX0_nightAt 19 = .ok (.iload 6, 2) := by decide +kernel
theorem dX0_nightAt_21 : decode cX0_nightAt 21 = .ok (.iload 4, 2) := by decide +kernel
theorem dX0_nightAt_23 : decode cX0_nightAt 23 = .ok (.invokevirtual 45, 3) := by decide +kernel
theorem dX0_nightAt_26 : decode cX0_nightAt 26 = .ok (.aload_n 0, 1) := by decide +kernel
theorem dX0_nightAt_27 : decode cX0_nightAt 27 = .ok (.getfield 11, 3) := by decide +kernel
theorem dX0_nightAt_30 : decode cX0_nightAt 30 = .ok (.iload 6, 2) := by decide +kernel
theorem dX0_nightAt_32 : decode cX0_nightAt 32 = .ok (.bipush 64, 2) := by decide +kernel
theorem dX0_nightAt_34 : decode cX0_nightAt 34 = .ok (.imul, 1) := by decide +kernel
theorem dX0_nightAt_35 : decode cX0_nightAt 35 = .ok (.iload 4, 2) := by decide +kernel
theorem dX0_nightAt_37 : decode cX0_nightAt 37 = .ok (.iadd, 1) := by decide +kernel
theorem dX0_nightAt_38 : decode cX0_nightAt 38 = .ok (.iaload, 1) := by decide +kernel
theorem dX0_nightAt_39 : decode cX0_nightAt 39 = .ok (.if_icmp .ne 27, 3) := by decide +kernel
theorem dX0_nightAt_42 : decode cX0_nightAt 42 = .ok (.iload 5, 2) := by decide +kernel
theorem dX0_nightAt_44 : decode cX0_nightAt 44 = .ok (.iload_n 3, 1) := by decide +kernel
theorem dX0_nightAt_45 : decode cX0_nightAt 45 = .ok (.if_icmp .ne 6, 3) := by decide +kernel
theorem dX0_nightAt_48 : decode cX0_nightAt 48 = .ok (.iload 6, 2) := by decide +kernel
theorem dX0_nightAt_50 : decode cX0_nightAt 50 = .ok (.ireturn, 1) := by decide +kernel
theorem dX0_nightAt_51 : decode cX0_nightAt 51 = .ok (.iinc 5 1, 3) := by decide +kernel
theorem dX0_nightAt_54 : decode cX0_nightAt 54 = .ok (.iload 4, 2) := by decide +kernel
theorem dX0_nightAt_56 : decode cX0_nightAt 56 = .ok (.aload_n 0, 1) := by decide +kernel
theorem dX0_nightAt_57 : decode cX0_nightAt 57 = .ok (.getfield 15, 3) := by decide +kernel
theorem dX0_nightAt_60 : decode cX0_nightAt 60 = .ok (.iload 6, 2) := by decide +kernel
theorem dX0_nightAt_62 : decode cX0_nightAt 62 = .ok (.iaload, 1) := by decide +kernel
theorem dX0_nightAt_63 : decode cX0_nightAt 63 = .ok (.isub, 1) := by decide +kernel
theorem dX0_nightAt_64 : decode cX0_nightAt 64 = .ok (.istore 4, 2) := by decide +kernel
theorem dX0_nightAt_66 : decode cX0_nightAt 66 = .ok (.iinc 6 1, 3) := by decide +kernel
theorem dX0_nightAt_69 : decode cX0_nightAt 69 = .ok (.goto (-60), 3) := by decide +kernel
theorem dX0_nightAt_72 : decode cX0_nightAt 72 = .ok (.bipush (-5), 2) := by decide +kernel
theorem dX0_nightAt_74 : decode cX0_nightAt 74 = .ok (.ireturn, 1) := by decide +kernel
def bX0_nightAt_66 (R_9 : Int32 × Int32 × Int32 × Int32 × St → Prop) (y3 : Int32) (y4 : Int32) (y5 : Int32) (y6 : Int32) (σ : St) (Q : Int32 → St → Prop) : Prop :=
  (∀ x1 : Int32, x1 = y6 + 1 → R_9 (y3, y4, y5, x1, σ))
set_option maxHeartbeats 4000000 in
set_option maxRecDepth 100000 in
theorem tX0_nightAt_66 {R_9 : Int32 × Int32 × Int32 × Int32 × St → Prop} {Q : Int32 → St → Prop} (M : MC p s m args meth c cX0_nightAt 7 (some .int) RX0 Y) (hN : yN Y = 108) (hR_9 : ∀ (y3 y4 y5 y6 : Int32) (σ : St) (H : Heap) (locs : List Loc) (ls : Array Slot), WS Y (AD Y) s.heap σ H locs → lv_has ls 7 [(0, .ref (yA Y 15)), (3, .int y3), (4, .int y4), (5, .int y5), (6, .int y6)] → R_9 (y3, y4, y5, y6, σ) → W p l e { frames := 1, cells := 0, slots := 0, locals := 22 } s m args below meth c H locs 0 0 (MQ below (QI Y Q) args s 0 0 (AD Y)) (F0 m 9 ls [])) (y3 : Int32) (y4 : Int32) (y5 : Int32) (y6 : Int32) (σ : St) (H : Heap) (locs : List Loc) (ls : Array Slot) (hw : WS Y (AD Y) s.heap σ H locs) (hl : lv_has ls 7 [(0, .ref (yA Y 15)), (3, .int y3), (4, .int y4), (5, .int y5), (6, .int y6)]) (h : bX0_nightAt_66 R_9 y3 y4 y5 y6 σ Q) : W p l e { frames := 1, cells := 0, slots := 0, locals := 22 } s m args below meth c H locs 0 0 (MQ below (QI Y Q) args s 0 0 (AD Y)) (F0 m 66 ls []) := by
  obtain ⟨hx, hb, hr, hml, hown, hlk, hT, hK, hB⟩ := id M
  unfold bX0_nightAt_66 at h
  obtain ⟨x1, ex1⟩ : ∃ y : Int32, y = y6 + 1 := ⟨_, rfl⟩
  have h := h x1 ex1
  refine lv_iinc (v := x1) (lv' := [(6, .int x1), (0, .ref (yA Y 15)), (3, .int y3), (4, .int y4), (5, .int y5)]) hx hb dX0_nightAt_66 hl (k := 4) rfl (by rw [ex1]; rfl) (by decide) rfl (fun ls hl => ?_)
  refine lv_goto (tgt := 9) hx hb dX0_nightAt_69 (by decide) ?_
  exact hR_9 y3 y4 y5 x1 σ _ _ _ hw (lv_sub hl [1, 2, 3, 4, 0] rfl) h
def bX0_nightAt_9 (R_9 : Int32 × Int32 × Int32 × Int32 × St → Prop) (y3 : Int32) (y4 : Int32) (y5 : Int32) (y6 : Int32) (σ : St) (Q : Int32 → St → Prop) : Prop :=
  (((σ.1 15 3) ≤ y6 → Q (-5) σ) ∧ (¬ (σ.1 15 3) ≤ y6 → wX0_nightsWith y6 y4 σ (fun r3 σ2 => (vp_in ((y6 * 64) + y4) 3904 ∧ ((r3 = (σ2.1 16 ((y6 * 64) + y4).toNatClampNeg) → ((y5 = y3 → Q y6 σ2) ∧ (¬ y5 = y3 → (∀ x7 : Int32, x7 = y5 + 1 → (vp_in y6 60 ∧ (∀ x9 : Int32, x9 = (y4 - (σ2.1 17 y6.toNatClampNeg)) → bX0_nightAt_66 R_9 y3 x9 x7 y6 σ2 Q)))))) ∧ (¬ r3 = (σ2.1 16 ((y6 * 64) + y4).toNatClampNeg) → bX0_nightAt_66 R_9 y3 y4 y5 y6 σ2 Q))))))
set_option maxHeartbeats 4000000 in
set_option maxRecDepth 100000 in
theorem tX0_nightAt_9 {R_9 : Int32 × Int32 × Int32 × Int32 × St → Prop} {Q : Int32 → St → Prop} (M : MC p s m args meth c cX0_nightAt 7 (some .int) RX0 Y) (hN : yN Y = 108) (hR_9 : ∀ (y3 y4 y5 y6 : Int32) (σ : St) (H : Heap) (locs : List Loc) (ls : Array Slot), WS Y (AD Y) s.heap σ H locs → lv_has ls 7 [(0, .ref (yA Y 15)), (3, .int y3), (4, .int y4), (5, .int y5), (6, .int y6)] → R_9 (y3, y4, y5, y6, σ) → W p l e { frames := 1, cells := 0, slots := 0, locals := 22 } s m args below meth c H locs 0 0 (MQ below (QI Y Q) args s 0 0 (AD Y)) (F0 m 9 ls [])) (y3 : Int32) (y4 : Int32) (y5 : Int32) (y6 : Int32) (σ : St) (H : Heap) (locs : List Loc) (ls : Array Slot) (hw : WS Y (AD Y) s.heap σ H locs) (hl : lv_has ls 7 [(0, .ref (yA Y 15)), (3, .int y3), (4, .int y4), (5, .int y5), (6, .int y6)]) (h : bX0_nightAt_9 R_9 y3 y4 y5 y6 σ Q) : W p l e { frames := 1, cells := 0, slots := 0, locals := 22 } s m args below meth c H locs 0 0 (MQ below (QI Y Q) args s 0 0 (AD Y)) (F0 m 9 ls []) := by
  obtain ⟨hx, hb, hr, hml, hown, hlk, hT, hK, hB⟩ := id M
  unfold bX0_nightAt_9 at h
  refine lv_iload hx hb dX0_nightAt_9 (lv_at hl 4 rfl) ?_
  refine lv_aload_n hx hb dX0_nightAt_11 rfl (lv_at hl 0 rfl) ?_
  refine q_get (v := .int (σ.1 15 3)) M hw (ob_15 hN) rfl inq_0 3 (by decide) tw_171 rfl dX0_nightAt_12 ?_
  refine lv_icmp_ge (tgt := 72) hx hb dX0_nightAt_15 (by decide) (fun c1 => ?_) (fun c1 => ?_)
  · have h := h.1 c1
    refine lv_bipush (v := (-5)) hx hb dX0_nightAt_72 (by decide) ?_
    exact q_iret M hw h dX0_nightAt_74
  · have h := h.2 c1
    refine lv_aload_n hx hb dX0_nightAt_18 rfl (lv_at hl 0 rfl) ?_
    refine lv_iload hx hb dX0_nightAt_19 (lv_at hl 4 rfl) ?_
    refine lv_iload hx hb dX0_nightAt_21 (lv_at hl 2 rfl) ?_
    refine q_goI hw (q_runV (rest := []) M hw (ctX0_nightsWith l hB hN y6 y4 σ _ h) mbX0_nightsWith (ob_15 hN) rfl tw_512 rfl hl.1 rfl (Nat.le_of_ble_eq_true rfl) ⟨Nat.le_of_ble_eq_true rfl, Nat.le_of_ble_eq_true rfl⟩ ⟨Nat.le_refl _, Nat.le_refl _⟩ dX0_nightAt_23) (fun r3 σ2 H locs h hw => ?_)
    refine lv_aload_n hx hb dX0_nightAt_26 rfl (lv_at hl 0 rfl) ?_
    refine q_get (v := .ref (yA Y 16)) M hw (ob_15 hN) rfl inq_0 0 (by decide) tw_168 rfl dX0_nightAt_27 ?_
    refine lv_iload hx hb dX0_nightAt_30 (lv_at hl 4 rfl) ?_
    refine lv_bipush (v := 64) hx hb dX0_nightAt_32 (by decide) ?_
    refine lv_imul hx hb dX0_nightAt_34 ?_
    refine lv_iload hx hb dX0_nightAt_35 (lv_at hl 2 rfl) ?_
    refine lv_iadd hx hb dX0_nightAt_37 ?_
    have c4 := h.1
    have h := h.2
    refine q_ild M hw (ar_16 hN) c4 dX0_nightAt_38 ?_
    refine lv_icmp_ne (tgt := 66) hx hb dX0_nightAt_39 (by decide) (fun c5 => ?_) (fun c5 => ?_)
    · have h := h.2 c5
      exact tX0_nightAt_66 M hN hR_9 y3 y4 y5 y6 σ2 _ _ _ hw (lv_sub hl [0, 1, 2, 3, 4] rfl) h
    · have h := h.1 c5
      refine lv_iload hx hb dX0_nightAt_42 (lv_at hl 3 rfl) ?_
      refine lv_iload_n hx hb dX0_nightAt_44 rfl (lv_at hl 1 rfl) ?_
      refine lv_icmp_ne (tgt := 51) hx hb dX0_nightAt_45 (by decide) (fun c6 => ?_) (fun c6 => ?_)
      · have h := h.2 c6
        obtain ⟨x7, ex7⟩ : ∃ y : Int32, y = y5 + 1 := ⟨_, rfl⟩
        have h := h x7 ex7
        refine lv_iinc (v := x7) (lv' := [(5, .int x7), (0, .ref (yA Y 15)), (3, .int y3), (4, .int y4), (6, .int y6)]) hx hb dX0_nightAt_51 hl (k := 3) rfl (by rw [ex7]; rfl) (by decide) rfl (fun ls hl => ?_)
        refine lv_iload hx hb dX0_nightAt_54 (lv_at hl 3 rfl) ?_
        refine lv_aload_n hx hb dX0_nightAt_56 rfl (lv_at hl 1 rfl) ?_
        refine q_get (v := .ref (yA Y 17)) M hw (ob_15 hN) rfl inq_0 1 (by decide) tw_169 rfl dX0_nightAt_57 ?_
        refine lv_iload hx hb dX0_nightAt_60 (lv_at hl 4 rfl) ?_
        have c8 := h.1
        have h := h.2
        refine q_ild M hw (ar_17 hN) c8 dX0_nightAt_62 ?_
        refine lv_isub hx hb dX0_nightAt_63 ?_
        refine lv_topi (fun x9 ex9 => ?_)
        have h := h x9 ex9
        refine lv_istore (lv' := [(4, .int x9), (5, .int x7), (0, .ref (yA Y 15)), (3, .int y3), (6, .int y6)]) hx hb dX0_nightAt_64 hl (by decide) rfl (fun ls hl => ?_)
        exact tX0_nightAt_66 M hN hR_9 y3 x9 x7 y6 σ2 _ _ _ hw (lv_sub hl [2, 3, 0, 1, 4] rfl) h
      · have h := h.1 c6
        refine lv_iload hx hb dX0_nightAt_48 (lv_at hl 4 rfl) ?_
        exact q_iret M hw h dX0_nightAt_50
def lX0_nightAt_9 (Q : Int32 → St → Prop) : (Int32 × Int32 × Int32 × Int32 × St → Prop) → Int32 × Int32 × Int32 × Int32 × St → Prop := fun R a => bX0_nightAt_9 R a.1 a.2.1 a.2.2.1 a.2.2.2.1 a.2.2.2.2 Q
theorem tlX0_nightAt_9 {Q : Int32 → St → Prop} (M : MC p s m args meth c cX0_nightAt 7 (some .int) RX0 Y) (hN : yN Y = 108) (n : Nat) : ∀ (y3 : Int32) (y4 : Int32) (y5 : Int32) (y6 : Int32) (σ : St) (H : Heap) (locs : List Loc) (ls : Array Slot) (hw : WS Y (AD Y) s.heap σ H locs) (hl : lv_has ls 7 [(0, .ref (yA Y 15)), (3, .int y3), (4, .int y4), (5, .int y5), (6, .int y6)]) (h : Lp (lX0_nightAt_9 Q) n (y3, y4, y5, y6, σ)), W p l e { frames := 1, cells := 0, slots := 0, locals := 22 } s m args below meth c H locs 0 0 (MQ below (QI Y Q) args s 0 0 (AD Y)) (F0 m 9 ls []) := by
  induction n with
  | zero => intro y3 y4 y5 y6 σ H locs ls hw hl h; exact h.elim
  | succ n ih =>
    intro y3 y4 y5 y6 σ H locs ls hw hl h
    exact tX0_nightAt_9 M hN ih y3 y4 y5 y6 σ H locs ls hw hl h
def wX0_nightAt (a0 : Int32) (a1 : Int32) (a2 : Int32) (σ : St) (Q : Int32 → St → Prop) : Prop :=
  ∃ n : Nat, Lp (lX0_nightAt_9 Q) n (a2, a1, 0, a0, σ)
set_option maxHeartbeats 4000000 in
set_option maxRecDepth 100000 in
theorem tX0_nightAt_E {Q : Int32 → St → Prop} (M : MC p s m args meth c cX0_nightAt 7 (some .int) RX0 Y) (hN : yN Y = 108) (a0 : Int32) (a1 : Int32) (a2 : Int32) (σ : St) (H : Heap) (locs : List Loc) (ls : Array Slot) (hw : WS Y (AD Y) s.heap σ H locs) (hl : lv_has ls 7 [(0, .ref (yA Y 15)), (1, .int a0), (2, .int a1), (3, .int a2)]) (h : wX0_nightAt a0 a1 a2 σ Q) : W p l e { frames := 1, cells := 0, slots := 0, locals := 22 } s m args below meth c H locs 0 0 (MQ below (QI Y Q) args s 0 0 (AD Y)) (F0 m 0 ls []) := by
  obtain ⟨hx, hb, hr, hml, hown, hlk, hT, hK, hB⟩ := id M
  unfold wX0_nightAt at h
  refine lv_iload_n hx hb dX0_nightAt_0 rfl (lv_at hl 2 rfl) ?_
  refine lv_istore (lv' := [(4, .int a1), (0, .ref (yA Y 15)), (1, .int a0), (2, .int a1), (3, .int a2)]) hx hb dX0_nightAt_1 hl (by decide) rfl (fun ls hl => ?_)
  refine lv_iconst (v := 0) hx hb dX0_nightAt_3 (by decide) ?_
  refine lv_istore (lv' := [(5, .int 0), (4, .int a1), (0, .ref (yA Y 15)), (1, .int a0), (2, .int a1), (3, .int a2)]) hx hb dX0_nightAt_4 hl (by decide) rfl (fun ls hl => ?_)
  refine lv_iload_n hx hb dX0_nightAt_6 rfl (lv_at hl 3 rfl) ?_
  refine lv_istore (lv' := [(6, .int a0), (5, .int 0), (4, .int a1), (0, .ref (yA Y 15)), (1, .int a0), (2, .int a1), (3, .int a2)]) hx hb dX0_nightAt_7 hl (by decide) rfl (fun ls hl => ?_)
  obtain ⟨n, h⟩ := h
  exact tlX0_nightAt_9 M hN n a2 a1 0 a0 σ _ _ _ hw (lv_sub hl [3, 6, 2, 1, 0] rfl) h
set_option maxRecDepth 100000 in
theorem ctX0_nightAt (l : Launch) {Y : LY} (hB : YB Y) (hN : yN Y = 108) (a0 : Int32) (a1 : Int32) (a2 : Int32) (σ : St) (Q : Int32 → St → Prop) (h : wX0_nightAt a0 a1 a2 σ Q) : CT l yX0_nightAt (Cond.code yX0_nightAt cX0_nightAt 7 (some .int)) { frames := 1, cells := 0, slots := 0, locals := 22 } Y [.ref (yA Y 15), .int a0, .int a1, .int a2] σ (QI Y Q) :=
  q_ent hB (by decide +kernel) (Nat.le_of_ble_eq_true rfl) (fun p e s m below meth c ls M hw hl => tX0_nightAt_E M hN a0 a1 a2 σ _ _ ls hw hl h)
theorem mbX0_nightAt : MB RX0 yX0_nightAt cX0_nightAt 3 7 (some .int) := ⟨tw_523, tw_524, tw_52, tw_525, by decide +kernel⟩
end
section
variable {p : Program} {l : Launch} {e : Env} {s : State} {m : MethodId} {args : Array Value} {below : List Frame} {meth : Method} {c : Code} {Y : LY}
theorem dX1_add_0 : decode cX1_add 0 = .ok (.aload_n 0, 1) := by decide +kernel
theorem dX1_add_1 : decode cX1_add 1 = .ok (.getfield 21, 3) := by decide +kernel
theorem dX1_add_4 : decode cX1_add 4 = .ok (.bipush 6, 2) := by decide +kernel
theorem dX1_add_6 : decode cX1_add 6 = .ok (.if_icmp .lt 5, 3) := by decide +kernel
theorem dX1_add_9 : decode cX1_add 9 = .ok (.iconst 0, 1) := by decide +kernel
theorem dX1_add_10 : decode cX1_add 10 = .ok (.ireturn, 1) := by decide +kernel
theorem dX1_add_11 : decode cX1_add 11 = .ok (.aload_n 0, 1) := by decide +kernel
theorem dX1_add_12 : decode cX1_add 12 = .ok (.getfield 9, 3) := by decide +kernel
theorem dX1_add_15 : decode cX1_add 15 = .ok (.aload_n 0, 1) := by decide +kernel
theorem dX1_add_16 : decode cX1_add 16 = .ok (.getfield 21, 3) := by decide +kernel
theorem dX1_add_19 : decode cX1_add 19 = .ok (.iload_n 1, 1) := by decide +kernel
theorem dX1_add_20 : decode cX1_add 20 = .ok (.iastore, 1) := by decide +kernel
theorem dX1_add_21 : decode cX1_add 21 = .ok (.aload_n 0, 1) := by decide +kernel
theorem dX1_add_22 : decode cX1_add 22 = .ok (.getfield 15, 3) := by decide +kernel
theorem dX1_add_25 : decode cX1_add 25 = .ok (.aload_n 0, 1) := by decide +kernel
theorem dX1_add_26 : decode cX1_add 26 = .ok (.getfield 21, 3) := by decide +kernel
theorem dX1_add_29 : decode cX1_add 29 = .ok (.iload_n 2, 1) := by decide +kernel
theorem dX1_add_30 : decode cX1_add 30 = .ok (.iastore, 1) := by decide +kernel
theorem dX1_add_31 : decode cX1_add 31 = .ok (.aload_n 0, 1) := by decide +kernel
theorem dX1_add_32 : decode cX1_add 32 = .ok (.getfield 18, 3) := by decide +kernel
theorem dX1_add_35 : decode cX1_add 35 = .ok (.aload_n 0, 1) := by decide +kernel
theorem dX1_add_36 : decode cX1_add 36 = .ok (.getfield 21, 3) := by decide +kernel
theorem dX1_add_39 : decode cX1_add 39 = .ok (.iload_n 3, 1) := by decide +kernel
theorem dX1_add_40 : decode cX1_add 40 = .ok (.iastore, 1) := by decide +kernel
theorem dX1_add_41 : decode cX1_add 41 = .ok (.aload_n 0, 1) := by decide +kernel
theorem dX1_add_42 : decode cX1_add 42 = .ok (.dup, 1) := by decide +kernel
theorem dX1_add_43 : decode cX1_add 43 = .ok (.getfield 21, 3) := by decide +kernel
theorem dX1_add_46 : decode cX1_add 46 = .ok (.iconst 1, 1) := by decide +kernel
theorem dX1_add_47 : decode cX1_add 47 = .ok (.iadd, 1) := by decide +kernel
theorem dX1_add_48 : decode cX1_add 48 = .ok (.putfield 21, 3) := by decide +kernel
theorem dX1_add_51 : decode cX1_add 51 = .ok (.iconst 1, 1) := by decide +kernel
theorem dX1_add_52 : decode cX1_add 52 = .ok (.ireturn, 1) := by decide +kernel
def wX1_add (a0 : Int32) (a1 : Int32) (a2 : Int32) (σ : St) (Q : Int32 → St → Prop) : Prop :=
  (((σ.1 87 3) < 6 → (vp_in (σ.1 87 3) 6 ∧ ∀ σ3 : St, σ3 = up σ 88 (σ.1 87 3).toNatClampNeg a0 → (vp_in (σ3.1 87 3) 6 ∧ ∀ σ5 : St, σ5 = up σ3 89 (σ3.1 87 3).toNatClampNeg a1 → (vp_in (σ5.1 87 3) 6 ∧ ∀ σ7 : St, σ7 = up σ5 90 (σ5.1 87 3).toNatClampNeg a2 → (∀ σ8 : St, σ8 = up σ7 87 3 ((σ7.1 87 3) + 1) → Q 1 σ8))))) ∧ (¬ (σ.1 87 3) < 6 → Q 0 σ))
set_option maxHeartbeats 4000000 in
set_option maxRecDepth 100000 in
theorem tX1_add_E {Q : Int32 → St → Prop} (M : MC p s m args meth c cX1_add 4 (some .boolean) RX1 Y) (hN : yN Y = 108) (a0 : Int32) (a1 : Int32) (a2 : Int32) (σ : St) (H : Heap) (locs : List Loc) (ls : Array Slot) (hw : WS Y (AD Y) s.heap σ H locs) (hl : lv_has ls 4 [(0, .ref (yA Y 87)), (1, .int a0), (2, .int a1), (3, .int a2)]) (h : wX1_add a0 a1 a2 σ Q) : W p l e { frames := 0, cells := 0, slots := 0, locals := 0 } s m args below meth c H locs 0 0 (MQ below (QI Y Q) args s 0 0 (AD Y)) (F0 m 0 ls []) := by
  obtain ⟨hx, hb, hr, hml, hown, hlk, hT, hK, hB⟩ := id M
  unfold wX1_add at h
  refine lv_aload_n hx hb dX1_add_0 rfl (lv_at hl 0 rfl) ?_
  refine q_get (v := .int (σ.1 87 3)) M hw (ob_87 hN) rfl inq_1 3 (by decide) tw_255 rfl dX1_add_1 ?_
  refine lv_bipush (v := 6) hx hb dX1_add_4 (by decide) ?_
  refine lv_icmp_lt (tgt := 11) hx hb dX1_add_6 (by decide) (fun c1 => ?_) (fun c1 => ?_)
  · have h := h.1 c1
    refine lv_aload_n hx hb dX1_add_11 rfl (lv_at hl 0 rfl) ?_
    refine q_get (v := .ref (yA Y 88)) M hw (ob_87 hN) rfl inq_1 0 (by decide) tw_249 rfl dX1_add_12 ?_
    refine lv_aload_n hx hb dX1_add_15 rfl (lv_at hl 0 rfl) ?_
    refine q_get (v := .int (σ.1 87 3)) M hw (ob_87 hN) rfl inq_1 3 (by decide) tw_255 rfl dX1_add_16 ?_
    refine lv_iload_n hx hb dX1_add_19 rfl (lv_at hl 1 rfl) ?_
    have c2 := h.1
    refine q_ist M hw (ar_88 hN) c2 dX1_add_20 (fun σ3 H locs es hw => ?_)
    have h := h.2 σ3 es
    refine lv_aload_n hx hb dX1_add_21 rfl (lv_at hl 0 rfl) ?_
    refine q_get (v := .ref (yA Y 89)) M hw (ob_87 hN) rfl inq_1 1 (by decide) tw_251 rfl dX1_add_22 ?_
    refine lv_aload_n hx hb dX1_add_25 rfl (lv_at hl 0 rfl) ?_
    refine q_get (v := .int (σ3.1 87 3)) M hw (ob_87 hN) rfl inq_1 3 (by decide) tw_255 rfl dX1_add_26 ?_
    refine lv_iload_n hx hb dX1_add_29 rfl (lv_at hl 2 rfl) ?_
    have c4 := h.1
    refine q_ist M hw (ar_89 hN) c4 dX1_add_30 (fun σ5 H locs es hw => ?_)
    have h := h.2 σ5 es
    refine lv_aload_n hx hb dX1_add_31 rfl (lv_at hl 0 rfl) ?_
    refine q_get (v := .ref (yA Y 90)) M hw (ob_87 hN) rfl inq_1 2 (by decide) tw_253 rfl dX1_add_32 ?_
    refine lv_aload_n hx hb dX1_add_35 rfl (lv_at hl 0 rfl) ?_
    refine q_get (v := .int (σ5.1 87 3)) M hw (ob_87 hN) rfl inq_1 3 (by decide) tw_255 rfl dX1_add_36 ?_
    refine lv_iload_n hx hb dX1_add_39 rfl (lv_at hl 3 rfl) ?_
    have c6 := h.1
    refine q_ist M hw (ar_90 hN) c6 dX1_add_40 (fun σ7 H locs es hw => ?_)
    have h := h.2 σ7 es
    refine lv_aload_n hx hb dX1_add_41 rfl (lv_at hl 0 rfl) ?_
    refine lv_dup hx hb dX1_add_42 rfl ?_
    refine q_get (v := .int (σ7.1 87 3)) M hw (ob_87 hN) rfl inq_1 3 (by decide) tw_255 rfl dX1_add_43 ?_
    refine lv_iconst (v := 1) hx hb dX1_add_46 (by decide) ?_
    refine lv_iadd hx hb dX1_add_47 ?_
    refine q_put (v := ((σ7.1 87 3) + 1)) M hw (ob_87 hN) rfl inq_1 tyX1 tyX1_ok nmX1 3 (by decide) tw_255 rfl rfl rfl (Nat.le_of_ble_eq_true rfl) (by simp [up, upd, f0]) dX1_add_48 (fun σ8 H locs es hw => ?_)
    have h := h σ8 es
    refine lv_iconst (v := 1) hx hb dX1_add_51 (by decide) ?_
    exact q_zret M hw (by decide) h dX1_add_52
  · have h := h.2 c1
    refine lv_iconst (v := 0) hx hb dX1_add_9 (by decide) ?_
    exact q_zret M hw (by decide) h dX1_add_10
set_option maxRecDepth 100000 in
theorem ctX1_add (l : Launch) {Y : LY} (hB : YB Y) (hN : yN Y = 108) (a0 : Int32) (a1 : Int32) (a2 : Int32) (σ : St) (Q : Int32 → St → Prop) (h : wX1_add a0 a1 a2 σ Q) : CT l yX1_add (Cond.code yX1_add cX1_add 4 (some .boolean)) { frames := 0, cells := 0, slots := 0, locals := 0 } Y [.ref (yA Y 87), .int a0, .int a1, .int a2] σ (QI Y Q) :=
  q_ent hB (by decide +kernel) (Nat.le_of_ble_eq_true rfl) (fun p e s m below meth c ls M hw hl => tX1_add_E M hN a0 a1 a2 σ _ _ ls hw hl h)
theorem mbX1_add : MB RX1 yX1_add cX1_add 3 4 (some .boolean) := ⟨tw_557, tw_558, tw_55, tw_559, by decide +kernel⟩
end
section
variable {p : Program} {l : Launch} {e : Env} {s : State} {m : MethodId} {args : Array Value} {below : List Frame} {meth : Method} {c : Code} {Y : LY}
theorem dX5_copy_0 : decode cX5_copy 0 = .ok (.aload_n 0, 1) := by decide +kernel
theorem dX5_copy_1 : decode cX5_copy 1 = .ok (.aload_n 1, 1) := by decide +kernel
theorem dX5_copy_2 : decode cX5_copy 2 = .ok (.getfield 24, 3) := by decide +kernel
theorem dX5_copy_5 : decode cX5_copy 5 = .ok (.putfield 24, 3) := by decide +kernel
theorem dX5_copy_8 : decode cX5_copy 8 = .ok (.aload_n 0, 1) := by decide +kernel
theorem dX5_copy_9 : decode cX5_copy 9 = .ok (.aload_n 1, 1) := by decide +kernel
theorem dX5_copy_10 : decode cX5_copy 10 = .ok (.getfield 33, 3) := by decide +kernel
theorem dX5_copy_13 : decode cX5_copy 13 = .ok (.putfield 33, 3) := by decide +kernel
theorem dX5_copy_16 : decode cX5_copy 16 = .ok (.aload_n 0, 1) := by decide +kernel
theorem dX5_copy_17 : decode cX5_copy 17 = .ok (.aload_n 1, 1) := by decide +kernel
theorem dX5_copy_18 : decode cX5_copy 18 = .ok (.getfield 36, 3) := by decide +kernel
theorem dX5_copy_21 : decode cX5_copy 21 = .ok (.putfield 36, 3) := by decide +kernel
theorem dX5_copy_24 : decode cX5_copy 24 = .ok (.iconst 0, 1) := by decide +kernel
theorem dX5_copy_25 : decode cX5_copy 25 = .ok (.istore_n 2, 1) := by decide +kernel
theorem dX5_copy_26 : decode cX5_copy 26 = .ok (.iload_n 2, 1) := by decide +kernel
theorem dX5_copy_27 : decode cX5_copy 27 = .ok (.iconst 5, 1) := by decide +kernel
theorem dX5_copy_28 : decode cX5_copy 28 = .ok (.if_icmp .ge 33, 3) := by decide +kernel
theorem dX5_copy_31 : decode cX5_copy 31 = .ok (.aload_n 0, 1) := by decide +kernel
theorem dX5_copy_32 : decode cX5_copy 32 = .ok (.getfield 9, 3) := by decide +kernel
theorem dX5_copy_35 : decode cX5_copy 35 = .ok (.iload_n 2, 1) := by decide +kernel
theorem dX5_copy_36 : decode cX5_copy 36 = .ok (.aload_n 1, 1) := by decide +kernel
theorem dX5_copy_37 : decode cX5_copy 37 = .ok (.getfield 9, 3) := by decide +kernel
theorem dX5_copy_40 : decode cX5_copy 40 = .ok (.iload_n 2, 1) := by decide +kernel
theorem dX5_copy_41 : decode cX5_copy 41 = .ok (.iaload, 1) := by decide +kernel
theorem dX5_copy_42 : decode cX5_copy 42 = .ok (.iastore, 1) := by decide +kernel
theorem dX5_copy_43 : decode cX5_copy 43 = .ok (.aload_n 0, 1) := by decide +kernel
theorem dX5_copy_44 : decode cX5_copy 44 = .ok (.getfield 15, 3) := by decide +kernel
theorem dX5_copy_47 : decode cX5_copy 47 = .ok (.iload_n 2, 1) := by decide +kernel
theorem dX5_copy_48 : decode cX5_copy 48 = .ok (.aload_n 1, 1) := by decide +kernel
theorem dX5_copy_49 : decode cX5_copy 49 = .ok (.getfield 15, 3) := by decide +kernel
theorem dX5_copy_52 : decode cX5_copy 52 = .ok (.iload_n 2, 1) := by decide +kernel
theorem dX5_copy_53 : decode cX5_copy 53 = .ok (.iaload, 1) := by decide +kernel
theorem dX5_copy_54 : decode cX5_copy 54 = .ok (.iastore, 1) := by decide +kernel
theorem dX5_copy_55 : decode cX5_copy 55 = .ok (.iinc 2 1, 3) := by decide +kernel
theorem dX5_copy_58 : decode cX5_copy 58 = .ok (.goto (-32), 3) := by decide +kernel
theorem dX5_copy_61 : decode cX5_copy 61 = .ok (.iconst 0, 1) := by decide +kernel
theorem dX5_copy_62 : decode cX5_copy 62 = .ok (.istore_n 2, 1) := by decide +kernel
theorem dX5_copy_63 : decode cX5_copy 63 = .ok (.iload_n 2, 1) := by decide +kernel
theorem dX5_copy_64 : decode cX5_copy 64 = .ok (.bipush 7, 2) := by decide +kernel
theorem dX5_copy_66 : decode cX5_copy 66 = .ok (.if_icmp .ge 33, 3) := by decide +kernel
theorem dX5_copy_69 : decode cX5_copy 69 = .ok (.aload_n 0, 1) := by decide +kernel
theorem dX5_copy_70 : decode cX5_copy 70 = .ok (.getfield 18, 3) := by decide +kernel
theorem dX5_copy_73 : decode cX5_copy 73 = .ok (.iload_n 2, 1) := by decide +kernel
theorem dX5_copy_74 : decode cX5_copy 74 = .ok (.aload_n 1, 1) := by decide +kernel
theorem dX5_copy_75 : decode cX5_copy 75 = .ok (.getfield 18, 3) := by decide +kernel
theorem dX5_copy_78 : decode cX5_copy 78 = .ok (.iload_n 2, 1) := by decide +kernel
theorem dX5_copy_79 : decode cX5_copy 79 = .ok (.iaload, 1) := by decide +kernel
theorem dX5_copy_80 : decode cX5_copy 80 = .ok (.iastore, 1) := by decide +kernel
theorem dX5_copy_81 : decode cX5_copy 81 = .ok (.aload_n 0, 1) := by decide +kernel
theorem dX5_copy_82 : decode cX5_copy 82 = .ok (.getfield 21, 3) := by decide +kernel
theorem dX5_copy_85 : decode cX5_copy 85 = .ok (.iload_n 2, 1) := by decide +kernel
theorem dX5_copy_86 : decode cX5_copy 86 = .ok (.aload_n 1, 1) := by decide +kernel
theorem dX5_copy_87 : decode cX5_copy 87 = .ok (.getfield 21, 3) := by decide +kernel
theorem dX5_copy_90 : decode cX5_copy 90 = .ok (.iload_n 2, 1) := by decide +kernel
theorem dX5_copy_91 : decode cX5_copy 91 = .ok (.iaload, 1) := by decide +kernel
theorem dX5_copy_92 : decode cX5_copy 92 = .ok (.iastore, 1) := by decide +kernel
theorem dX5_copy_93 : decode cX5_copy 93 = .ok (.iinc 2 1, 3) := by decide +kernel
theorem dX5_copy_96 : decode cX5_copy 96 = .ok (.goto (-33), 3) := by decide +kernel
theorem dX5_copy_99 : decode cX5_copy 99 = .ok (.return_, 1) := by decide +kernel
def bX5_copy_63 (R_63 : Int32 × St → Prop) (kq : Nat) (oq : Nat) (y2 : Int32) (σ : St) (Q : St → Prop) : Prop :=
  ((7 ≤ y2 → Q σ) ∧ (¬ 7 ≤ y2 → (vp_in y2 7 ∧ (vp_in y2 7 ∧ ∀ σ4 : St, σ4 = up σ (kq + 3) y2.toNatClampNeg (σ.1 (oq + 3) y2.toNatClampNeg) → (vp_in y2 7 ∧ (vp_in y2 7 ∧ ∀ σ7 : St, σ7 = up σ4 (kq + 4) y2.toNatClampNeg (σ4.1 (oq + 4) y2.toNatClampNeg) → (∀ x8 : Int32, x8 = y2 + 1 → R_63 (x8, σ7))))))))
set_option maxHeartbeats 4000000 in
set_option maxRecDepth 100000 in
theorem tX5_copy_63 {R_63 : Int32 × St → Prop} {kq : Nat} {oq : Nat} {Q : St → Prop} (M : MC p s m args meth c cX5_copy 3 none RX5 Y) (hh_kq : SH Y kq) (hh_oq : SH Y oq) (hR_63 : ∀ (y2 : Int32) (σ : St) (H : Heap) (locs : List Loc) (ls : Array Slot), WS Y (AD Y) s.heap σ H locs → lv_has ls 3 [(0, .ref (yA Y kq)), (1, .ref (yA Y oq)), (2, .int y2)] → R_63 (y2, σ) → W p l e { frames := 0, cells := 0, slots := 0, locals := 0 } s m args below meth c H locs 0 0 (MQ below (QV Y Q) args s 0 0 (AD Y)) (F0 m 63 ls [])) (y2 : Int32) (σ : St) (H : Heap) (locs : List Loc) (ls : Array Slot) (hw : WS Y (AD Y) s.heap σ H locs) (hl : lv_has ls 3 [(0, .ref (yA Y kq)), (1, .ref (yA Y oq)), (2, .int y2)]) (h : bX5_copy_63 R_63 kq oq y2 σ Q) : W p l e { frames := 0, cells := 0, slots := 0, locals := 0 } s m args below meth c H locs 0 0 (MQ below (QV Y Q) args s 0 0 (AD Y)) (F0 m 63 ls []) := by
  obtain ⟨hx, hb, hr, hml, hown, hlk, hT, hK, hB⟩ := id M
  unfold bX5_copy_63 at h
  refine lv_iload_n hx hb dX5_copy_63 rfl (lv_at hl 2 rfl) ?_
  refine lv_bipush (v := 7) hx hb dX5_copy_64 (by decide) ?_
  refine lv_icmp_ge (tgt := 99) hx hb dX5_copy_66 (by decide) (fun c1 => ?_) (fun c1 => ?_)
  · have h := h.1 c1
    exact q_vret M hw h dX5_copy_99
  · have h := h.2 c1
    refine lv_aload_n hx hb dX5_copy_69 rfl (lv_at hl 0 rfl) ?_
    refine q_get (v := .ref (yA Y (kq + 3))) M hw (sh_ob hh_kq) rfl inq_5 2 (by decide) tw_194 rfl dX5_copy_70 ?_
    refine lv_iload_n hx hb dX5_copy_73 rfl (lv_at hl 2 rfl) ?_
    refine lv_aload_n hx hb dX5_copy_74 rfl (lv_at hl 1 rfl) ?_
    refine q_get (v := .ref (yA Y (oq + 3))) M hw (sh_ob hh_oq) rfl inq_5 2 (by decide) tw_194 rfl dX5_copy_75 ?_
    refine lv_iload_n hx hb dX5_copy_78 rfl (lv_at hl 2 rfl) ?_
    have c2 := h.1
    have h := h.2
    refine q_ild M hw (sh_a3 hh_oq) c2 dX5_copy_79 ?_
    have c3 := h.1
    refine q_ist M hw (sh_a3 hh_kq) c3 dX5_copy_80 (fun σ4 H locs es hw => ?_)
    have h := h.2 σ4 es
    refine lv_aload_n hx hb dX5_copy_81 rfl (lv_at hl 0 rfl) ?_
    refine q_get (v := .ref (yA Y (kq + 4))) M hw (sh_ob hh_kq) rfl inq_5 3 (by decide) tw_196 rfl dX5_copy_82 ?_
    refine lv_iload_n hx hb dX5_copy_85 rfl (lv_at hl 2 rfl) ?_
    refine lv_aload_n hx hb dX5_copy_86 rfl (lv_at hl 1 rfl) ?_
    refine q_get (v := .ref (yA Y (oq + 4))) M hw (sh_ob hh_oq) rfl inq_5 3 (by decide) tw_196 rfl dX5_copy_87 ?_
    refine lv_iload_n hx hb dX5_copy_90 rfl (lv_at hl 2 rfl) ?_
    have c5 := h.1
    have h := h.2
    refine q_ild M hw (sh_a4 hh_oq) c5 dX5_copy_91 ?_
    have c6 := h.1
    refine q_ist M hw (sh_a4 hh_kq) c6 dX5_copy_92 (fun σ7 H locs es hw => ?_)
    have h := h.2 σ7 es
    obtain ⟨x8, ex8⟩ : ∃ y : Int32, y = y2 + 1 := ⟨_, rfl⟩
    have h := h x8 ex8
    refine lv_iinc (v := x8) (lv' := [(2, .int x8), (0, .ref (yA Y kq)), (1, .ref (yA Y oq))]) hx hb dX5_copy_93 hl (k := 2) rfl (by rw [ex8]; rfl) (by decide) rfl (fun ls hl => ?_)
    refine lv_goto (tgt := 63) hx hb dX5_copy_96 (by decide) ?_
    exact hR_63 x8 σ7 _ _ _ hw (lv_sub hl [1, 2, 0] rfl) h
def lX5_copy_63 (kq : Nat) (oq : Nat) (Q : St → Prop) : (Int32 × St → Prop) → Int32 × St → Prop := fun R a => bX5_copy_63 R kq oq a.1 a.2 Q
theorem tlX5_copy_63 {kq : Nat} {oq : Nat} {Q : St → Prop} (M : MC p s m args meth c cX5_copy 3 none RX5 Y) (hh_kq : SH Y kq) (hh_oq : SH Y oq) (n : Nat) : ∀ (y2 : Int32) (σ : St) (H : Heap) (locs : List Loc) (ls : Array Slot) (hw : WS Y (AD Y) s.heap σ H locs) (hl : lv_has ls 3 [(0, .ref (yA Y kq)), (1, .ref (yA Y oq)), (2, .int y2)]) (h : Lp (lX5_copy_63 kq oq Q) n (y2, σ)), W p l e { frames := 0, cells := 0, slots := 0, locals := 0 } s m args below meth c H locs 0 0 (MQ below (QV Y Q) args s 0 0 (AD Y)) (F0 m 63 ls []) := by
  induction n with
  | zero => intro y2 σ H locs ls hw hl h; exact h.elim
  | succ n ih =>
    intro y2 σ H locs ls hw hl h
    exact tX5_copy_63 M hh_kq hh_oq ih y2 σ H locs ls hw hl h
def bX5_copy_26 (R_26 : Int32 × St → Prop) (kq : Nat) (oq : Nat) (y2 : Int32) (σ : St) (Q : St → Prop) : Prop :=
  ((5 ≤ y2 → ∃ n : Nat, Lp (lX5_copy_63 kq oq Q) n (0, σ)) ∧ (¬ 5 ≤ y2 → (vp_in y2 5 ∧ (vp_in y2 5 ∧ ∀ σ4 : St, σ4 = up σ (kq + 1) y2.toNatClampNeg (σ.1 (oq + 1) y2.toNatClampNeg) → (vp_in y2 5 ∧ (vp_in y2 5 ∧ ∀ σ7 : St, σ7 = up σ4 (kq + 2) y2.toNatClampNeg (σ4.1 (oq + 2) y2.toNatClampNeg) → (∀ x8 : Int32, x8 = y2 + 1 → R_26 (x8, σ7))))))))
set_option maxHeartbeats 4000000 in
set_option maxRecDepth 100000 in
theorem tX5_copy_26 {R_26 : Int32 × St → Prop} {kq : Nat} {oq : Nat} {Q : St → Prop} (M : MC p s m args meth c cX5_copy 3 none RX5 Y) (hh_kq : SH Y kq) (hh_oq : SH Y oq) (hR_26 : ∀ (y2 : Int32) (σ : St) (H : Heap) (locs : List Loc) (ls : Array Slot), WS Y (AD Y) s.heap σ H locs → lv_has ls 3 [(0, .ref (yA Y kq)), (1, .ref (yA Y oq)), (2, .int y2)] → R_26 (y2, σ) → W p l e { frames := 0, cells := 0, slots := 0, locals := 0 } s m args below meth c H locs 0 0 (MQ below (QV Y Q) args s 0 0 (AD Y)) (F0 m 26 ls [])) (y2 : Int32) (σ : St) (H : Heap) (locs : List Loc) (ls : Array Slot) (hw : WS Y (AD Y) s.heap σ H locs) (hl : lv_has ls 3 [(0, .ref (yA Y kq)), (1, .ref (yA Y oq)), (2, .int y2)]) (h : bX5_copy_26 R_26 kq oq y2 σ Q) : W p l e { frames := 0, cells := 0, slots := 0, locals := 0 } s m args below meth c H locs 0 0 (MQ below (QV Y Q) args s 0 0 (AD Y)) (F0 m 26 ls []) := by
  obtain ⟨hx, hb, hr, hml, hown, hlk, hT, hK, hB⟩ := id M
  unfold bX5_copy_26 at h
  refine lv_iload_n hx hb dX5_copy_26 rfl (lv_at hl 2 rfl) ?_
  refine lv_iconst (v := 5) hx hb dX5_copy_27 (by decide) ?_
  refine lv_icmp_ge (tgt := 61) hx hb dX5_copy_28 (by decide) (fun c1 => ?_) (fun c1 => ?_)
  · have h := h.1 c1
    refine lv_iconst (v := 0) hx hb dX5_copy_61 (by decide) ?_
    refine lv_istore_n (lv' := [(2, .int 0), (0, .ref (yA Y kq)), (1, .ref (yA Y oq))]) hx hb dX5_copy_62 rfl hl (by decide) rfl (fun ls hl => ?_)
    obtain ⟨n, h⟩ := h
    exact tlX5_copy_63 M hh_kq hh_oq n 0 σ _ _ _ hw (lv_sub hl [1, 2, 0] rfl) h
  · have h := h.2 c1
    refine lv_aload_n hx hb dX5_copy_31 rfl (lv_at hl 0 rfl) ?_
    refine q_get (v := .ref (yA Y (kq + 1))) M hw (sh_ob hh_kq) rfl inq_5 0 (by decide) tw_190 rfl dX5_copy_32 ?_
    refine lv_iload_n hx hb dX5_copy_35 rfl (lv_at hl 2 rfl) ?_
    refine lv_aload_n hx hb dX5_copy_36 rfl (lv_at hl 1 rfl) ?_
    refine q_get (v := .ref (yA Y (oq + 1))) M hw (sh_ob hh_oq) rfl inq_5 0 (by decide) tw_190 rfl dX5_copy_37 ?_
    refine lv_iload_n hx hb dX5_copy_40 rfl (lv_at hl 2 rfl) ?_
    have c2 := h.1
    have h := h.2
    refine q_ild M hw (sh_a1 hh_oq) c2 dX5_copy_41 ?_
    have c3 := h.1
    refine q_ist M hw (sh_a1 hh_kq) c3 dX5_copy_42 (fun σ4 H locs es hw => ?_)
    have h := h.2 σ4 es
    refine lv_aload_n hx hb dX5_copy_43 rfl (lv_at hl 0 rfl) ?_
    refine q_get (v := .ref (yA Y (kq + 2))) M hw (sh_ob hh_kq) rfl inq_5 1 (by decide) tw_192 rfl dX5_copy_44 ?_
    refine lv_iload_n hx hb dX5_copy_47 rfl (lv_at hl 2 rfl) ?_
    refine lv_aload_n hx hb dX5_copy_48 rfl (lv_at hl 1 rfl) ?_
    refine q_get (v := .ref (yA Y (oq + 2))) M hw (sh_ob hh_oq) rfl inq_5 1 (by decide) tw_192 rfl dX5_copy_49 ?_
    refine lv_iload_n hx hb dX5_copy_52 rfl (lv_at hl 2 rfl) ?_
    have c5 := h.1
    have h := h.2
    refine q_ild M hw (sh_a2 hh_oq) c5 dX5_copy_53 ?_
    have c6 := h.1
    refine q_ist M hw (sh_a2 hh_kq) c6 dX5_copy_54 (fun σ7 H locs es hw => ?_)
    have h := h.2 σ7 es
    obtain ⟨x8, ex8⟩ : ∃ y : Int32, y = y2 + 1 := ⟨_, rfl⟩
    have h := h x8 ex8
    refine lv_iinc (v := x8) (lv' := [(2, .int x8), (0, .ref (yA Y kq)), (1, .ref (yA Y oq))]) hx hb dX5_copy_55 hl (k := 2) rfl (by rw [ex8]; rfl) (by decide) rfl (fun ls hl => ?_)
    refine lv_goto (tgt := 26) hx hb dX5_copy_58 (by decide) ?_
    exact hR_26 x8 σ7 _ _ _ hw (lv_sub hl [1, 2, 0] rfl) h
def lX5_copy_26 (kq : Nat) (oq : Nat) (Q : St → Prop) : (Int32 × St → Prop) → Int32 × St → Prop := fun R a => bX5_copy_26 R kq oq a.1 a.2 Q
theorem tlX5_copy_26 {kq : Nat} {oq : Nat} {Q : St → Prop} (M : MC p s m args meth c cX5_copy 3 none RX5 Y) (hh_kq : SH Y kq) (hh_oq : SH Y oq) (n : Nat) : ∀ (y2 : Int32) (σ : St) (H : Heap) (locs : List Loc) (ls : Array Slot) (hw : WS Y (AD Y) s.heap σ H locs) (hl : lv_has ls 3 [(0, .ref (yA Y kq)), (1, .ref (yA Y oq)), (2, .int y2)]) (h : Lp (lX5_copy_26 kq oq Q) n (y2, σ)), W p l e { frames := 0, cells := 0, slots := 0, locals := 0 } s m args below meth c H locs 0 0 (MQ below (QV Y Q) args s 0 0 (AD Y)) (F0 m 26 ls []) := by
  induction n with
  | zero => intro y2 σ H locs ls hw hl h; exact h.elim
  | succ n ih =>
    intro y2 σ H locs ls hw hl h
    exact tX5_copy_26 M hh_kq hh_oq ih y2 σ H locs ls hw hl h
def wX5_copy (kq : Nat) (oq : Nat) (σ : St) (Q : St → Prop) : Prop :=
  (∀ σ1 : St, σ1 = up σ kq 4 (σ.1 oq 4) → (∀ σ2 : St, σ2 = up σ1 kq 5 (σ1.1 oq 5) → (∀ σ3 : St, σ3 = up σ2 kq 6 (σ2.1 oq 6) → ∃ n : Nat, Lp (lX5_copy_26 kq oq Q) n (0, σ3))))
set_option maxHeartbeats 4000000 in
set_option maxRecDepth 100000 in
theorem tX5_copy_E {kq : Nat} {oq : Nat} {Q : St → Prop} (M : MC p s m args meth c cX5_copy 3 none RX5 Y) (hh_kq : SH Y kq) (hh_oq : SH Y oq)  (σ : St) (H : Heap) (locs : List Loc) (ls : Array Slot) (hw : WS Y (AD Y) s.heap σ H locs) (hl : lv_has ls 3 [(0, .ref (yA Y kq)), (1, .ref (yA Y oq))]) (h : wX5_copy kq oq σ Q) : W p l e { frames := 0, cells := 0, slots := 0, locals := 0 } s m args below meth c H locs 0 0 (MQ below (QV Y Q) args s 0 0 (AD Y)) (F0 m 0 ls []) := by
  obtain ⟨hx, hb, hr, hml, hown, hlk, hT, hK, hB⟩ := id M
  unfold wX5_copy at h
  refine lv_aload_n hx hb dX5_copy_0 rfl (lv_at hl 0 rfl) ?_
  refine lv_aload_n hx hb dX5_copy_1 rfl (lv_at hl 1 rfl) ?_
  refine q_get (v := .int (σ.1 oq 4)) M hw (sh_ob hh_oq) rfl inq_5 4 (by decide) tw_198 rfl dX5_copy_2 ?_
  refine q_put (v := (σ.1 oq 4)) M hw (sh_ob hh_kq) rfl inq_5 tyX5 tyX5_ok nmX5 4 (by decide) tw_198 rfl rfl rfl (Nat.le_of_ble_eq_true rfl) (by simp [up, upd, f0]) dX5_copy_5 (fun σ1 H locs es hw => ?_)
  have h := h σ1 es
  refine lv_aload_n hx hb dX5_copy_8 rfl (lv_at hl 0 rfl) ?_
  refine lv_aload_n hx hb dX5_copy_9 rfl (lv_at hl 1 rfl) ?_
  refine q_get (v := .int (σ1.1 oq 5)) M hw (sh_ob hh_oq) rfl inq_5 5 (by decide) tw_200 rfl dX5_copy_10 ?_
  refine q_put (v := (σ1.1 oq 5)) M hw (sh_ob hh_kq) rfl inq_5 tyX5 tyX5_ok nmX5 5 (by decide) tw_200 rfl rfl rfl (Nat.le_of_ble_eq_true rfl) (by simp [up, upd, f0]) dX5_copy_13 (fun σ2 H locs es hw => ?_)
  have h := h σ2 es
  refine lv_aload_n hx hb dX5_copy_16 rfl (lv_at hl 0 rfl) ?_
  refine lv_aload_n hx hb dX5_copy_17 rfl (lv_at hl 1 rfl) ?_
  refine q_get (v := .int (σ2.1 oq 6)) M hw (sh_ob hh_oq) rfl inq_5 6 (by decide) tw_202 rfl dX5_copy_18 ?_
  refine q_put (v := (σ2.1 oq 6)) M hw (sh_ob hh_kq) rfl inq_5 tyX5 tyX5_ok nmX5 6 (by decide) tw_202 rfl rfl rfl (Nat.le_of_ble_eq_true rfl) (by simp [up, upd, f0]) dX5_copy_21 (fun σ3 H locs es hw => ?_)
  have h := h σ3 es
  refine lv_iconst (v := 0) hx hb dX5_copy_24 (by decide) ?_
  refine lv_istore_n (lv' := [(2, .int 0), (0, .ref (yA Y kq)), (1, .ref (yA Y oq))]) hx hb dX5_copy_25 rfl hl (by decide) rfl (fun ls hl => ?_)
  obtain ⟨n, h⟩ := h
  exact tlX5_copy_26 M hh_kq hh_oq n 0 σ3 _ _ _ hw (lv_sub hl [1, 2, 0] rfl) h
set_option maxRecDepth 100000 in
theorem ctX5_copy (l : Launch) {Y : LY} {kq : Nat} {oq : Nat} (hB : YB Y) (hh_kq : SH Y kq) (hh_oq : SH Y oq) (σ : St) (Q : St → Prop) (h : wX5_copy kq oq σ Q) : CT l yX5_copy (Cond.code yX5_copy cX5_copy 3 none) { frames := 0, cells := 0, slots := 0, locals := 0 } Y [.ref (yA Y kq), .ref (yA Y oq)] σ (QV Y Q) :=
  q_ent hB (by decide +kernel) (Nat.le_of_ble_eq_true rfl) (fun p e s m below meth c ls M hw hl => tX5_copy_E M hh_kq hh_oq σ _ _ ls hw hl h)
theorem mbX5_copy : MB RX5 yX5_copy cX5_copy 1 3 none := ⟨tw_437, tw_438, tw_53, tw_439, by decide +kernel⟩
end
section
variable {p : Program} {l : Launch} {e : Env} {s : State} {m : MethodId} {args : Array Value} {below : List Frame} {meth : Method} {c : Code} {Y : LY}
theorem dX2_push_0 : decode cX2_push 0 = .ok (.aload_n 0, 1) := by decide +kernel
theorem dX2_push_1 : decode cX2_push 1 = .ok (.getfield 11, 3) := by decide +kernel
theorem dX2_push_4 : decode cX2_push 4 = .ok (.aload_n 0, 1) := by decide +kernel
theorem dX2_push_5 : decode cX2_push 5 = .ok (.getfield 18, 3) := by decide +kernel
theorem dX2_push_8 : decode cX2_push 8 = .ok (.aaload, 1) := by decide +kernel
theorem dX2_push_9 : decode cX2_push 9 = .ok (.aload_n 1, 1) := by decide +kernel
theorem dX2_push_10 : decode cX2_push 10 = .ok (.invokevirtual 22, 3) := by decide +kernel
theorem dX2_push_13 : decode cX2_push 13 = .ok (.aload_n 0, 1) := by decide +kernel
theorem dX2_push_14 : decode cX2_push 14 = .ok (.aload_n 0, 1) := by decide +kernel
theorem dX2_push_15 : decode cX2_push 15 = .ok (.getfield 18, 3) := by decide +kernel
theorem dX2_push_18 : decode cX2_push 18 = .ok (.iconst 1, 1) := by decide +kernel
theorem dX2_push_19 : decode cX2_push 19 = .ok (.iadd, 1) := by decide +kernel
theorem dX2_push_20 : decode cX2_push 20 = .ok (.bipush 10, 2) := by decide +kernel
theorem dX2_push_22 : decode cX2_push 22 = .ok (.irem, 1) := by decide +kernel
theorem dX2_push_23 : decode cX2_push 23 = .ok (.putfield 18, 3) := by decide +kernel
theorem dX2_push_26 : decode cX2_push 26 = .ok (.aload_n 0, 1) := by decide +kernel
theorem dX2_push_27 : decode cX2_push 27 = .ok (.bipush 10, 2) := by decide +kernel
theorem dX2_push_29 : decode cX2_push 29 = .ok (.aload_n 0, 1) := by decide +kernel
theorem dX2_push_30 : decode cX2_push 30 = .ok (.getfield 26, 3) := by decide +kernel
theorem dX2_push_33 : decode cX2_push 33 = .ok (.iconst 1, 1) := by decide +kernel
theorem dX2_push_34 : decode cX2_push 34 = .ok (.iadd, 1) := by decide +kernel
theorem dX2_push_35 : decode cX2_push 35 = .ok (.invokestatic 29, 3) := by decide +kernel
theorem dX2_push_38 : decode cX2_push 38 = .ok (.putfield 26, 3) := by decide +kernel
theorem dX2_push_41 : decode cX2_push 41 = .ok (.return_, 1) := by decide +kernel
def wX2_push (σ : St) (Q : St → Prop) : Prop :=
  (vp_in (σ.1 23 1) 10 ∧ wX5_copy (24 + 1 + 5 * (σ.1 23 1).toNatClampNeg) 18 σ (fun σ2 => (∀ σ3 : St, σ3 = up σ2 23 1 (((σ2.1 23 1) + 1) - ((σ2.1 23 1) + 1) / 10 * 10) → (∀ x4 : Int32, x4 = (if ((σ3.1 23 2) + 1) < 10 then ((σ3.1 23 2) + 1) else 10) → (∀ σ5 : St, σ5 = up σ3 23 2 x4 → Q σ5)))))
set_option maxHeartbeats 4000000 in
set_option maxRecDepth 100000 in
theorem tX2_push_E {Q : St → Prop} (M : MC p s m args meth c cX2_push 2 none RX2 Y) (hN : yN Y = 108)  (σ : St) (H : Heap) (locs : List Loc) (ls : Array Slot) (hw : WS Y (AD Y) s.heap σ H locs) (hl : lv_has ls 2 [(0, .ref (yA Y 23)), (1, .ref (yA Y 18))]) (h : wX2_push σ Q) : W p l e { frames := 1, cells := 0, slots := 0, locals := 22 } s m args below meth c H locs 0 0 (MQ below (QV Y Q) args s 0 0 (AD Y)) (F0 m 0 ls []) := by
  obtain ⟨hx, hb, hr, hml, hown, hlk, hT, hK, hB⟩ := id M
  unfold wX2_push at h
  refine lv_aload_n hx hb dX2_push_0 rfl (lv_at hl 0 rfl) ?_
  refine q_get (v := .ref (yA Y 24)) M hw (ob_23 hN) rfl inq_2 0 (by decide) tw_232 rfl dX2_push_1 ?_
  refine lv_aload_n hx hb dX2_push_4 rfl (lv_at hl 0 rfl) ?_
  refine q_get (v := .int (σ.1 23 1)) M hw (ob_23 hN) rfl inq_2 1 (by decide) tw_233 rfl dX2_push_5 ?_
  have c1 := h.1
  have h := h.2
  refine q_sld M hw (i := 24) (n := 10) (by rw [hN]; decide) (fun _ => rfl) c1 dX2_push_8 ?_
  refine lv_aload_n hx hb dX2_push_9 rfl (lv_at hl 1 rfl) ?_
  refine q_goV hw (q_runV (rest := []) M hw (ctX5_copy l hB (sh_past hN c1) (sh_18 hN) σ _ h) mbX5_copy (sh_ob (sh_past hN c1)) rfl tw_436 rfl hl.1 rfl (Nat.le_of_ble_eq_true rfl) ⟨Nat.le_of_ble_eq_true rfl, Nat.le_of_ble_eq_true rfl⟩ ⟨Nat.le_refl _, Nat.le_refl _⟩ dX2_push_10) (fun σ2 H locs h hw => ?_)
  refine lv_aload_n hx hb dX2_push_13 rfl (lv_at hl 0 rfl) ?_
  refine lv_aload_n hx hb dX2_push_14 rfl (lv_at hl 0 rfl) ?_
  refine q_get (v := .int (σ2.1 23 1)) M hw (ob_23 hN) rfl inq_2 1 (by decide) tw_233 rfl dX2_push_15 ?_
  refine lv_iconst (v := 1) hx hb dX2_push_18 (by decide) ?_
  refine lv_iadd hx hb dX2_push_19 ?_
  refine lv_bipush (v := 10) hx hb dX2_push_20 (by decide) ?_
  refine lv_irem hx hb dX2_push_22 (by decide) ?_
  refine q_put (v := (((σ2.1 23 1) + 1) - ((σ2.1 23 1) + 1) / 10 * 10)) M hw (ob_23 hN) rfl inq_2 tyX2 tyX2_ok nmX2 1 (by decide) tw_233 rfl rfl rfl (Nat.le_of_ble_eq_true rfl) (by simp [up, upd, f0]) dX2_push_23 (fun σ3 H locs es hw => ?_)
  have h := h σ3 es
  refine lv_aload_n hx hb dX2_push_26 rfl (lv_at hl 0 rfl) ?_
  refine lv_bipush (v := 10) hx hb dX2_push_27 (by decide) ?_
  refine lv_aload_n hx hb dX2_push_29 rfl (lv_at hl 0 rfl) ?_
  refine q_get (v := .int (σ3.1 23 2)) M hw (ob_23 hN) rfl inq_2 2 (by decide) tw_234 rfl dX2_push_30 ?_
  refine lv_iconst (v := 1) hx hb dX2_push_33 (by decide) ?_
  refine lv_iadd hx hb dX2_push_34 ?_
  refine va_mmin hx hb (by rw [hl.1]; exact hml) hown (hT _ tw_440) (hT _ tw_441) (hT _ tw_57) (hT _ tw_442) (Nat.le_of_ble_eq_true rfl) (Nat.le_of_ble_eq_true rfl) (Nat.le_refl _) (Nat.le_refl _) dX2_push_35 ?_
  refine lv_topi (fun x4 ex4 => ?_)
  have h := h x4 ex4
  refine q_put (v := x4) M hw (ob_23 hN) rfl inq_2 tyX2 tyX2_ok nmX2 2 (by decide) tw_234 rfl rfl rfl (Nat.le_of_ble_eq_true rfl) (by simp [up, upd, f0]) dX2_push_38 (fun σ5 H locs es hw => ?_)
  have h := h σ5 es
  exact q_vret M hw h dX2_push_41
set_option maxRecDepth 100000 in
theorem ctX2_push (l : Launch) {Y : LY} (hB : YB Y) (hN : yN Y = 108) (σ : St) (Q : St → Prop) (h : wX2_push σ Q) : CT l yX2_push (Cond.code yX2_push cX2_push 2 none) { frames := 1, cells := 0, slots := 0, locals := 22 } Y [.ref (yA Y 23), .ref (yA Y 18)] σ (QV Y Q) :=
  q_ent hB (by decide +kernel) (Nat.le_of_ble_eq_true rfl) (fun p e s m below meth c ls M hw hl => tX2_push_E M hN σ _ _ ls hw hl h)
theorem mbX2_push : MB RX2 yX2_push cX2_push 1 2 none := ⟨tw_433, tw_434, tw_54, tw_435, by decide +kernel⟩
end
section
variable {p : Program} {l : Launch} {e : Env} {s : State} {m : MethodId} {args : Array Value} {below : List Frame} {meth : Method} {c : Code} {Y : LY}
theorem dX2_pop_0 : decode cX2_pop 0 = .ok (.aload_n 0, 1) := by decide +kernel
theorem dX2_pop_1 : decode cX2_pop 1 = .ok (.getfield 26, 3) := by decide +kernel
theorem dX2_pop_4 : decode cX2_pop 4 = .ok (.ifCond .ne 5, 3) := by decide +kernel
theorem dX2_pop_7 : decode cX2_pop 7 = .ok (.iconst 0, 1) := by decide +kernel
theorem dX2_pop_8 : decode cX2_pop 8 = .ok (.ireturn, 1) := by decide +kernel
theorem dX2_pop_9 : decode cX2_pop 9 = .ok (.aload_n 0, 1) := by decide +kernel
theorem dX2_pop_10 : decode cX2_pop 10 = .ok (.aload_n 0, 1) := by decide +kernel
theorem dX2_pop_11 : decode cX2_pop 11 = .ok (.getfield 18, 3) := by decide +kernel
theorem dX2_pop_14 : decode cX2_pop 14 = .ok (.bipush 10, 2) := by decide +kernel
theorem dX2_pop_16 : decode cX2_pop 16 = .ok (.iadd, 1) := by decide +kernel
theorem dX2_pop_17 : decode cX2_pop 17 = .ok (.iconst 1, 1) := by decide +kernel
theorem dX2_pop_18 : decode cX2_pop 18 = .ok (.isub, 1) := by decide +kernel
theorem dX2_pop_19 : decode cX2_pop 19 = .ok (.bipush 10, 2) := by decide +kernel
theorem dX2_pop_21 : decode cX2_pop 21 = .ok (.irem, 1) := by decide +kernel
theorem dX2_pop_22 : decode cX2_pop 22 = .ok (.putfield 18, 3) := by decide +kernel
theorem dX2_pop_25 : decode cX2_pop 25 = .ok (.aload_n 0, 1) := by decide +kernel
theorem dX2_pop_26 : decode cX2_pop 26 = .ok (.dup, 1) := by decide +kernel
theorem dX2_pop_27 : decode cX2_pop 27 = .ok (.getfield 26, 3) := by decide +kernel
theorem dX2_pop_30 : decode cX2_pop 30 = .ok (.iconst 1, 1) := by decide +kernel
theorem dX2_pop_31 : decode cX2_pop 31 = .ok (.isub, 1) := by decide +kernel
theorem dX2_pop_32 : decode cX2_pop 32 = .ok (.putfield 26, 3) := by decide +kernel
theorem dX2_pop_35 : decode cX2_pop 35 = .ok (.aload_n 1, 1) := by decide +kernel
theorem dX2_pop_36 : decode cX2_pop 36 = .ok (.aload_n 0, 1) := by decide +kernel
theorem dX2_pop_37 : decode cX2_pop 37 = .ok (.getfield 11, 3) := by decide +kernel
theorem dX2_pop_40 : decode cX2_pop 40 = .ok (.aload_n 0, 1) := by decide +kernel
theorem dX2_pop_41 : decode cX2_pop 41 = .ok (.getfield 18, 3) := by decide +kernel
theorem dX2_pop_44 : decode cX2_pop 44 = .ok (.aaload, 1) := by decide +kernel
theorem dX2_pop_45 : decode cX2_pop 45 = .ok (.invokevirtual 22, 3) := by decide +kernel
theorem dX2_pop_48 : decode cX2_pop 48 = .ok (.iconst 1, 1) := by decide +kernel
theorem dX2_pop_49 : decode cX2_pop 49 = .ok (.ireturn, 1) := by decide +kernel
def wX2_pop (σ : St) (Q : Int32 → St → Prop) : Prop :=
  (((σ.1 23 2) = 0 → Q 0 σ) ∧ (¬ (σ.1 23 2) = 0 → (∀ σ2 : St, σ2 = up σ 23 1 ((((σ.1 23 1) + 10) - 1) - (((σ.1 23 1) + 10) - 1) / 10 * 10) → (∀ σ3 : St, σ3 = up σ2 23 2 ((σ2.1 23 2) - 1) → (vp_in (σ3.1 23 1) 10 ∧ wX5_copy 18 (24 + 1 + 5 * (σ3.1 23 1).toNatClampNeg) σ3 (fun σ5 => Q 1 σ5))))))
set_option maxHeartbeats 4000000 in
set_option maxRecDepth 100000 in
theorem tX2_pop_E {Q : Int32 → St → Prop} (M : MC p s m args meth c cX2_pop 2 (some .boolean) RX2 Y) (hN : yN Y = 108)  (σ : St) (H : Heap) (locs : List Loc) (ls : Array Slot) (hw : WS Y (AD Y) s.heap σ H locs) (hl : lv_has ls 2 [(0, .ref (yA Y 23)), (1, .ref (yA Y 18))]) (h : wX2_pop σ Q) : W p l e { frames := 1, cells := 0, slots := 0, locals := 22 } s m args below meth c H locs 0 0 (MQ below (QI Y Q) args s 0 0 (AD Y)) (F0 m 0 ls []) := by
  obtain ⟨hx, hb, hr, hml, hown, hlk, hT, hK, hB⟩ := id M
  unfold wX2_pop at h
  refine lv_aload_n hx hb dX2_pop_0 rfl (lv_at hl 0 rfl) ?_
  refine q_get (v := .int (σ.1 23 2)) M hw (ob_23 hN) rfl inq_2 2 (by decide) tw_234 rfl dX2_pop_1 ?_
  refine lv_if_ne (tgt := 9) hx hb dX2_pop_4 (by decide) (fun c1 => ?_) (fun c1 => ?_)
  · have h := h.2 c1
    refine lv_aload_n hx hb dX2_pop_9 rfl (lv_at hl 0 rfl) ?_
    refine lv_aload_n hx hb dX2_pop_10 rfl (lv_at hl 0 rfl) ?_
    refine q_get (v := .int (σ.1 23 1)) M hw (ob_23 hN) rfl inq_2 1 (by decide) tw_233 rfl dX2_pop_11 ?_
    refine lv_bipush (v := 10) hx hb dX2_pop_14 (by decide) ?_
    refine lv_iadd hx hb dX2_pop_16 ?_
    refine lv_iconst (v := 1) hx hb dX2_pop_17 (by decide) ?_
    refine lv_isub hx hb dX2_pop_18 ?_
    refine lv_bipush (v := 10) hx hb dX2_pop_19 (by decide) ?_
    refine lv_irem hx hb dX2_pop_21 (by decide) ?_
    refine q_put (v := ((((σ.1 23 1) + 10) - 1) - (((σ.1 23 1) + 10) - 1) / 10 * 10)) M hw (ob_23 hN) rfl inq_2 tyX2 tyX2_ok nmX2 1 (by decide) tw_233 rfl rfl rfl (Nat.le_of_ble_eq_true rfl) (by simp [up, upd, f0]) dX2_pop_22 (fun σ2 H locs es hw => ?_)
    have h := h σ2 es
    refine lv_aload_n hx hb dX2_pop_25 rfl (lv_at hl 0 rfl) ?_
    refine lv_dup hx hb dX2_pop_26 rfl ?_
    refine q_get (v := .int (σ2.1 23 2)) M hw (ob_23 hN) rfl inq_2 2 (by decide) tw_234 rfl dX2_pop_27 ?_
    refine lv_iconst (v := 1) hx hb dX2_pop_30 (by decide) ?_
    refine lv_isub hx hb dX2_pop_31 ?_
    refine q_put (v := ((σ2.1 23 2) - 1)) M hw (ob_23 hN) rfl inq_2 tyX2 tyX2_ok nmX2 2 (by decide) tw_234 rfl rfl rfl (Nat.le_of_ble_eq_true rfl) (by simp [up, upd, f0]) dX2_pop_32 (fun σ3 H locs es hw => ?_)
    have h := h σ3 es
    refine lv_aload_n hx hb dX2_pop_35 rfl (lv_at hl 1 rfl) ?_
    refine lv_aload_n hx hb dX2_pop_36 rfl (lv_at hl 0 rfl) ?_
    refine q_get (v := .ref (yA Y 24)) M hw (ob_23 hN) rfl inq_2 0 (by decide) tw_232 rfl dX2_pop_37 ?_
    refine lv_aload_n hx hb dX2_pop_40 rfl (lv_at hl 0 rfl) ?_
    refine q_get (v := .int (σ3.1 23 1)) M hw (ob_23 hN) rfl inq_2 1 (by decide) tw_233 rfl dX2_pop_41 ?_
    have c4 := h.1
    have h := h.2
    refine q_sld M hw (i := 24) (n := 10) (by rw [hN]; decide) (fun _ => rfl) c4 dX2_pop_44 ?_
    refine q_goV hw (q_runV (rest := []) M hw (ctX5_copy l hB (sh_18 hN) (sh_past hN c4) σ3 _ h) mbX5_copy (sh_ob (sh_18 hN)) rfl tw_436 rfl hl.1 rfl (Nat.le_of_ble_eq_true rfl) ⟨Nat.le_of_ble_eq_true rfl, Nat.le_of_ble_eq_true rfl⟩ ⟨Nat.le_refl _, Nat.le_refl _⟩ dX2_pop_45) (fun σ5 H locs h hw => ?_)
    refine lv_iconst (v := 1) hx hb dX2_pop_48 (by decide) ?_
    exact q_zret M hw (by decide) h dX2_pop_49
  · have h := h.1 c1
    refine lv_iconst (v := 0) hx hb dX2_pop_7 (by decide) ?_
    exact q_zret M hw (by decide) h dX2_pop_8
set_option maxRecDepth 100000 in
theorem ctX2_pop (l : Launch) {Y : LY} (hB : YB Y) (hN : yN Y = 108) (σ : St) (Q : Int32 → St → Prop) (h : wX2_pop σ Q) : CT l yX2_pop (Cond.code yX2_pop cX2_pop 2 (some .boolean)) { frames := 1, cells := 0, slots := 0, locals := 22 } Y [.ref (yA Y 23), .ref (yA Y 18)] σ (QI Y Q) :=
  q_ent hB (by decide +kernel) (Nat.le_of_ble_eq_true rfl) (fun p e s m below meth c ls M hw hl => tX2_pop_E M hN σ _ _ ls hw hl h)
theorem mbX2_pop : MB RX2 yX2_pop cX2_pop 1 2 (some .boolean) := ⟨tw_492, tw_493, tw_54, tw_494, by decide +kernel⟩
end
section
variable {p : Program} {l : Launch} {e : Env} {s : State} {m : MethodId} {args : Array Value} {below : List Frame} {meth : Method} {c : Code} {Y : LY}
theorem dX2_forgetAll_0 : decode cX2_forgetAll 0 = .ok (.aload_n 0, 1) := by decide +kernel
theorem dX2_forgetAll_1 : decode cX2_forgetAll 1 = .ok (.iconst 0, 1) := by decide +kernel
theorem dX2_forgetAll_2 : decode cX2_forgetAll 2 = .ok (.putfield 26, 3) := by decide +kernel
theorem dX2_forgetAll_5 : decode cX2_forgetAll 5 = .ok (.return_, 1) := by decide +kernel
def wX2_forgetAll (σ : St) (Q : St → Prop) : Prop :=
  (∀ σ1 : St, σ1 = up σ 23 2 0 → Q σ1)
set_option maxHeartbeats 4000000 in
set_option maxRecDepth 100000 in
theorem tX2_forgetAll_E {Q : St → Prop} (M : MC p s m args meth c cX2_forgetAll 1 none RX2 Y) (hN : yN Y = 108)  (σ : St) (H : Heap) (locs : List Loc) (ls : Array Slot) (hw : WS Y (AD Y) s.heap σ H locs) (hl : lv_has ls 1 [(0, .ref (yA Y 23))]) (h : wX2_forgetAll σ Q) : W p l e { frames := 0, cells := 0, slots := 0, locals := 0 } s m args below meth c H locs 0 0 (MQ below (QV Y Q) args s 0 0 (AD Y)) (F0 m 0 ls []) := by
  obtain ⟨hx, hb, hr, hml, hown, hlk, hT, hK, hB⟩ := id M
  unfold wX2_forgetAll at h
  refine lv_aload_n hx hb dX2_forgetAll_0 rfl (lv_at hl 0 rfl) ?_
  refine lv_iconst (v := 0) hx hb dX2_forgetAll_1 (by decide) ?_
  refine q_put (v := 0) M hw (ob_23 hN) rfl inq_2 tyX2 tyX2_ok nmX2 2 (by decide) tw_234 rfl rfl rfl (Nat.le_of_ble_eq_true rfl) (by simp [up, upd, f0]) dX2_forgetAll_2 (fun σ1 H locs es hw => ?_)
  have h := h σ1 es
  exact q_vret M hw h dX2_forgetAll_5
set_option maxRecDepth 100000 in
theorem ctX2_forgetAll (l : Launch) {Y : LY} (hB : YB Y) (hN : yN Y = 108) (σ : St) (Q : St → Prop) (h : wX2_forgetAll σ Q) : CT l yX2_forgetAll (Cond.code yX2_forgetAll cX2_forgetAll 1 none) { frames := 0, cells := 0, slots := 0, locals := 0 } Y [.ref (yA Y 23)] σ (QV Y Q) :=
  q_ent hB (by decide +kernel) (Nat.le_of_ble_eq_true rfl) (fun p e s m below meth c ls M hw hl => tX2_forgetAll_E M hN σ _ _ ls hw hl h)
theorem mbX2_forgetAll : MB RX2 yX2_forgetAll cX2_forgetAll 0 1 none := ⟨tw_368, tw_369, tw_54, tw_370, by decide +kernel⟩
end
section
variable {p : Program} {l : Launch} {e : Env} {s : State} {m : MethodId} {args : Array Value} {below : List Frame} {meth : Method} {c : Code} {Y : LY}
theorem dX3_empty_0 : decode cX3_empty 0 = .ok (.aload_n 0, 1) := by decide +kernel
theorem dX3_empty_1 : decode cX3_empty 1 = .ok (.iconst 0, 1) := by decide +kernel
theorem dX3_empty_2 : decode cX3_empty 2 = .ok (.putfield 32, 3) := by decide +kernel
theorem dX3_empty_5 : decode cX3_empty 5 = .ok (.aload_n 0, 1) := by decide +kernel
theorem dX3_empty_6 : decode cX3_empty 6 = .ok (.iconst 0, 1) := by decide +kernel
theorem dX3_empty_7 : decode cX3_empty 7 = .ok (.putfield 35, 3) := by decide +kernel
theorem dX3_empty_10 : decode cX3_empty 10 = .ok (.aload_n 0, 1) := by decide +kernel
theorem dX3_empty_11 : decode cX3_empty 11 = .ok (.iconst 0, 1) := by decide +kernel
theorem dX3_empty_12 : decode cX3_empty 12 = .ok (.putfield 38, 3) := by decide +kernel
theorem dX3_empty_15 : decode cX3_empty 15 = .ok (.aload_n 0, 1) := by decide +kernel
theorem dX3_empty_16 : decode cX3_empty 16 = .ok (.bipush 30, 2) := by decide +kernel
theorem dX3_empty_18 : decode cX3_empty 18 = .ok (.putfield 28, 3) := by decide +kernel
theorem dX3_empty_21 : decode cX3_empty 21 = .ok (.aload_n 0, 1) := by decide +kernel
theorem dX3_empty_22 : decode cX3_empty 22 = .ok (.iconst 0, 1) := by decide +kernel
theorem dX3_empty_23 : decode cX3_empty 23 = .ok (.putfield 41, 3) := by decide +kernel
theorem dX3_empty_26 : decode cX3_empty 26 = .ok (.aload_n 0, 1) := by decide +kernel
theorem dX3_empty_27 : decode cX3_empty 27 = .ok (.iconst 0, 1) := by decide +kernel
theorem dX3_empty_28 : decode cX3_empty 28 = .ok (.putfield 45, 3) := by decide +kernel
theorem dX3_empty_31 : decode cX3_empty 31 = .ok (.iconst 0, 1) := by decide +kernel
theorem dX3_empty_32 : decode cX3_empty 32 = .ok (.istore_n 1, 1) := by decide +kernel
theorem dX3_empty_33 : decode cX3_empty 33 = .ok (.iload_n 1, 1) := by decide +kernel
theorem dX3_empty_34 : decode cX3_empty 34 = .ok (.bipush 99, 2) := by decide +kernel
theorem dX3_empty_36 : decode cX3_empty 36 = .ok (.if_icmp .gt 16, 3) := by decide +kernel
theorem dX3_empty_39 : decode cX3_empty 39 = .ok (.aload_n 0, 1) := by decide +kernel
theorem dX3_empty_40 : decode cX3_empty 40 = .ok (.getfield 24, 3) := by decide +kernel
theorem dX3_empty_43 : decode cX3_empty 43 = .ok (.iload_n 1, 1) := by decide +kernel
theorem dX3_empty_44 : decode cX3_empty 44 = .ok (.iconst 0, 1) := by decide +kernel
theorem dX3_empty_45 : decode cX3_empty 45 = .ok (.bastore, 1) := by decide +kernel
theorem dX3_empty_46 : decode cX3_empty 46 = .ok (.iinc 1 1, 3) := by decide +kernel
theorem dX3_empty_49 : decode cX3_empty 49 = .ok (.goto (-16), 3) := by decide +kernel
theorem dX3_empty_52 : decode cX3_empty 52 = .ok (.return_, 1) := by decide +kernel
def bX3_empty_33 (R_33 : Int32 × St → Prop) (pq : Nat) (y1 : Int32) (σ : St) (Q : St → Prop) : Prop :=
  ((99 < y1 → Q σ) ∧ (¬ 99 < y1 → (vp_in y1 100 ∧ ∀ σ3 : St, σ3 = up σ (pq + 5) y1.toNatClampNeg (vp_nar .boolean 0) → (∀ x4 : Int32, x4 = y1 + 1 → R_33 (x4, σ3)))))
set_option maxHeartbeats 4000000 in
set_option maxRecDepth 100000 in
theorem tX3_empty_33 {R_33 : Int32 × St → Prop} {pq : Nat} {Q : St → Prop} (M : MC p s m args meth c cX3_empty 2 none RX3 Y) (hh_pq : PH Y pq) (hR_33 : ∀ (y1 : Int32) (σ : St) (H : Heap) (locs : List Loc) (ls : Array Slot), WS Y (AD Y) s.heap σ H locs → lv_has ls 2 [(0, .ref (yA Y pq)), (1, .int y1)] → R_33 (y1, σ) → W p l e { frames := 0, cells := 0, slots := 0, locals := 0 } s m args below meth c H locs 0 0 (MQ below (QV Y Q) args s 0 0 (AD Y)) (F0 m 33 ls [])) (y1 : Int32) (σ : St) (H : Heap) (locs : List Loc) (ls : Array Slot) (hw : WS Y (AD Y) s.heap σ H locs) (hl : lv_has ls 2 [(0, .ref (yA Y pq)), (1, .int y1)]) (h : bX3_empty_33 R_33 pq y1 σ Q) : W p l e { frames := 0, cells := 0, slots := 0, locals := 0 } s m args below meth c H locs 0 0 (MQ below (QV Y Q) args s 0 0 (AD Y)) (F0 m 33 ls []) := by
  obtain ⟨hx, hb, hr, hml, hown, hlk, hT, hK, hB⟩ := id M
  unfold bX3_empty_33 at h
  refine lv_iload_n hx hb dX3_empty_33 rfl (lv_at hl 1 rfl) ?_
  refine lv_bipush (v := 99) hx hb dX3_empty_34 (by decide) ?_
  refine lv_icmp_gt (tgt := 52) hx hb dX3_empty_36 (by decide) (fun c1 => ?_) (fun c1 => ?_)
  · have h := h.1 c1
    exact q_vret M hw h dX3_empty_52
  · have h := h.2 c1
    refine lv_aload_n hx hb dX3_empty_39 rfl (lv_at hl 0 rfl) ?_
    refine q_get (v := .ref (yA Y (pq + 5))) M hw (ph_ob hh_pq) rfl inq_3 4 (by decide) tw_111 rfl dX3_empty_40 ?_
    refine lv_iload_n hx hb dX3_empty_43 rfl (lv_at hl 1 rfl) ?_
    refine lv_iconst (v := 0) hx hb dX3_empty_44 (by decide) ?_
    have c2 := h.1
    refine q_zst M hw (ph_a5 hh_pq) c2 dX3_empty_45 (fun σ3 H locs es hw => ?_)
    have h := h.2 σ3 es
    obtain ⟨x4, ex4⟩ : ∃ y : Int32, y = y1 + 1 := ⟨_, rfl⟩
    have h := h x4 ex4
    refine lv_iinc (v := x4) (lv' := [(1, .int x4), (0, .ref (yA Y pq))]) hx hb dX3_empty_46 hl (k := 1) rfl (by rw [ex4]; rfl) (by decide) rfl (fun ls hl => ?_)
    refine lv_goto (tgt := 33) hx hb dX3_empty_49 (by decide) ?_
    exact hR_33 x4 σ3 _ _ _ hw (lv_sub hl [1, 0] rfl) h
def lX3_empty_33 (pq : Nat) (Q : St → Prop) : (Int32 × St → Prop) → Int32 × St → Prop := fun R a => bX3_empty_33 R pq a.1 a.2 Q
theorem tlX3_empty_33 {pq : Nat} {Q : St → Prop} (M : MC p s m args meth c cX3_empty 2 none RX3 Y) (hh_pq : PH Y pq) (n : Nat) : ∀ (y1 : Int32) (σ : St) (H : Heap) (locs : List Loc) (ls : Array Slot) (hw : WS Y (AD Y) s.heap σ H locs) (hl : lv_has ls 2 [(0, .ref (yA Y pq)), (1, .int y1)]) (h : Lp (lX3_empty_33 pq Q) n (y1, σ)), W p l e { frames := 0, cells := 0, slots := 0, locals := 0 } s m args below meth c H locs 0 0 (MQ below (QV Y Q) args s 0 0 (AD Y)) (F0 m 33 ls []) := by
  induction n with
  | zero => intro y1 σ H locs ls hw hl h; exact h.elim
  | succ n ih =>
    intro y1 σ H locs ls hw hl h
    exact tX3_empty_33 M hh_pq ih y1 σ H locs ls hw hl h
def wX3_empty (pq : Nat) (σ : St) (Q : St → Prop) : Prop :=
  (∀ σ1 : St, σ1 = up σ pq 5 0 → (∀ σ2 : St, σ2 = up σ1 pq 6 0 → (∀ σ3 : St, σ3 = up σ2 pq 7 0 → (∀ σ4 : St, σ4 = up σ3 pq 8 30 → (∀ σ5 : St, σ5 = up σ4 pq 9 0 → (∀ σ6 : St, σ6 = up σ5 pq 10 0 → ∃ n : Nat, Lp (lX3_empty_33 pq Q) n (0, σ6)))))))
set_option maxHeartbeats 4000000 in
set_option maxRecDepth 100000 in
theorem tX3_empty_E {pq : Nat} {Q : St → Prop} (M : MC p s m args meth c cX3_empty 2 none RX3 Y) (hh_pq : PH Y pq)  (σ : St) (H : Heap) (locs : List Loc) (ls : Array Slot) (hw : WS Y (AD Y) s.heap σ H locs) (hl : lv_has ls 2 [(0, .ref (yA Y pq))]) (h : wX3_empty pq σ Q) : W p l e { frames := 0, cells := 0, slots := 0, locals := 0 } s m args below meth c H locs 0 0 (MQ below (QV Y Q) args s 0 0 (AD Y)) (F0 m 0 ls []) := by
  obtain ⟨hx, hb, hr, hml, hown, hlk, hT, hK, hB⟩ := id M
  unfold wX3_empty at h
  refine lv_aload_n hx hb dX3_empty_0 rfl (lv_at hl 0 rfl) ?_
  refine lv_iconst (v := 0) hx hb dX3_empty_1 (by decide) ?_
  refine q_put (v := 0) M hw (ph_ob hh_pq) rfl inq_3 tyX3 tyX3_ok nmX3 5 (by decide) tw_115 rfl rfl rfl (Nat.le_of_ble_eq_true rfl) (by simp [up, upd, f0]) dX3_empty_2 (fun σ1 H locs es hw => ?_)
  have h := h σ1 es
  refine lv_aload_n hx hb dX3_empty_5 rfl (lv_at hl 0 rfl) ?_
  refine lv_iconst (v := 0) hx hb dX3_empty_6 (by decide) ?_
  refine q_put (v := 0) M hw (ph_ob hh_pq) rfl inq_3 tyX3 tyX3_ok nmX3 6 (by decide) tw_119 rfl rfl rfl (Nat.le_of_ble_eq_true rfl) (by simp [up, upd, f0]) dX3_empty_7 (fun σ2 H locs es hw => ?_)
  have h := h σ2 es
  refine lv_aload_n hx hb dX3_empty_10 rfl (lv_at hl 0 rfl) ?_
  refine lv_iconst (v := 0) hx hb dX3_empty_11 (by decide) ?_
  refine q_put (v := 0) M hw (ph_ob hh_pq) rfl inq_3 tyX3 tyX3_ok nmX3 7 (by decide) tw_122 rfl rfl rfl (Nat.le_of_ble_eq_true rfl) (by simp [up, upd, f0]) dX3_empty_12 (fun σ3 H locs es hw => ?_)
  have h := h σ3 es
  refine lv_aload_n hx hb dX3_empty_15 rfl (lv_at hl 0 rfl) ?_
  refine lv_bipush (v := 30) hx hb dX3_empty_16 (by decide) ?_
  refine q_put (v := 30) M hw (ph_ob hh_pq) rfl inq_3 tyX3 tyX3_ok nmX3 8 (by decide) tw_125 rfl rfl rfl (Nat.le_of_ble_eq_true rfl) (by simp [up, upd, f0]) dX3_empty_18 (fun σ4 H locs es hw => ?_)
  have h := h σ4 es
  refine lv_aload_n hx hb dX3_empty_21 rfl (lv_at hl 0 rfl) ?_
  refine lv_iconst (v := 0) hx hb dX3_empty_22 (by decide) ?_
  refine q_put (v := 0) M hw (ph_ob hh_pq) rfl inq_3 tyX3 tyX3_ok nmX3 9 (by decide) tw_129 rfl (by decide) rfl (Nat.le_of_ble_eq_true rfl) (by simp [up, upd, f0]) dX3_empty_23 (fun σ5 H locs es hw => ?_)
  have h := h σ5 es
  refine lv_aload_n hx hb dX3_empty_26 rfl (lv_at hl 0 rfl) ?_
  refine lv_iconst (v := 0) hx hb dX3_empty_27 (by decide) ?_
  refine q_put (v := 0) M hw (ph_ob hh_pq) rfl inq_3 tyX3 tyX3_ok nmX3 10 (by decide) tw_131 rfl (by decide) rfl (Nat.le_of_ble_eq_true rfl) (by simp [up, upd, f0]) dX3_empty_28 (fun σ6 H locs es hw => ?_)
  have h := h σ6 es
  refine lv_iconst (v := 0) hx hb dX3_empty_31 (by decide) ?_
  refine lv_istore_n (lv' := [(1, .int 0), (0, .ref (yA Y pq))]) hx hb dX3_empty_32 rfl hl (by decide) rfl (fun ls hl => ?_)
  obtain ⟨n, h⟩ := h
  exact tlX3_empty_33 M hh_pq n 0 σ6 _ _ _ hw (lv_sub hl [1, 0] rfl) h
set_option maxRecDepth 100000 in
theorem ctX3_empty (l : Launch) {Y : LY} {pq : Nat} (hB : YB Y) (hh_pq : PH Y pq) (σ : St) (Q : St → Prop) (h : wX3_empty pq σ Q) : CT l yX3_empty (Cond.code yX3_empty cX3_empty 2 none) { frames := 0, cells := 0, slots := 0, locals := 0 } Y [.ref (yA Y pq)] σ (QV Y Q) :=
  q_ent hB (by decide +kernel) (Nat.le_of_ble_eq_true rfl) (fun p e s m below meth c ls M hw hl => tX3_empty_E M hh_pq σ _ _ ls hw hl h)
theorem mbX3_empty : MB RX3 yX3_empty cX3_empty 0 2 none := ⟨tw_323, tw_324, tw_51, tw_325, by decide +kernel⟩
end
section
variable {p : Program} {l : Launch} {e : Env} {s : State} {m : MethodId} {args : Array Value} {below : List Frame} {meth : Method} {c : Code} {Y : LY}
theorem dX4_scanNumber_0 : decode cX4_scanNumber 0 = .ok (.aload_n 0, 1) := by decide +kernel
theorem dX4_scanNumber_1 : decode cX4_scanNumber 1 = .ok (.iconst 0, 1) := by decide +kernel
theorem dX4_scanNumber_2 : decode cX4_scanNumber 2 = .ok (.putfield 66, 3) := by decide +kernel
theorem dX4_scanNumber_5 : decode cX4_scanNumber 5 = .ok (.aload_n 0, 1) := by decide +kernel
theorem dX4_scanNumber_6 : decode cX4_scanNumber 6 = .ok (.getfield 19, 3) := by decide +kernel
theorem dX4_scanNumber_9 : decode cX4_scanNumber 9 = .ok (.aload_n 0, 1) := by decide +kernel
theorem dX4_scanNumber_10 : decode cX4_scanNumber 10 = .ok (.getfield 15, 3) := by decide +kernel
theorem dX4_scanNumber_13 : decode cX4_scanNumber 13 = .ok (.if_icmp .ge 77, 3) := by decide +kernel
theorem dX4_scanNumber_16 : decode cX4_scanNumber 16 = .ok (.aload_n 0, 1) := by decide +kernel
theorem dX4_scanNumber_17 : decode cX4_scanNumber 17 = .ok (.getfield 9, 3) := by decide +kernel
theorem dX4_scanNumber_20 : decode cX4_scanNumber 20 = .ok (.aload_n 0, 1) := by decide +kernel
theorem dX4_scanNumber_21 : decode cX4_scanNumber 21 = .ok (.getfield 19, 3) := by decide +kernel
theorem dX4_scanNumber_24 : decode cX4_scanNumber 24 = .ok (.caload, 1) := by decide +kernel
theorem dX4_scanNumber_25 : decode cX4_scanNumber 25 = .ok (.bipush 48, 2) := by decide +kernel
theorem dX4_scanNumber_27 : decode cX4_scanNumber 27 = .ok (.if_icmp .lt 63, 3) := by decide +kernel
theorem dX4_scanNumber_30 : decode cX4_scanNumber 30 = .ok (.aload_n 0, 1) := by decide +kernel
theorem dX4_scanNumber_31 : decode cX4_scanNumber 31 = .ok (.getfield 9, 3) := by decide +kernel
theorem dX4_scanNumber_34 : decode cX4_scanNumber 34 = .ok (.aload_n 0, 1) := by decide +kernel
theorem dX4_scanNumber_35 : decode cX4_scanNumber 35 = .ok (.getfield 19, 3) := by decide +kernel
theorem dX4_scanNumber_38 : decode cX4_scanNumber 38 = .ok (.caload, 1) := by decide +kernel
theorem dX4_scanNumber_39 : decode cX4_scanNumber 39 = .ok (.bipush 57, 2) := by decide +kernel
theorem dX4_scanNumber_41 : decode cX4_scanNumber 41 = .ok (.if_icmp .gt 49, 3) := by decide +kernel
theorem dX4_scanNumber_44 : decode cX4_scanNumber 44 = .ok (.aload_n 0, 1) := by decide +kernel
theorem dX4_scanNumber_45 : decode cX4_scanNumber 45 = .ok (.getfield 66, 3) := by decide +kernel
theorem dX4_scanNumber_48 : decode cX4_scanNumber 48 = .ok (.bipush 99, 2) := by decide +kernel
theorem dX4_scanNumber_50 : decode cX4_scanNumber 50 = .ok (.if_icmp .gt 27, 3) := by decide +kernel
theorem dX4_scanNumber_53 : decode cX4_scanNumber 53 = .ok (.aload_n 0, 1) := by decide +kernel
theorem dX4_scanNumber_54 : decode cX4_scanNumber 54 = .ok (.aload_n 0, 1) := by decide +kernel
theorem dX4_scanNumber_55 : decode cX4_scanNumber 55 = .ok (.getfield 66, 3) := by decide +kernel
theorem dX4_scanNumber_58 : decode cX4_scanNumber 58 = .ok (.bipush 10, 2) := by decide +kernel
theorem dX4_scanNumber_60 : decode cX4_scanNumber 60 = .ok (.imul, 1) := by decide +kernel
theorem dX4_scanNumber_61 : decode cX4_scanNumber 61 = .ok (.aload_n 0, 1) := by decide +kernel
theorem dX4_scanNumber_62 : decode cX4_scanNumber 62 = .ok (.getfield 9, 3) := by decide +kernel
theorem dX4_scanNumber_65 : decode cX4_scanNumber 65 = .ok (.aload_n 0, 1) := by decide +kernel
theorem dX4_scanNumber_66 : decode cX4_scanNumber 66 = .ok (.getfield 19, 3) := by decide +kernel
theorem dX4_scanNumber_69 : decode cX4_scanNumber 69 = .ok (.caload, 1) := by decide +kernel
theorem dX4_scanNumber_70 : decode cX4_scanNumber 70 = .ok (.iadd, 1) := by decide +kernel
theorem dX4_scanNumber_71 : decode cX4_scanNumber 71 = .ok (.bipush 48, 2) := by decide +kernel
theorem dX4_scanNumber_73 : decode cX4_scanNumber 73 = .ok (.isub, 1) := by decide +kernel
theorem dX4_scanNumber_74 : decode cX4_scanNumber 74 = .ok (.putfield 66, 3) := by decide +kernel
theorem dX4_scanNumber_77 : decode cX4_scanNumber 77 = .ok (.aload_n 0, 1) := by decide +kernel
theorem dX4_scanNumber_78 : decode cX4_scanNumber 78 = .ok (.dup, 1) := by decide +kernel
theorem dX4_scanNumber_79 : decode cX4_scanNumber 79 = .ok (.getfield 19, 3) := by decide +kernel
theorem dX4_scanNumber_82 : decode cX4_scanNumber 82 = .ok (.iconst 1, 1) := by decide +kernel
theorem dX4_scanNumber_83 : decode cX4_scanNumber 83 = .ok (.iadd, 1) := by decide +kernel
theorem dX4_scanNumber_84 : decode cX4_scanNumber 84 = .ok (.putfield 19, 3) := by decide +kernel
theorem dX4_scanNumber_87 : decode cX4_scanNumber 87 = .ok (.goto (-82), 3) := by decide +kernel
theorem dX4_scanNumber_90 : decode cX4_scanNumber 90 = .ok (.aload_n 0, 1) := by decide +kernel
theorem dX4_scanNumber_91 : decode cX4_scanNumber 91 = .ok (.getfield 9, 3) := by decide +kernel
theorem dX4_scanNumber_94 : decode cX4_scanNumber 94 = .ok (.aload_n 0, 1) := by decide +kernel
theorem dX4_scanNumber_95 : decode cX4_scanNumber 95 = .ok (.getfield 37, 3) := by decide +kernel
theorem dX4_scanNumber_98 : decode cX4_scanNumber 98 = .ok (.caload, 1) := by decide +kernel
theorem dX4_scanNumber_99 : decode cX4_scanNumber 99 = .ok (.bipush 48, 2) := by decide +kernel
theorem dX4_scanNumber_101 : decode cX4_scanNumber 101 = .ok (.if_icmp .ne 20, 3) := by decide +kernel
theorem dX4_scanNumber_104 : decode cX4_scanNumber 104 = .ok (.aload_n 0, 1) := by decide +kernel
theorem dX4_scanNumber_105 : decode cX4_scanNumber 105 = .ok (.getfield 19, 3) := by decide +kernel
theorem dX4_scanNumber_108 : decode cX4_scanNumber 108 = .ok (.aload_n 0, 1) := by decide +kernel
theorem dX4_scanNumber_109 : decode cX4_scanNumber 109 = .ok (.getfield 37, 3) := by decide +kernel
theorem dX4_scanNumber_112 : decode cX4_scanNumber 112 = .ok (.isub, 1) := by decide +kernel
theorem dX4_scanNumber_113 : decode cX4_scanNumber 113 = .ok (.iconst 1, 1) := by decide +kernel
theorem dX4_scanNumber_114 : decode cX4_scanNumber 114 = .ok (.if_icmp .le 7, 3) := by decide +kernel
theorem dX4_scanNumber_117 : decode cX4_scanNumber 117 = .ok (.iconst 1, 1) := by decide +kernel
theorem dX4_scanNumber_118 : decode cX4_scanNumber 118 = .ok (.goto 4, 3) := by decide +kernel
theorem dX4_scanNumber_121 : decode cX4_scanNumber 121 = .ok (.iconst 0, 1) := by decide +kernel
theorem dX4_scanNumber_122 : decode cX4_scanNumber 122 = .ok (.istore_n 1, 1) := by decide +kernel
theorem dX4_scanNumber_123 : decode cX4_scanNumber 123 = .ok (.aload_n 0, 1) := by decide +kernel
theorem dX4_scanNumber_124 : decode cX4_scanNumber 124 = .ok (.iload_n 1, 1) := by decide +kernel
theorem dX4_scanNumber_125 : decode cX4_scanNumber 125 = .ok (.ifCond .ne 12, 3) := by decide +kernel
theorem dX4_scanNumber_128 : decode cX4_scanNumber 128 = .ok (.aload_n 0, 1) := by decide +kernel
theorem dX4_scanNumber_129 : decode cX4_scanNumber 129 = .ok (.getfield 66, 3) := by decide +kernel
theorem dX4_scanNumber_132 : decode cX4_scanNumber 132 = .ok (.bipush 99, 2) := by decide +kernel
theorem dX4_scanNumber_134 : decode cX4_scanNumber 134 = .ok (.if_icmp .le 8, 3) := by decide +kernel
theorem dX4_scanNumber_137 : decode cX4_scanNumber 137 = .ok (.bipush (-3), 2) := by decide +kernel
theorem dX4_scanNumber_139 : decode cX4_scanNumber 139 = .ok (.goto 5, 3) := by decide +kernel
theorem dX4_scanNumber_142 : decode cX4_scanNumber 142 = .ok (.bipush (-2), 2) := by decide +kernel
theorem dX4_scanNumber_144 : decode cX4_scanNumber 144 = .ok (.putfield 30, 3) := by decide +kernel
theorem dX4_scanNumber_147 : decode cX4_scanNumber 147 = .ok (.return_, 1) := by decide +kernel
def bX4_scanNumber_77 (R_5 : St → Prop) (σ : St) (Q : St → Prop) : Prop :=
  (∀ σ1 : St, σ1 = up σ 2 2 ((σ.1 2 2) + 1) → R_5 σ1)
set_option maxHeartbeats 4000000 in
set_option maxRecDepth 100000 in
theorem tX4_scanNumber_77 {R_5 : St → Prop} {Q : St → Prop} (M : MC p s m args meth c cX4_scanNumber 2 none RX4 Y) (hN : yN Y = 108) (hR_5 : ∀ (σ : St) (H : Heap) (locs : List Loc) (ls : Array Slot), WS Y (AD Y) s.heap σ H locs → lv_has ls 2 [(0, .ref (yA Y 2))] → R_5 σ → W p l e { frames := 0, cells := 0, slots := 0, locals := 0 } s m args below meth c H locs 0 0 (MQ below (QV Y Q) args s 0 0 (AD Y)) (F0 m 5 ls []))  (σ : St) (H : Heap) (locs : List Loc) (ls : Array Slot) (hw : WS Y (AD Y) s.heap σ H locs) (hl : lv_has ls 2 [(0, .ref (yA Y 2))]) (h : bX4_scanNumber_77 R_5 σ Q) : W p l e { frames := 0, cells := 0, slots := 0, locals := 0 } s m args below meth c H locs 0 0 (MQ below (QV Y Q) args s 0 0 (AD Y)) (F0 m 77 ls []) := by
  obtain ⟨hx, hb, hr, hml, hown, hlk, hT, hK, hB⟩ := id M
  unfold bX4_scanNumber_77 at h
  refine lv_aload_n hx hb dX4_scanNumber_77 rfl (lv_at hl 0 rfl) ?_
  refine lv_dup hx hb dX4_scanNumber_78 rfl ?_
  refine q_get (v := .int (σ.1 2 2)) M hw (ob_2 hN) rfl inq_4 2 (by decide) tw_74 rfl dX4_scanNumber_79 ?_
  refine lv_iconst (v := 1) hx hb dX4_scanNumber_82 (by decide) ?_
  refine lv_iadd hx hb dX4_scanNumber_83 ?_
  refine q_put (v := ((σ.1 2 2) + 1)) M hw (ob_2 hN) rfl inq_4 tyX4 tyX4_ok nmX4 2 (by decide) tw_74 rfl rfl rfl (Nat.le_of_ble_eq_true rfl) (by simp [up, upd, f0]) dX4_scanNumber_84 (fun σ1 H locs es hw => ?_)
  have h := h σ1 es
  refine lv_goto (tgt := 5) hx hb dX4_scanNumber_87 (by decide) ?_
  exact hR_5 σ1 _ _ _ hw (lv_sub hl [0] rfl) h
def bX4_scanNumber_144 (z0 : Int32) (σ : St) (Q : St → Prop) : Prop :=
  (∀ σ1 : St, σ1 = up σ 2 3 z0 → Q σ1)
set_option maxHeartbeats 4000000 in
set_option maxRecDepth 100000 in
theorem tX4_scanNumber_144 {Q : St → Prop} (M : MC p s m args meth c cX4_scanNumber 2 none RX4 Y) (hN : yN Y = 108) (z0 : Int32) (σ : St) (H : Heap) (locs : List Loc) (ls : Array Slot) (hw : WS Y (AD Y) s.heap σ H locs) (hl : lv_has ls 2 []) (h : bX4_scanNumber_144 z0 σ Q) : W p l e { frames := 0, cells := 0, slots := 0, locals := 0 } s m args below meth c H locs 0 0 (MQ below (QV Y Q) args s 0 0 (AD Y)) (F0 m 144 ls [.int z0, .ref (yA Y 2)]) := by
  obtain ⟨hx, hb, hr, hml, hown, hlk, hT, hK, hB⟩ := id M
  unfold bX4_scanNumber_144 at h
  refine q_put (v := z0) M hw (ob_2 hN) rfl inq_4 tyX4 tyX4_ok nmX4 3 (by decide) tw_75 rfl rfl rfl (Nat.le_of_ble_eq_true rfl) (by simp [up, upd, f0]) dX4_scanNumber_144 (fun σ1 H locs es hw => ?_)
  have h := h σ1 es
  exact q_vret M hw h dX4_scanNumber_147
def bX4_scanNumber_137 (σ : St) (Q : St → Prop) : Prop :=
  bX4_scanNumber_144 (-3) σ Q
set_option maxHeartbeats 4000000 in
set_option maxRecDepth 100000 in
theorem tX4_scanNumber_137 {Q : St → Prop} (M : MC p s m args meth c cX4_scanNumber 2 none RX4 Y) (hN : yN Y = 108)  (σ : St) (H : Heap) (locs : List Loc) (ls : Array Slot) (hw : WS Y (AD Y) s.heap σ H locs) (hl : lv_has ls 2 []) (h : bX4_scanNumber_137 σ Q) : W p l e { frames := 0, cells := 0, slots := 0, locals := 0 } s m args below meth c H locs 0 0 (MQ below (QV Y Q) args s 0 0 (AD Y)) (F0 m 137 ls [.ref (yA Y 2)]) := by
  obtain ⟨hx, hb, hr, hml, hown, hlk, hT, hK, hB⟩ := id M
  unfold bX4_scanNumber_137 at h
  refine lv_bipush (v := (-3)) hx hb dX4_scanNumber_137 (by decide) ?_
  refine lv_goto (tgt := 144) hx hb dX4_scanNumber_139 (by decide) ?_
  exact tX4_scanNumber_144 M hN (-3) σ _ _ _ hw (lv_sub hl [] rfl) h
def bX4_scanNumber_122 (z0 : Int32) (σ : St) (Q : St → Prop) : Prop :=
  ((z0 = 0 → (((σ.1 2 5) ≤ 99 → bX4_scanNumber_144 (-2) σ Q) ∧ (¬ (σ.1 2 5) ≤ 99 → bX4_scanNumber_137 σ Q))) ∧ (¬ z0 = 0 → bX4_scanNumber_137 σ Q))
set_option maxHeartbeats 4000000 in
set_option maxRecDepth 100000 in
theorem tX4_scanNumber_122 {Q : St → Prop} (M : MC p s m args meth c cX4_scanNumber 2 none RX4 Y) (hN : yN Y = 108) (z0 : Int32) (σ : St) (H : Heap) (locs : List Loc) (ls : Array Slot) (hw : WS Y (AD Y) s.heap σ H locs) (hl : lv_has ls 2 [(0, .ref (yA Y 2))]) (h : bX4_scanNumber_122 z0 σ Q) : W p l e { frames := 0, cells := 0, slots := 0, locals := 0 } s m args below meth c H locs 0 0 (MQ below (QV Y Q) args s 0 0 (AD Y)) (F0 m 122 ls [.int z0]) := by
  obtain ⟨hx, hb, hr, hml, hown, hlk, hT, hK, hB⟩ := id M
  unfold bX4_scanNumber_122 at h
  refine lv_istore_n (lv' := [(1, .int z0), (0, .ref (yA Y 2))]) hx hb dX4_scanNumber_122 rfl hl (by decide) rfl (fun ls hl => ?_)
  refine lv_aload_n hx hb dX4_scanNumber_123 rfl (lv_at hl 1 rfl) ?_
  refine lv_iload_n hx hb dX4_scanNumber_124 rfl (lv_at hl 0 rfl) ?_
  refine lv_if_ne (tgt := 137) hx hb dX4_scanNumber_125 (by decide) (fun c1 => ?_) (fun c1 => ?_)
  · have h := h.2 c1
    exact tX4_scanNumber_137 M hN σ _ _ _ hw (lv_sub hl [] rfl) h
  · have h := h.1 c1
    refine lv_aload_n hx hb dX4_scanNumber_128 rfl (lv_at hl 1 rfl) ?_
    refine q_get (v := .int (σ.1 2 5)) M hw (ob_2 hN) rfl inq_4 5 (by decide) tw_77 rfl dX4_scanNumber_129 ?_
    refine lv_bipush (v := 99) hx hb dX4_scanNumber_132 (by decide) ?_
    refine lv_icmp_le (tgt := 142) hx hb dX4_scanNumber_134 (by decide) (fun c2 => ?_) (fun c2 => ?_)
    · have h := h.1 c2
      refine lv_bipush (v := (-2)) hx hb dX4_scanNumber_142 (by decide) ?_
      exact tX4_scanNumber_144 M hN (-2) σ _ _ _ hw (lv_sub hl [] rfl) h
    · have h := h.2 c2
      exact tX4_scanNumber_137 M hN σ _ _ _ hw (lv_sub hl [] rfl) h
def bX4_scanNumber_121 (σ : St) (Q : St → Prop) : Prop :=
  bX4_scanNumber_122 0 σ Q
set_option maxHeartbeats 4000000 in
set_option maxRecDepth 100000 in
theorem tX4_scanNumber_121 {Q : St → Prop} (M : MC p s m args meth c cX4_scanNumber 2 none RX4 Y) (hN : yN Y = 108)  (σ : St) (H : Heap) (locs : List Loc) (ls : Array Slot) (hw : WS Y (AD Y) s.heap σ H locs) (hl : lv_has ls 2 [(0, .ref (yA Y 2))]) (h : bX4_scanNumber_121 σ Q) : W p l e { frames := 0, cells := 0, slots := 0, locals := 0 } s m args below meth c H locs 0 0 (MQ below (QV Y Q) args s 0 0 (AD Y)) (F0 m 121 ls []) := by
  obtain ⟨hx, hb, hr, hml, hown, hlk, hT, hK, hB⟩ := id M
  unfold bX4_scanNumber_121 at h
  refine lv_iconst (v := 0) hx hb dX4_scanNumber_121 (by decide) ?_
  exact tX4_scanNumber_122 M hN 0 σ _ _ _ hw (lv_sub hl [0] rfl) h
def bX4_scanNumber_90 (σ : St) (Q : St → Prop) : Prop :=
  (vp_in (σ.1 2 4) 200 ∧ (((σ.1 1 (σ.1 2 4).toNatClampNeg) = 48 → ((((σ.1 2 2) - (σ.1 2 4)) ≤ 1 → bX4_scanNumber_121 σ Q) ∧ (¬ ((σ.1 2 2) - (σ.1 2 4)) ≤ 1 → bX4_scanNumber_122 1 σ Q))) ∧ (¬ (σ.1 1 (σ.1 2 4).toNatClampNeg) = 48 → bX4_scanNumber_121 σ Q)))
set_option maxHeartbeats 4000000 in
set_option maxRecDepth 100000 in
theorem tX4_scanNumber_90 {Q : St → Prop} (M : MC p s m args meth c cX4_scanNumber 2 none RX4 Y) (hN : yN Y = 108)  (σ : St) (H : Heap) (locs : List Loc) (ls : Array Slot) (hw : WS Y (AD Y) s.heap σ H locs) (hl : lv_has ls 2 [(0, .ref (yA Y 2))]) (h : bX4_scanNumber_90 σ Q) : W p l e { frames := 0, cells := 0, slots := 0, locals := 0 } s m args below meth c H locs 0 0 (MQ below (QV Y Q) args s 0 0 (AD Y)) (F0 m 90 ls []) := by
  obtain ⟨hx, hb, hr, hml, hown, hlk, hT, hK, hB⟩ := id M
  unfold bX4_scanNumber_90 at h
  refine lv_aload_n hx hb dX4_scanNumber_90 rfl (lv_at hl 0 rfl) ?_
  refine q_get (v := .ref (yA Y 1)) M hw (ob_2 hN) rfl inq_4 0 (by decide) tw_72 rfl dX4_scanNumber_91 ?_
  refine lv_aload_n hx hb dX4_scanNumber_94 rfl (lv_at hl 0 rfl) ?_
  refine q_get (v := .int (σ.1 2 4)) M hw (ob_2 hN) rfl inq_4 4 (by decide) tw_76 rfl dX4_scanNumber_95 ?_
  have c1 := h.1
  have h := h.2
  refine q_cld M hw (ar_1 hN) c1 dX4_scanNumber_98 ?_
  refine lv_bipush (v := 48) hx hb dX4_scanNumber_99 (by decide) ?_
  refine lv_icmp_ne (tgt := 121) hx hb dX4_scanNumber_101 (by decide) (fun c2 => ?_) (fun c2 => ?_)
  · have h := h.2 c2
    exact tX4_scanNumber_121 M hN σ _ _ _ hw (lv_sub hl [0] rfl) h
  · have h := h.1 c2
    refine lv_aload_n hx hb dX4_scanNumber_104 rfl (lv_at hl 0 rfl) ?_
    refine q_get (v := .int (σ.1 2 2)) M hw (ob_2 hN) rfl inq_4 2 (by decide) tw_74 rfl dX4_scanNumber_105 ?_
    refine lv_aload_n hx hb dX4_scanNumber_108 rfl (lv_at hl 0 rfl) ?_
    refine q_get (v := .int (σ.1 2 4)) M hw (ob_2 hN) rfl inq_4 4 (by decide) tw_76 rfl dX4_scanNumber_109 ?_
    refine lv_isub hx hb dX4_scanNumber_112 ?_
    refine lv_iconst (v := 1) hx hb dX4_scanNumber_113 (by decide) ?_
    refine lv_icmp_le (tgt := 121) hx hb dX4_scanNumber_114 (by decide) (fun c3 => ?_) (fun c3 => ?_)
    · have h := h.1 c3
      exact tX4_scanNumber_121 M hN σ _ _ _ hw (lv_sub hl [0] rfl) h
    · have h := h.2 c3
      refine lv_iconst (v := 1) hx hb dX4_scanNumber_117 (by decide) ?_
      refine lv_goto (tgt := 122) hx hb dX4_scanNumber_118 (by decide) ?_
      exact tX4_scanNumber_122 M hN 1 σ _ _ _ hw (lv_sub hl [0] rfl) h
def bX4_scanNumber_5 (R_5 : St → Prop) (σ : St) (Q : St → Prop) : Prop :=
  (((σ.1 2 1) ≤ (σ.1 2 2) → bX4_scanNumber_90 σ Q) ∧ (¬ (σ.1 2 1) ≤ (σ.1 2 2) → (vp_in (σ.1 2 2) 200 ∧ (((σ.1 1 (σ.1 2 2).toNatClampNeg) < 48 → bX4_scanNumber_90 σ Q) ∧ (¬ (σ.1 1 (σ.1 2 2).toNatClampNeg) < 48 → (vp_in (σ.1 2 2) 200 ∧ ((57 < (σ.1 1 (σ.1 2 2).toNatClampNeg) → bX4_scanNumber_90 σ Q) ∧ (¬ 57 < (σ.1 1 (σ.1 2 2).toNatClampNeg) → ((99 < (σ.1 2 5) → bX4_scanNumber_77 R_5 σ Q) ∧ (¬ 99 < (σ.1 2 5) → (vp_in (σ.1 2 2) 200 ∧ (∀ σ8 : St, σ8 = up σ 2 5 ((((σ.1 2 5) * 10) + (σ.1 1 (σ.1 2 2).toNatClampNeg)) - 48) → bX4_scanNumber_77 R_5 σ8 Q))))))))))))
set_option maxHeartbeats 4000000 in
set_option maxRecDepth 100000 in
theorem tX4_scanNumber_5 {R_5 : St → Prop} {Q : St → Prop} (M : MC p s m args meth c cX4_scanNumber 2 none RX4 Y) (hN : yN Y = 108) (hR_5 : ∀ (σ : St) (H : Heap) (locs : List Loc) (ls : Array Slot), WS Y (AD Y) s.heap σ H locs → lv_has ls 2 [(0, .ref (yA Y 2))] → R_5 σ → W p l e { frames := 0, cells := 0, slots := 0, locals := 0 } s m args below meth c H locs 0 0 (MQ below (QV Y Q) args s 0 0 (AD Y)) (F0 m 5 ls []))  (σ : St) (H : Heap) (locs : List Loc) (ls : Array Slot) (hw : WS Y (AD Y) s.heap σ H locs) (hl : lv_has ls 2 [(0, .ref (yA Y 2))]) (h : bX4_scanNumber_5 R_5 σ Q) : W p l e { frames := 0, cells := 0, slots := 0, locals := 0 } s m args below meth c H locs 0 0 (MQ below (QV Y Q) args s 0 0 (AD Y)) (F0 m 5 ls []) := by
  obtain ⟨hx, hb, hr, hml, hown, hlk, hT, hK, hB⟩ := id M
  unfold bX4_scanNumber_5 at h
  refine lv_aload_n hx hb dX4_scanNumber_5 rfl (lv_at hl 0 rfl) ?_
  refine q_get (v := .int (σ.1 2 2)) M hw (ob_2 hN) rfl inq_4 2 (by decide) tw_74 rfl dX4_scanNumber_6 ?_
  refine lv_aload_n hx hb dX4_scanNumber_9 rfl (lv_at hl 0 rfl) ?_
  refine q_get (v := .int (σ.1 2 1)) M hw (ob_2 hN) rfl inq_4 1 (by decide) tw_73 rfl dX4_scanNumber_10 ?_
  refine lv_icmp_ge (tgt := 90) hx hb dX4_scanNumber_13 (by decide) (fun c1 => ?_) (fun c1 => ?_)
  · have h := h.1 c1
    exact tX4_scanNumber_90 M hN σ _ _ _ hw (lv_sub hl [0] rfl) h
  · have h := h.2 c1
    refine lv_aload_n hx hb dX4_scanNumber_16 rfl (lv_at hl 0 rfl) ?_
    refine q_get (v := .ref (yA Y 1)) M hw (ob_2 hN) rfl inq_4 0 (by decide) tw_72 rfl dX4_scanNumber_17 ?_
    refine lv_aload_n hx hb dX4_scanNumber_20 rfl (lv_at hl 0 rfl) ?_
    refine q_get (v := .int (σ.1 2 2)) M hw (ob_2 hN) rfl inq_4 2 (by decide) tw_74 rfl dX4_scanNumber_21 ?_
    have c2 := h.1
    have h := h.2
    refine q_cld M hw (ar_1 hN) c2 dX4_scanNumber_24 ?_
    refine lv_bipush (v := 48) hx hb dX4_scanNumber_25 (by decide) ?_
    refine lv_icmp_lt (tgt := 90) hx hb dX4_scanNumber_27 (by decide) (fun c3 => ?_) (fun c3 => ?_)
    · have h := h.1 c3
      exact tX4_scanNumber_90 M hN σ _ _ _ hw (lv_sub hl [0] rfl) h
    · have h := h.2 c3
      refine lv_aload_n hx hb dX4_scanNumber_30 rfl (lv_at hl 0 rfl) ?_
      refine q_get (v := .ref (yA Y 1)) M hw (ob_2 hN) rfl inq_4 0 (by decide) tw_72 rfl dX4_scanNumber_31 ?_
      refine lv_aload_n hx hb dX4_scanNumber_34 rfl (lv_at hl 0 rfl) ?_
      refine q_get (v := .int (σ.1 2 2)) M hw (ob_2 hN) rfl inq_4 2 (by decide) tw_74 rfl dX4_scanNumber_35 ?_
      have c4 := h.1
      have h := h.2
      refine q_cld M hw (ar_1 hN) c4 dX4_scanNumber_38 ?_
      refine lv_bipush (v := 57) hx hb dX4_scanNumber_39 (by decide) ?_
      refine lv_icmp_gt (tgt := 90) hx hb dX4_scanNumber_41 (by decide) (fun c5 => ?_) (fun c5 => ?_)
      · have h := h.1 c5
        exact tX4_scanNumber_90 M hN σ _ _ _ hw (lv_sub hl [0] rfl) h
      · have h := h.2 c5
        refine lv_aload_n hx hb dX4_scanNumber_44 rfl (lv_at hl 0 rfl) ?_
        refine q_get (v := .int (σ.1 2 5)) M hw (ob_2 hN) rfl inq_4 5 (by decide) tw_77 rfl dX4_scanNumber_45 ?_
        refine lv_bipush (v := 99) hx hb dX4_scanNumber_48 (by decide) ?_
        refine lv_icmp_gt (tgt := 77) hx hb dX4_scanNumber_50 (by decide) (fun c6 => ?_) (fun c6 => ?_)
        · have h := h.1 c6
          exact tX4_scanNumber_77 M hN hR_5 σ _ _ _ hw (lv_sub hl [0] rfl) h
        · have h := h.2 c6
          refine lv_aload_n hx hb dX4_scanNumber_53 rfl (lv_at hl 0 rfl) ?_
          refine lv_aload_n hx hb dX4_scanNumber_54 rfl (lv_at hl 0 rfl) ?_
          refine q_get (v := .int (σ.1 2 5)) M hw (ob_2 hN) rfl inq_4 5 (by decide) tw_77 rfl dX4_scanNumber_55 ?_
          refine lv_bipush (v := 10) hx hb dX4_scanNumber_58 (by decide) ?_
          refine lv_imul hx hb dX4_scanNumber_60 ?_
          refine lv_aload_n hx hb dX4_scanNumber_61 rfl (lv_at hl 0 rfl) ?_
          refine q_get (v := .ref (yA Y 1)) M hw (ob_2 hN) rfl inq_4 0 (by decide) tw_72 rfl dX4_scanNumber_62 ?_
          refine lv_aload_n hx hb dX4_scanNumber_65 rfl (lv_at hl 0 rfl) ?_
          refine q_get (v := .int (σ.1 2 2)) M hw (ob_2 hN) rfl inq_4 2 (by decide) tw_74 rfl dX4_scanNumber_66 ?_
          have c7 := h.1
          have h := h.2
          refine q_cld M hw (ar_1 hN) c7 dX4_scanNumber_69 ?_
          refine lv_iadd hx hb dX4_scanNumber_70 ?_
          refine lv_bipush (v := 48) hx hb dX4_scanNumber_71 (by decide) ?_
          refine lv_isub hx hb dX4_scanNumber_73 ?_
          refine q_put (v := ((((σ.1 2 5) * 10) + (σ.1 1 (σ.1 2 2).toNatClampNeg)) - 48)) M hw (ob_2 hN) rfl inq_4 tyX4 tyX4_ok nmX4 5 (by decide) tw_77 rfl rfl rfl (Nat.le_of_ble_eq_true rfl) (by simp [up, upd, f0]) dX4_scanNumber_74 (fun σ8 H locs es hw => ?_)
          have h := h σ8 es
          exact tX4_scanNumber_77 M hN hR_5 σ8 _ _ _ hw (lv_sub hl [0] rfl) h
def lX4_scanNumber_5 (Q : St → Prop) : (St → Prop) → St → Prop := fun R a => bX4_scanNumber_5 R a Q
theorem tlX4_scanNumber_5 {Q : St → Prop} (M : MC p s m args meth c cX4_scanNumber 2 none RX4 Y) (hN : yN Y = 108) (n : Nat) : ∀  (σ : St) (H : Heap) (locs : List Loc) (ls : Array Slot) (hw : WS Y (AD Y) s.heap σ H locs) (hl : lv_has ls 2 [(0, .ref (yA Y 2))]) (h : Lp (lX4_scanNumber_5 Q) n σ), W p l e { frames := 0, cells := 0, slots := 0, locals := 0 } s m args below meth c H locs 0 0 (MQ below (QV Y Q) args s 0 0 (AD Y)) (F0 m 5 ls []) := by
  induction n with
  | zero => intro  σ H locs ls hw hl h; exact h.elim
  | succ n ih =>
    intro  σ H locs ls hw hl h
    exact tX4_scanNumber_5 M hN ih  σ H locs ls hw hl h
def wX4_scanNumber (σ : St) (Q : St → Prop) : Prop :=
  (∀ σ1 : St, σ1 = up σ 2 5 0 → ∃ n : Nat, Lp (lX4_scanNumber_5 Q) n σ1)
set_option maxHeartbeats 4000000 in
set_option maxRecDepth 100000 in
theorem tX4_scanNumber_E {Q : St → Prop} (M : MC p s m args meth c cX4_scanNumber 2 none RX4 Y) (hN : yN Y = 108)  (σ : St) (H : Heap) (locs : List Loc) (ls : Array Slot) (hw : WS Y (AD Y) s.heap σ H locs) (hl : lv_has ls 2 [(0, .ref (yA Y 2))]) (h : wX4_scanNumber σ Q) : W p l e { frames := 0, cells := 0, slots := 0, locals := 0 } s m args below meth c H locs 0 0 (MQ below (QV Y Q) args s 0 0 (AD Y)) (F0 m 0 ls []) := by
  obtain ⟨hx, hb, hr, hml, hown, hlk, hT, hK, hB⟩ := id M
  unfold wX4_scanNumber at h
  refine lv_aload_n hx hb dX4_scanNumber_0 rfl (lv_at hl 0 rfl) ?_
  refine lv_iconst (v := 0) hx hb dX4_scanNumber_1 (by decide) ?_
  refine q_put (v := 0) M hw (ob_2 hN) rfl inq_4 tyX4 tyX4_ok nmX4 5 (by decide) tw_77 rfl rfl rfl (Nat.le_of_ble_eq_true rfl) (by simp [up, upd, f0]) dX4_scanNumber_2 (fun σ1 H locs es hw => ?_)
  have h := h σ1 es
  obtain ⟨n, h⟩ := h
  exact tlX4_scanNumber_5 M hN n σ1 _ _ _ hw (lv_sub hl [0] rfl) h
set_option maxRecDepth 100000 in
theorem ctX4_scanNumber (l : Launch) {Y : LY} (hB : YB Y) (hN : yN Y = 108) (σ : St) (Q : St → Prop) (h : wX4_scanNumber σ Q) : CT l yX4_scanNumber (Cond.code yX4_scanNumber cX4_scanNumber 2 none) { frames := 0, cells := 0, slots := 0, locals := 0 } Y [.ref (yA Y 2)] σ (QV Y Q) :=
  q_ent hB (by decide +kernel) (Nat.le_of_ble_eq_true rfl) (fun p e s m below meth c ls M hw hl => tX4_scanNumber_E M hN σ _ _ ls hw hl h)
theorem mbX4_scanNumber : MB RX4 yX4_scanNumber cX4_scanNumber 0 2 none := ⟨tw_332, tw_1, tw_50, tw_333, by decide +kernel⟩
end
section
variable {p : Program} {l : Launch} {e : Env} {s : State} {m : MethodId} {args : Array Value} {below : List Frame} {meth : Method} {c : Code} {Y : LY}
theorem dX4_advance_0 : decode cX4_advance 0 = .ok (.aload_n 0, 1) := by decide +kernel
theorem dX4_advance_1 : decode cX4_advance 1 = .ok (.getfield 19, 3) := by decide +kernel
theorem dX4_advance_4 : decode cX4_advance 4 = .ok (.aload_n 0, 1) := by decide +kernel
theorem dX4_advance_5 : decode cX4_advance 5 = .ok (.getfield 15, 3) := by decide +kernel
theorem dX4_advance_8 : decode cX4_advance 8 = .ok (.if_icmp .ge 30, 3) := by decide +kernel
theorem dX4_advance_11 : decode cX4_advance 11 = .ok (.aload_n 0, 1) := by decide +kernel
theorem dX4_advance_12 : decode cX4_advance 12 = .ok (.getfield 9, 3) := by decide +kernel
theorem dX4_advance_15 : decode cX4_advance 15 = .ok (.aload_n 0, 1) := by decide +kernel
theorem dX4_advance_16 : decode cX4_advance 16 = .ok (.getfield 19, 3) := by decide +kernel
theorem dX4_advance_19 : decode cX4_advance 19 = .ok (.caload, 1) := by decide +kernel
theorem dX4_advance_20 : decode cX4_advance 20 = .ok (.bipush 32, 2) := by decide +kernel
theorem dX4_advance_22 : decode cX4_advance 22 = .ok (.if_icmp .ne 16, 3) := by decide +kernel
theorem dX4_advance_25 : decode cX4_advance 25 = .ok (.aload_n 0, 1) := by decide +kernel
theorem dX4_advance_26 : decode cX4_advance 26 = .ok (.dup, 1) := by decide +kernel
theorem dX4_advance_27 : decode cX4_advance 27 = .ok (.getfield 19, 3) := by decide +kernel
theorem dX4_advance_30 : decode cX4_advance 30 = .ok (.iconst 1, 1) := by decide +kernel
theorem dX4_advance_31 : decode cX4_advance 31 = .ok (.iadd, 1) := by decide +kernel
theorem dX4_advance_32 : decode cX4_advance 32 = .ok (.putfield 19, 3) := by decide +kernel
theorem dX4_advance_35 : decode cX4_advance 35 = .ok (.goto (-35), 3) := by decide +kernel
theorem dX4_advance_38 : decode cX4_advance 38 = .ok (.aload_n 0, 1) := by decide +kernel
theorem dX4_advance_39 : decode cX4_advance 39 = .ok (.aload_n 0, 1) := by decide +kernel
theorem dX4_advance_40 : decode cX4_advance 40 = .ok (.getfield 19, 3) := by decide +kernel
theorem dX4_advance_43 : decode cX4_advance 43 = .ok (.putfield 37, 3) := by decide +kernel
theorem dX4_advance_46 : decode cX4_advance 46 = .ok (.aload_n 0, 1) := by decide +kernel
theorem dX4_advance_47 : decode cX4_advance 47 = .ok (.getfield 19, 3) := by decide +kernel
theorem dX4_advance_50 : decode cX4_advance 50 = .ok (.aload_n 0, 1) := by decide +kernel
theorem dX4_advance_51 : decode cX4_advance 51 = .ok (.getfield 15, 3) := by decide +kernel
theorem dX4_advance_54 : decode cX4_advance 54 = .ok (.if_icmp .lt 11, 3) := by decide +kernel
theorem dX4_advance_57 : decode cX4_advance 57 = .ok (.aload_n 0, 1) := by decide +kernel
theorem dX4_advance_58 : decode cX4_advance 58 = .ok (.iconst (-1), 1) := by decide +kernel
theorem dX4_advance_59 : decode cX4_advance 59 = .ok (.putfield 30, 3) := by decide +kernel
theorem dX4_advance_62 : decode cX4_advance 62 = .ok (.goto 61, 3) := by decide +kernel
theorem dX4_advance_65 : decode cX4_advance 65 = .ok (.aload_n 0, 1) := by decide +kernel
theorem dX4_advance_66 : decode cX4_advance 66 = .ok (.getfield 9, 3) := by decide +kernel
theorem dX4_advance_69 : decode cX4_advance 69 = .ok (.aload_n 0, 1) := by decide +kernel
theorem dX4_advance_70 : decode cX4_advance 70 = .ok (.getfield 19, 3) := by decide +kernel
theorem dX4_advance_73 : decode cX4_advance 73 = .ok (.caload, 1) := by decide +kernel
theorem dX4_advance_74 : decode cX4_advance 74 = .ok (.bipush 48, 2) := by decide +kernel
theorem dX4_advance_76 : decode cX4_advance 76 = .ok (.if_icmp .lt 24, 3) := by decide +kernel
theorem dX4_advance_79 : decode cX4_advance 79 = .ok (.aload_n 0, 1) := by decide +kernel
theorem dX4_advance_80 : decode cX4_advance 80 = .ok (.getfield 9, 3) := by decide +kernel
theorem dX4_advance_83 : decode cX4_advance 83 = .ok (.aload_n 0, 1) := by decide +kernel
theorem dX4_advance_84 : decode cX4_advance 84 = .ok (.getfield 19, 3) := by decide +kernel
theorem dX4_advance_87 : decode cX4_advance 87 = .ok (.caload, 1) := by decide +kernel
theorem dX4_advance_88 : decode cX4_advance 88 = .ok (.bipush 57, 2) := by decide +kernel
theorem dX4_advance_90 : decode cX4_advance 90 = .ok (.if_icmp .gt 10, 3) := by decide +kernel
theorem dX4_advance_93 : decode cX4_advance 93 = .ok (.aload_n 0, 1) := by decide +kernel
theorem dX4_advance_94 : decode cX4_advance 94 = .ok (.invokevirtual 102, 3) := by decide +kernel
theorem dX4_advance_97 : decode cX4_advance 97 = .ok (.goto 26, 3) := by decide +kernel
theorem dX4_advance_100 : decode cX4_advance 100 = .ok (.aload_n 0, 1) := by decide +kernel
theorem dX4_advance_101 : decode cX4_advance 101 = .ok (.aload_n 0, 1) := by decide +kernel
theorem dX4_advance_102 : decode cX4_advance 102 = .ok (.getfield 9, 3) := by decide +kernel
theorem dX4_advance_105 : decode cX4_advance 105 = .ok (.aload_n 0, 1) := by decide +kernel
theorem dX4_advance_106 : decode cX4_advance 106 = .ok (.getfield 19, 3) := by decide +kernel
theorem dX4_advance_109 : decode cX4_advance 109 = .ok (.caload, 1) := by decide +kernel
theorem dX4_advance_110 : decode cX4_advance 110 = .ok (.putfield 30, 3) := by decide +kernel
theorem dX4_advance_113 : decode cX4_advance 113 = .ok (.aload_n 0, 1) := by decide +kernel
theorem dX4_advance_114 : decode cX4_advance 114 = .ok (.dup, 1) := by decide +kernel
theorem dX4_advance_115 : decode cX4_advance 115 = .ok (.getfield 19, 3) := by decide +kernel
theorem dX4_advance_118 : decode cX4_advance 118 = .ok (.iconst 1, 1) := by decide +kernel
theorem dX4_advance_119 : decode cX4_advance 119 = .ok (.iadd, 1) := by decide +kernel
theorem dX4_advance_120 : decode cX4_advance 120 = .ok (.putfield 19, 3) := by decide +kernel
theorem dX4_advance_123 : decode cX4_advance 123 = .ok (.return_, 1) := by decide +kernel
def bX4_advance_100 (σ : St) (Q : St → Prop) : Prop :=
  (vp_in (σ.1 2 2) 200 ∧ (∀ σ2 : St, σ2 = up σ 2 3 (σ.1 1 (σ.1 2 2).toNatClampNeg) → (∀ σ3 : St, σ3 = up σ2 2 2 ((σ2.1 2 2) + 1) → Q σ3)))
set_option maxHeartbeats 4000000 in
set_option maxRecDepth 100000 in
theorem tX4_advance_100 {Q : St → Prop} (M : MC p s m args meth c cX4_advance 1 none RX4 Y) (hN : yN Y = 108)  (σ : St) (H : Heap) (locs : List Loc) (ls : Array Slot) (hw : WS Y (AD Y) s.heap σ H locs) (hl : lv_has ls 1 [(0, .ref (yA Y 2))]) (h : bX4_advance_100 σ Q) : W p l e { frames := 1, cells := 0, slots := 0, locals := 21 } s m args below meth c H locs 0 0 (MQ below (QV Y Q) args s 0 0 (AD Y)) (F0 m 100 ls []) := by
  obtain ⟨hx, hb, hr, hml, hown, hlk, hT, hK, hB⟩ := id M
  unfold bX4_advance_100 at h
  refine lv_aload_n hx hb dX4_advance_100 rfl (lv_at hl 0 rfl) ?_
  refine lv_aload_n hx hb dX4_advance_101 rfl (lv_at hl 0 rfl) ?_
  refine q_get (v := .ref (yA Y 1)) M hw (ob_2 hN) rfl inq_4 0 (by decide) tw_72 rfl dX4_advance_102 ?_
  refine lv_aload_n hx hb dX4_advance_105 rfl (lv_at hl 0 rfl) ?_
  refine q_get (v := .int (σ.1 2 2)) M hw (ob_2 hN) rfl inq_4 2 (by decide) tw_74 rfl dX4_advance_106 ?_
  have c1 := h.1
  have h := h.2
  refine q_cld M hw (ar_1 hN) c1 dX4_advance_109 ?_
  refine q_put (v := (σ.1 1 (σ.1 2 2).toNatClampNeg)) M hw (ob_2 hN) rfl inq_4 tyX4 tyX4_ok nmX4 3 (by decide) tw_75 rfl rfl rfl (Nat.le_of_ble_eq_true rfl) (by simp [up, upd, f0]) dX4_advance_110 (fun σ2 H locs es hw => ?_)
  have h := h σ2 es
  refine lv_aload_n hx hb dX4_advance_113 rfl (lv_at hl 0 rfl) ?_
  refine lv_dup hx hb dX4_advance_114 rfl ?_
  refine q_get (v := .int (σ2.1 2 2)) M hw (ob_2 hN) rfl inq_4 2 (by decide) tw_74 rfl dX4_advance_115 ?_
  refine lv_iconst (v := 1) hx hb dX4_advance_118 (by decide) ?_
  refine lv_iadd hx hb dX4_advance_119 ?_
  refine q_put (v := ((σ2.1 2 2) + 1)) M hw (ob_2 hN) rfl inq_4 tyX4 tyX4_ok nmX4 2 (by decide) tw_74 rfl rfl rfl (Nat.le_of_ble_eq_true rfl) (by simp [up, upd, f0]) dX4_advance_120 (fun σ3 H locs es hw => ?_)
  have h := h σ3 es
  exact q_vret M hw h dX4_advance_123
def bX4_advance_38 (σ : St) (Q : St → Prop) : Prop :=
  (∀ σ1 : St, σ1 = up σ 2 4 (σ.1 2 2) → (((σ1.1 2 2) < (σ1.1 2 1) → (vp_in (σ1.1 2 2) 200 ∧ (((σ1.1 1 (σ1.1 2 2).toNatClampNeg) < 48 → bX4_advance_100 σ1 Q) ∧ (¬ (σ1.1 1 (σ1.1 2 2).toNatClampNeg) < 48 → (vp_in (σ1.1 2 2) 200 ∧ ((57 < (σ1.1 1 (σ1.1 2 2).toNatClampNeg) → bX4_advance_100 σ1 Q) ∧ (¬ 57 < (σ1.1 1 (σ1.1 2 2).toNatClampNeg) → wX4_scanNumber σ1 (fun σ7 => Q σ7)))))))) ∧ (¬ (σ1.1 2 2) < (σ1.1 2 1) → (∀ σ8 : St, σ8 = up σ1 2 3 (-1) → Q σ8))))
set_option maxHeartbeats 4000000 in
set_option maxRecDepth 100000 in
theorem tX4_advance_38 {Q : St → Prop} (M : MC p s m args meth c cX4_advance 1 none RX4 Y) (hN : yN Y = 108)  (σ : St) (H : Heap) (locs : List Loc) (ls : Array Slot) (hw : WS Y (AD Y) s.heap σ H locs) (hl : lv_has ls 1 [(0, .ref (yA Y 2))]) (h : bX4_advance_38 σ Q) : W p l e { frames := 1, cells := 0, slots := 0, locals := 21 } s m args below meth c H locs 0 0 (MQ below (QV Y Q) args s 0 0 (AD Y)) (F0 m 38 ls []) := by
  obtain ⟨hx, hb, hr, hml, hown, hlk, hT, hK, hB⟩ := id M
  unfold bX4_advance_38 at h
  refine lv_aload_n hx hb dX4_advance_38 rfl (lv_at hl 0 rfl) ?_
  refine lv_aload_n hx hb dX4_advance_39 rfl (lv_at hl 0 rfl) ?_
  refine q_get (v := .int (σ.1 2 2)) M hw (ob_2 hN) rfl inq_4 2 (by decide) tw_74 rfl dX4_advance_40 ?_
  refine q_put (v := (σ.1 2 2)) M hw (ob_2 hN) rfl inq_4 tyX4 tyX4_ok nmX4 4 (by decide) tw_76 rfl rfl rfl (Nat.le_of_ble_eq_true rfl) (by simp [up, upd, f0]) dX4_advance_43 (fun σ1 H locs es hw => ?_)
  have h := h σ1 es
  refine lv_aload_n hx hb dX4_advance_46 rfl (lv_at hl 0 rfl) ?_
  refine q_get (v := .int (σ1.1 2 2)) M hw (ob_2 hN) rfl inq_4 2 (by decide) tw_74 rfl dX4_advance_47 ?_
  refine lv_aload_n hx hb dX4_advance_50 rfl (lv_at hl 0 rfl) ?_
  refine q_get (v := .int (σ1.1 2 1)) M hw (ob_2 hN) rfl inq_4 1 (by decide) tw_73 rfl dX4_advance_51 ?_
  refine lv_icmp_lt (tgt := 65) hx hb dX4_advance_54 (by decide) (fun c2 => ?_) (fun c2 => ?_)
  · have h := h.1 c2
    refine lv_aload_n hx hb dX4_advance_65 rfl (lv_at hl 0 rfl) ?_
    refine q_get (v := .ref (yA Y 1)) M hw (ob_2 hN) rfl inq_4 0 (by decide) tw_72 rfl dX4_advance_66 ?_
    refine lv_aload_n hx hb dX4_advance_69 rfl (lv_at hl 0 rfl) ?_
    refine q_get (v := .int (σ1.1 2 2)) M hw (ob_2 hN) rfl inq_4 2 (by decide) tw_74 rfl dX4_advance_70 ?_
    have c3 := h.1
    have h := h.2
    refine q_cld M hw (ar_1 hN) c3 dX4_advance_73 ?_
    refine lv_bipush (v := 48) hx hb dX4_advance_74 (by decide) ?_
    refine lv_icmp_lt (tgt := 100) hx hb dX4_advance_76 (by decide) (fun c4 => ?_) (fun c4 => ?_)
    · have h := h.1 c4
      exact tX4_advance_100 M hN σ1 _ _ _ hw (lv_sub hl [0] rfl) h
    · have h := h.2 c4
      refine lv_aload_n hx hb dX4_advance_79 rfl (lv_at hl 0 rfl) ?_
      refine q_get (v := .ref (yA Y 1)) M hw (ob_2 hN) rfl inq_4 0 (by decide) tw_72 rfl dX4_advance_80 ?_
      refine lv_aload_n hx hb dX4_advance_83 rfl (lv_at hl 0 rfl) ?_
      refine q_get (v := .int (σ1.1 2 2)) M hw (ob_2 hN) rfl inq_4 2 (by decide) tw_74 rfl dX4_advance_84 ?_
      have c5 := h.1
      have h := h.2
      refine q_cld M hw (ar_1 hN) c5 dX4_advance_87 ?_
      refine lv_bipush (v := 57) hx hb dX4_advance_88 (by decide) ?_
      refine lv_icmp_gt (tgt := 100) hx hb dX4_advance_90 (by decide) (fun c6 => ?_) (fun c6 => ?_)
      · have h := h.1 c6
        exact tX4_advance_100 M hN σ1 _ _ _ hw (lv_sub hl [0] rfl) h
      · have h := h.2 c6
        refine lv_aload_n hx hb dX4_advance_93 rfl (lv_at hl 0 rfl) ?_
        refine q_goV hw (q_runV (rest := []) M hw (ctX4_scanNumber l hB hN σ1 _ h) mbX4_scanNumber (ob_2 hN) rfl tw_330 rfl hl.1 rfl (Nat.le_of_ble_eq_true rfl) ⟨Nat.le_of_ble_eq_true rfl, Nat.le_of_ble_eq_true rfl⟩ ⟨Nat.le_refl _, Nat.le_refl _⟩ dX4_advance_94) (fun σ7 H locs h hw => ?_)
        refine lv_goto (tgt := 123) hx hb dX4_advance_97 (by decide) ?_
        exact q_vret M hw h dX4_advance_123
  · have h := h.2 c2
    refine lv_aload_n hx hb dX4_advance_57 rfl (lv_at hl 0 rfl) ?_
    refine lv_iconst (v := (-1)) hx hb dX4_advance_58 (by decide) ?_
    refine q_put (v := (-1)) M hw (ob_2 hN) rfl inq_4 tyX4 tyX4_ok nmX4 3 (by decide) tw_75 rfl rfl rfl (Nat.le_of_ble_eq_true rfl) (by simp [up, upd, f0]) dX4_advance_59 (fun σ8 H locs es hw => ?_)
    have h := h σ8 es
    refine lv_goto (tgt := 123) hx hb dX4_advance_62 (by decide) ?_
    exact q_vret M hw h dX4_advance_123
def bX4_advance_0 (R_0 : St → Prop) (σ : St) (Q : St → Prop) : Prop :=
  (((σ.1 2 1) ≤ (σ.1 2 2) → bX4_advance_38 σ Q) ∧ (¬ (σ.1 2 1) ≤ (σ.1 2 2) → (vp_in (σ.1 2 2) 200 ∧ (((σ.1 1 (σ.1 2 2).toNatClampNeg) = 32 → (∀ σ4 : St, σ4 = up σ 2 2 ((σ.1 2 2) + 1) → R_0 σ4)) ∧ (¬ (σ.1 1 (σ.1 2 2).toNatClampNeg) = 32 → bX4_advance_38 σ Q)))))
set_option maxHeartbeats 4000000 in
set_option maxRecDepth 100000 in
theorem tX4_advance_0 {R_0 : St → Prop} {Q : St → Prop} (M : MC p s m args meth c cX4_advance 1 none RX4 Y) (hN : yN Y = 108) (hR_0 : ∀ (σ : St) (H : Heap) (locs : List Loc) (ls : Array Slot), WS Y (AD Y) s.heap σ H locs → lv_has ls 1 [(0, .ref (yA Y 2))] → R_0 σ → W p l e { frames := 1, cells := 0, slots := 0, locals := 21 } s m args below meth c H locs 0 0 (MQ below (QV Y Q) args s 0 0 (AD Y)) (F0 m 0 ls []))  (σ : St) (H : Heap) (locs : List Loc) (ls : Array Slot) (hw : WS Y (AD Y) s.heap σ H locs) (hl : lv_has ls 1 [(0, .ref (yA Y 2))]) (h : bX4_advance_0 R_0 σ Q) : W p l e { frames := 1, cells := 0, slots := 0, locals := 21 } s m args below meth c H locs 0 0 (MQ below (QV Y Q) args s 0 0 (AD Y)) (F0 m 0 ls []) := by
  obtain ⟨hx, hb, hr, hml, hown, hlk, hT, hK, hB⟩ := id M
  unfold bX4_advance_0 at h
  refine lv_aload_n hx hb dX4_advance_0 rfl (lv_at hl 0 rfl) ?_
  refine q_get (v := .int (σ.1 2 2)) M hw (ob_2 hN) rfl inq_4 2 (by decide) tw_74 rfl dX4_advance_1 ?_
  refine lv_aload_n hx hb dX4_advance_4 rfl (lv_at hl 0 rfl) ?_
  refine q_get (v := .int (σ.1 2 1)) M hw (ob_2 hN) rfl inq_4 1 (by decide) tw_73 rfl dX4_advance_5 ?_
  refine lv_icmp_ge (tgt := 38) hx hb dX4_advance_8 (by decide) (fun c1 => ?_) (fun c1 => ?_)
  · have h := h.1 c1
    exact tX4_advance_38 M hN σ _ _ _ hw (lv_sub hl [0] rfl) h
  · have h := h.2 c1
    refine lv_aload_n hx hb dX4_advance_11 rfl (lv_at hl 0 rfl) ?_
    refine q_get (v := .ref (yA Y 1)) M hw (ob_2 hN) rfl inq_4 0 (by decide) tw_72 rfl dX4_advance_12 ?_
    refine lv_aload_n hx hb dX4_advance_15 rfl (lv_at hl 0 rfl) ?_
    refine q_get (v := .int (σ.1 2 2)) M hw (ob_2 hN) rfl inq_4 2 (by decide) tw_74 rfl dX4_advance_16 ?_
    have c2 := h.1
    have h := h.2
    refine q_cld M hw (ar_1 hN) c2 dX4_advance_19 ?_
    refine lv_bipush (v := 32) hx hb dX4_advance_20 (by decide) ?_
    refine lv_icmp_ne (tgt := 38) hx hb dX4_advance_22 (by decide) (fun c3 => ?_) (fun c3 => ?_)
    · have h := h.2 c3
      exact tX4_advance_38 M hN σ _ _ _ hw (lv_sub hl [0] rfl) h
    · have h := h.1 c3
      refine lv_aload_n hx hb dX4_advance_25 rfl (lv_at hl 0 rfl) ?_
      refine lv_dup hx hb dX4_advance_26 rfl ?_
      refine q_get (v := .int (σ.1 2 2)) M hw (ob_2 hN) rfl inq_4 2 (by decide) tw_74 rfl dX4_advance_27 ?_
      refine lv_iconst (v := 1) hx hb dX4_advance_30 (by decide) ?_
      refine lv_iadd hx hb dX4_advance_31 ?_
      refine q_put (v := ((σ.1 2 2) + 1)) M hw (ob_2 hN) rfl inq_4 tyX4 tyX4_ok nmX4 2 (by decide) tw_74 rfl rfl rfl (Nat.le_of_ble_eq_true rfl) (by simp [up, upd, f0]) dX4_advance_32 (fun σ4 H locs es hw => ?_)
      have h := h σ4 es
      refine lv_goto (tgt := 0) hx hb dX4_advance_35 (by decide) ?_
      exact hR_0 σ4 _ _ _ hw (lv_sub hl [0] rfl) h
def lX4_advance_0 (Q : St → Prop) : (St → Prop) → St → Prop := fun R a => bX4_advance_0 R a Q
theorem tlX4_advance_0 {Q : St → Prop} (M : MC p s m args meth c cX4_advance 1 none RX4 Y) (hN : yN Y = 108) (n : Nat) : ∀  (σ : St) (H : Heap) (locs : List Loc) (ls : Array Slot) (hw : WS Y (AD Y) s.heap σ H locs) (hl : lv_has ls 1 [(0, .ref (yA Y 2))]) (h : Lp (lX4_advance_0 Q) n σ), W p l e { frames := 1, cells := 0, slots := 0, locals := 21 } s m args below meth c H locs 0 0 (MQ below (QV Y Q) args s 0 0 (AD Y)) (F0 m 0 ls []) := by
  induction n with
  | zero => intro  σ H locs ls hw hl h; exact h.elim
  | succ n ih =>
    intro  σ H locs ls hw hl h
    exact tX4_advance_0 M hN ih  σ H locs ls hw hl h
def wX4_advance (σ : St) (Q : St → Prop) : Prop :=
  ∃ n : Nat, Lp (lX4_advance_0 Q) n σ
set_option maxHeartbeats 4000000 in
set_option maxRecDepth 100000 in
theorem tX4_advance_E {Q : St → Prop} (M : MC p s m args meth c cX4_advance 1 none RX4 Y) (hN : yN Y = 108)  (σ : St) (H : Heap) (locs : List Loc) (ls : Array Slot) (hw : WS Y (AD Y) s.heap σ H locs) (hl : lv_has ls 1 [(0, .ref (yA Y 2))]) (h : wX4_advance σ Q) : W p l e { frames := 1, cells := 0, slots := 0, locals := 21 } s m args below meth c H locs 0 0 (MQ below (QV Y Q) args s 0 0 (AD Y)) (F0 m 0 ls []) := by
  obtain ⟨hx, hb, hr, hml, hown, hlk, hT, hK, hB⟩ := id M
  unfold wX4_advance at h
  obtain ⟨n, h⟩ := h
  exact tlX4_advance_0 M hN n σ _ _ _ hw (lv_sub hl [0] rfl) h
set_option maxRecDepth 100000 in
theorem ctX4_advance (l : Launch) {Y : LY} (hB : YB Y) (hN : yN Y = 108) (σ : St) (Q : St → Prop) (h : wX4_advance σ Q) : CT l yX4_advance (Cond.code yX4_advance cX4_advance 1 none) { frames := 1, cells := 0, slots := 0, locals := 21 } Y [.ref (yA Y 2)] σ (QV Y Q) :=
  q_ent hB (by decide +kernel) (Nat.le_of_ble_eq_true rfl) (fun p e s m below meth c ls M hw hl => tX4_advance_E M hN σ _ _ ls hw hl h)
theorem mbX4_advance : MB RX4 yX4_advance cX4_advance 0 1 none := ⟨tw_328, tw_0, tw_50, tw_329, by decide +kernel⟩
end
section
variable {p : Program} {l : Launch} {e : Env} {s : State} {m : MethodId} {args : Array Value} {below : List Frame} {meth : Method} {c : Code} {Y : LY}
theorem dX4_readItemEnd_0 : decode cX4_readItemEnd 0 = .ok (.aload_n 0, 1) := by decide +kernel
theorem dX4_readItemEnd_1 : decode cX4_readItemEnd 1 = .ok (.invokevirtual 27, 3) := by decide +kernel
theorem dX4_readItemEnd_4 : decode cX4_readItemEnd 4 = .ok (.aload_n 0, 1) := by decide +kernel
theorem dX4_readItemEnd_5 : decode cX4_readItemEnd 5 = .ok (.getfield 30, 3) := by decide +kernel
theorem dX4_readItemEnd_8 : decode cX4_readItemEnd 8 = .ok (.bipush 59, 2) := by decide +kernel
theorem dX4_readItemEnd_10 : decode cX4_readItemEnd 10 = .ok (.if_icmp .eq 5, 3) := by decide +kernel
theorem dX4_readItemEnd_13 : decode cX4_readItemEnd 13 = .ok (.iconst 0, 1) := by decide +kernel
theorem dX4_readItemEnd_14 : decode cX4_readItemEnd 14 = .ok (.ireturn, 1) := by decide +kernel
theorem dX4_readItemEnd_15 : decode cX4_readItemEnd 15 = .ok (.aload_n 0, 1) := by decide +kernel
theorem dX4_readItemEnd_16 : decode cX4_readItemEnd 16 = .ok (.invokevirtual 27, 3) := by decide +kernel
theorem dX4_readItemEnd_19 : decode cX4_readItemEnd 19 = .ok (.iconst 1, 1) := by decide +kernel
theorem dX4_readItemEnd_20 : decode cX4_readItemEnd 20 = .ok (.ireturn, 1) := by decide +kernel
def wX4_readItemEnd (σ : St) (Q : Int32 → St → Prop) : Prop :=
  wX4_advance σ (fun σ1 => (((σ1.1 2 3) = 59 → wX4_advance σ1 (fun σ3 => Q 1 σ3)) ∧ (¬ (σ1.1 2 3) = 59 → Q 0 σ1)))
set_option maxHeartbeats 4000000 in
set_option maxRecDepth 100000 in
theorem tX4_readItemEnd_E {Q : Int32 → St → Prop} (M : MC p s m args meth c cX4_readItemEnd 1 (some .boolean) RX4 Y) (hN : yN Y = 108)  (σ : St) (H : Heap) (locs : List Loc) (ls : Array Slot) (hw : WS Y (AD Y) s.heap σ H locs) (hl : lv_has ls 1 [(0, .ref (yA Y 2))]) (h : wX4_readItemEnd σ Q) : W p l e { frames := 2, cells := 0, slots := 0, locals := 41 } s m args below meth c H locs 0 0 (MQ below (QI Y Q) args s 0 0 (AD Y)) (F0 m 0 ls []) := by
  obtain ⟨hx, hb, hr, hml, hown, hlk, hT, hK, hB⟩ := id M
  unfold wX4_readItemEnd at h
  refine lv_aload_n hx hb dX4_readItemEnd_0 rfl (lv_at hl 0 rfl) ?_
  refine q_goV hw (q_runV (rest := []) M hw (ctX4_advance l hB hN σ _ h) mbX4_advance (ob_2 hN) rfl tw_326 rfl hl.1 rfl (Nat.le_of_ble_eq_true rfl) ⟨Nat.le_of_ble_eq_true rfl, Nat.le_of_ble_eq_true rfl⟩ ⟨Nat.le_refl _, Nat.le_refl _⟩ dX4_readItemEnd_1) (fun σ1 H locs h hw => ?_)
  refine lv_aload_n hx hb dX4_readItemEnd_4 rfl (lv_at hl 0 rfl) ?_
  refine q_get (v := .int (σ1.1 2 3)) M hw (ob_2 hN) rfl inq_4 3 (by decide) tw_75 rfl dX4_readItemEnd_5 ?_
  refine lv_bipush (v := 59) hx hb dX4_readItemEnd_8 (by decide) ?_
  refine lv_icmp_eq (tgt := 15) hx hb dX4_readItemEnd_10 (by decide) (fun c2 => ?_) (fun c2 => ?_)
  · have h := h.1 c2
    refine lv_aload_n hx hb dX4_readItemEnd_15 rfl (lv_at hl 0 rfl) ?_
    refine q_goV hw (q_runV (rest := []) M hw (ctX4_advance l hB hN σ1 _ h) mbX4_advance (ob_2 hN) rfl tw_326 rfl hl.1 rfl (Nat.le_of_ble_eq_true rfl) ⟨Nat.le_of_ble_eq_true rfl, Nat.le_of_ble_eq_true rfl⟩ ⟨Nat.le_refl _, Nat.le_refl _⟩ dX4_readItemEnd_16) (fun σ3 H locs h hw => ?_)
    refine lv_iconst (v := 1) hx hb dX4_readItemEnd_19 (by decide) ?_
    exact q_zret M hw (by decide) h dX4_readItemEnd_20
  · have h := h.2 c2
    refine lv_iconst (v := 0) hx hb dX4_readItemEnd_13 (by decide) ?_
    exact q_zret M hw (by decide) h dX4_readItemEnd_14
set_option maxRecDepth 100000 in
theorem ctX4_readItemEnd (l : Launch) {Y : LY} (hB : YB Y) (hN : yN Y = 108) (σ : St) (Q : Int32 → St → Prop) (h : wX4_readItemEnd σ Q) : CT l yX4_readItemEnd (Cond.code yX4_readItemEnd cX4_readItemEnd 1 (some .boolean)) { frames := 2, cells := 0, slots := 0, locals := 41 } Y [.ref (yA Y 2)] σ (QI Y Q) :=
  q_ent hB (by decide +kernel) (Nat.le_of_ble_eq_true rfl) (fun p e s m below meth c ls M hw hl => tX4_readItemEnd_E M hN σ _ _ ls hw hl h)
theorem mbX4_readItemEnd : MB RX4 yX4_readItemEnd cX4_readItemEnd 0 1 (some .boolean) := ⟨tw_348, tw_5, tw_50, tw_349, by decide +kernel⟩
end
section
variable {p : Program} {l : Launch} {e : Env} {s : State} {m : MethodId} {args : Array Value} {below : List Frame} {meth : Method} {c : Code} {Y : LY}
theorem dX4_readNumber_0 : decode cX4_readNumber 0 = .ok (.aload_n 0, 1) := by decide +kernel
theorem dX4_readNumber_1 : decode cX4_readNumber 1 = .ok (.getfield 30, 3) := by decide +kernel
theorem dX4_readNumber_4 : decode cX4_readNumber 4 = .ok (.bipush (-2), 2) := by decide +kernel
theorem dX4_readNumber_6 : decode cX4_readNumber 6 = .ok (.if_icmp .ne 23, 3) := by decide +kernel
theorem dX4_readNumber_9 : decode cX4_readNumber 9 = .ok (.aload_n 0, 1) := by decide +kernel
theorem dX4_readNumber_10 : decode cX4_readNumber 10 = .ok (.getfield 66, 3) := by decide +kernel
theorem dX4_readNumber_13 : decode cX4_readNumber 13 = .ok (.iload_n 1, 1) := by decide +kernel
theorem dX4_readNumber_14 : decode cX4_readNumber 14 = .ok (.if_icmp .lt 15, 3) := by decide +kernel
theorem dX4_readNumber_17 : decode cX4_readNumber 17 = .ok (.aload_n 0, 1) := by decide +kernel
theorem dX4_readNumber_18 : decode cX4_readNumber 18 = .ok (.getfield 66, 3) := by decide +kernel
theorem dX4_readNumber_21 : decode cX4_readNumber 21 = .ok (.iload_n 2, 1) := by decide +kernel
theorem dX4_readNumber_22 : decode cX4_readNumber 22 = .ok (.if_icmp .gt 7, 3) := by decide +kernel
theorem dX4_readNumber_25 : decode cX4_readNumber 25 = .ok (.iconst 1, 1) := by decide +kernel
theorem dX4_readNumber_26 : decode cX4_readNumber 26 = .ok (.goto 4, 3) := by decide +kernel
theorem dX4_readNumber_29 : decode cX4_readNumber 29 = .ok (.iconst 0, 1) := by decide +kernel
theorem dX4_readNumber_30 : decode cX4_readNumber 30 = .ok (.ireturn, 1) := by decide +kernel
def wX4_readNumber (a0 : Int32) (a1 : Int32) (σ : St) (Q : Int32 → St → Prop) : Prop :=
  (((σ.1 2 3) = (-2) → (((σ.1 2 5) < a0 → Q 0 σ) ∧ (¬ (σ.1 2 5) < a0 → ((a1 < (σ.1 2 5) → Q 0 σ) ∧ (¬ a1 < (σ.1 2 5) → Q 1 σ))))) ∧ (¬ (σ.1 2 3) = (-2) → Q 0 σ))
set_option maxHeartbeats 4000000 in
set_option maxRecDepth 100000 in
theorem tX4_readNumber_E {Q : Int32 → St → Prop} (M : MC p s m args meth c cX4_readNumber 3 (some .boolean) RX4 Y) (hN : yN Y = 108) (a0 : Int32) (a1 : Int32) (σ : St) (H : Heap) (locs : List Loc) (ls : Array Slot) (hw : WS Y (AD Y) s.heap σ H locs) (hl : lv_has ls 3 [(0, .ref (yA Y 2)), (1, .int a0), (2, .int a1)]) (h : wX4_readNumber a0 a1 σ Q) : W p l e { frames := 0, cells := 0, slots := 0, locals := 0 } s m args below meth c H locs 0 0 (MQ below (QI Y Q) args s 0 0 (AD Y)) (F0 m 0 ls []) := by
  obtain ⟨hx, hb, hr, hml, hown, hlk, hT, hK, hB⟩ := id M
  unfold wX4_readNumber at h
  refine lv_aload_n hx hb dX4_readNumber_0 rfl (lv_at hl 0 rfl) ?_
  refine q_get (v := .int (σ.1 2 3)) M hw (ob_2 hN) rfl inq_4 3 (by decide) tw_75 rfl dX4_readNumber_1 ?_
  refine lv_bipush (v := (-2)) hx hb dX4_readNumber_4 (by decide) ?_
  refine lv_icmp_ne (tgt := 29) hx hb dX4_readNumber_6 (by decide) (fun c1 => ?_) (fun c1 => ?_)
  · have h := h.2 c1
    refine lv_iconst (v := 0) hx hb dX4_readNumber_29 (by decide) ?_
    exact q_zret M hw (by decide) h dX4_readNumber_30
  · have h := h.1 c1
    refine lv_aload_n hx hb dX4_readNumber_9 rfl (lv_at hl 0 rfl) ?_
    refine q_get (v := .int (σ.1 2 5)) M hw (ob_2 hN) rfl inq_4 5 (by decide) tw_77 rfl dX4_readNumber_10 ?_
    refine lv_iload_n hx hb dX4_readNumber_13 rfl (lv_at hl 1 rfl) ?_
    refine lv_icmp_lt (tgt := 29) hx hb dX4_readNumber_14 (by decide) (fun c2 => ?_) (fun c2 => ?_)
    · have h := h.1 c2
      refine lv_iconst (v := 0) hx hb dX4_readNumber_29 (by decide) ?_
      exact q_zret M hw (by decide) h dX4_readNumber_30
    · have h := h.2 c2
      refine lv_aload_n hx hb dX4_readNumber_17 rfl (lv_at hl 0 rfl) ?_
      refine q_get (v := .int (σ.1 2 5)) M hw (ob_2 hN) rfl inq_4 5 (by decide) tw_77 rfl dX4_readNumber_18 ?_
      refine lv_iload_n hx hb dX4_readNumber_21 rfl (lv_at hl 2 rfl) ?_
      refine lv_icmp_gt (tgt := 29) hx hb dX4_readNumber_22 (by decide) (fun c3 => ?_) (fun c3 => ?_)
      · have h := h.1 c3
        refine lv_iconst (v := 0) hx hb dX4_readNumber_29 (by decide) ?_
        exact q_zret M hw (by decide) h dX4_readNumber_30
      · have h := h.2 c3
        refine lv_iconst (v := 1) hx hb dX4_readNumber_25 (by decide) ?_
        refine lv_goto (tgt := 30) hx hb dX4_readNumber_26 (by decide) ?_
        exact q_zret M hw (by decide) h dX4_readNumber_30
set_option maxRecDepth 100000 in
theorem ctX4_readNumber (l : Launch) {Y : LY} (hB : YB Y) (hN : yN Y = 108) (a0 : Int32) (a1 : Int32) (σ : St) (Q : Int32 → St → Prop) (h : wX4_readNumber a0 a1 σ Q) : CT l yX4_readNumber (Cond.code yX4_readNumber cX4_readNumber 3 (some .boolean)) { frames := 0, cells := 0, slots := 0, locals := 0 } Y [.ref (yA Y 2), .int a0, .int a1] σ (QI Y Q) :=
  q_ent hB (by decide +kernel) (Nat.le_of_ble_eq_true rfl) (fun p e s m below meth c ls M hw hl => tX4_readNumber_E M hN a0 a1 σ _ _ ls hw hl h)
theorem mbX4_readNumber : MB RX4 yX4_readNumber cX4_readNumber 2 3 (some .boolean) := ⟨tw_344, tw_4, tw_50, tw_345, by decide +kernel⟩
end
section
variable {p : Program} {l : Launch} {e : Env} {s : State} {m : MethodId} {args : Array Value} {below : List Frame} {meth : Method} {c : Code} {Y : LY}
theorem dX4_readCloud_0 : decode cX4_readCloud 0 = .ok (.aload_n 0, 1) := by decide +kernel
theorem dX4_readCloud_1 : decode cX4_readCloud 1 = .ok (.invokevirtual 27, 3) := by decide +kernel
theorem dX4_readCloud_4 : decode cX4_readCloud 4 = .ok (.aload_n 0, 1) := by decide +kernel
theorem dX4_readCloud_5 : decode cX4_readCloud 5 = .ok (.iconst 0, 1) := by decide +kernel
theorem dX4_readCloud_6 : decode cX4_readCloud 6 = .ok (.bipush 99, 2) := by decide +kernel
theorem dX4_readCloud_8 : decode cX4_readCloud 8 = .ok (.invokevirtual 58, 3) := by decide +kernel
theorem dX4_readCloud_11 : decode cX4_readCloud 11 = .ok (.ifCond .ne 5, 3) := by decide +kernel
theorem dX4_readCloud_14 : decode cX4_readCloud 14 = .ok (.iconst 0, 1) := by decide +kernel
theorem dX4_readCloud_15 : decode cX4_readCloud 15 = .ok (.ireturn, 1) := by decide +kernel
theorem dX4_readCloud_16 : decode cX4_readCloud 16 = .ok (.aload_n 1, 1) := by decide +kernel
theorem dX4_readCloud_17 : decode cX4_readCloud 17 = .ok (.getfield 85, 3) := by decide +kernel
theorem dX4_readCloud_20 : decode cX4_readCloud 20 = .ok (.aload_n 0, 1) := by decide +kernel
theorem dX4_readCloud_21 : decode cX4_readCloud 21 = .ok (.getfield 66, 3) := by decide +kernel
theorem dX4_readCloud_24 : decode cX4_readCloud 24 = .ok (.iconst 1, 1) := by decide +kernel
theorem dX4_readCloud_25 : decode cX4_readCloud 25 = .ok (.bastore, 1) := by decide +kernel
theorem dX4_readCloud_26 : decode cX4_readCloud 26 = .ok (.aload_n 0, 1) := by decide +kernel
theorem dX4_readCloud_27 : decode cX4_readCloud 27 = .ok (.invokevirtual 72, 3) := by decide +kernel
theorem dX4_readCloud_30 : decode cX4_readCloud 30 = .ok (.ireturn, 1) := by decide +kernel
def wX4_readCloud (σ : St) (Q : Int32 → St → Prop) : Prop :=
  wX4_advance σ (fun σ1 => wX4_readNumber 0 99 σ1 (fun r3 σ2 => ((r3 = 0 → Q 0 σ2) ∧ (¬ r3 = 0 → (vp_in (σ2.1 2 5) 100 ∧ ∀ σ6 : St, σ6 = up σ2 14 (σ2.1 2 5).toNatClampNeg (vp_nar .boolean 1) → wX4_readItemEnd σ6 (fun r8 σ7 => ((r8 = 0 ∨ r8 = 1) ∧ Q r8 σ7)))))))
set_option maxHeartbeats 4000000 in
set_option maxRecDepth 100000 in
theorem tX4_readCloud_E {Q : Int32 → St → Prop} (M : MC p s m args meth c cX4_readCloud 2 (some .boolean) RX4 Y) (hN : yN Y = 108)  (σ : St) (H : Heap) (locs : List Loc) (ls : Array Slot) (hw : WS Y (AD Y) s.heap σ H locs) (hl : lv_has ls 2 [(0, .ref (yA Y 2)), (1, .ref (yA Y 9))]) (h : wX4_readCloud σ Q) : W p l e { frames := 3, cells := 0, slots := 0, locals := 61 } s m args below meth c H locs 0 0 (MQ below (QI Y Q) args s 0 0 (AD Y)) (F0 m 0 ls []) := by
  obtain ⟨hx, hb, hr, hml, hown, hlk, hT, hK, hB⟩ := id M
  unfold wX4_readCloud at h
  refine lv_aload_n hx hb dX4_readCloud_0 rfl (lv_at hl 0 rfl) ?_
  refine q_goV hw (q_runV (rest := []) M hw (ctX4_advance l hB hN σ _ h) mbX4_advance (ob_2 hN) rfl tw_326 rfl hl.1 rfl (Nat.le_of_ble_eq_true rfl) ⟨Nat.le_of_ble_eq_true rfl, Nat.le_of_ble_eq_true rfl⟩ ⟨Nat.le_refl _, Nat.le_refl _⟩ dX4_readCloud_1) (fun σ1 H locs h hw => ?_)
  refine lv_aload_n hx hb dX4_readCloud_4 rfl (lv_at hl 0 rfl) ?_
  refine lv_iconst (v := 0) hx hb dX4_readCloud_5 (by decide) ?_
  refine lv_bipush (v := 99) hx hb dX4_readCloud_6 (by decide) ?_
  refine q_goI hw (q_runV (rest := []) M hw (ctX4_readNumber l hB hN 0 99 σ1 _ h) mbX4_readNumber (ob_2 hN) rfl tw_342 rfl hl.1 rfl (Nat.le_of_ble_eq_true rfl) ⟨Nat.le_of_ble_eq_true rfl, Nat.le_of_ble_eq_true rfl⟩ ⟨Nat.le_refl _, Nat.le_refl _⟩ dX4_readCloud_8) (fun r3 σ2 H locs h hw => ?_)
  refine lv_if_ne (tgt := 16) hx hb dX4_readCloud_11 (by decide) (fun c4 => ?_) (fun c4 => ?_)
  · have h := h.2 c4
    refine lv_aload_n hx hb dX4_readCloud_16 rfl (lv_at hl 1 rfl) ?_
    refine q_get (v := .ref (yA Y 14)) M hw (ph_ob (ph_9 hN)) rfl inq_3 4 (by decide) tw_113 rfl dX4_readCloud_17 ?_
    refine lv_aload_n hx hb dX4_readCloud_20 rfl (lv_at hl 0 rfl) ?_
    refine q_get (v := .int (σ2.1 2 5)) M hw (ob_2 hN) rfl inq_4 5 (by decide) tw_77 rfl dX4_readCloud_21 ?_
    refine lv_iconst (v := 1) hx hb dX4_readCloud_24 (by decide) ?_
    have c5 := h.1
    refine q_zst M hw (ar_14 hN) c5 dX4_readCloud_25 (fun σ6 H locs es hw => ?_)
    have h := h.2 σ6 es
    refine lv_aload_n hx hb dX4_readCloud_26 rfl (lv_at hl 0 rfl) ?_
    refine q_goI hw (q_runV (rest := []) M hw (ctX4_readItemEnd l hB hN σ6 _ h) mbX4_readItemEnd (ob_2 hN) rfl tw_346 rfl hl.1 rfl (Nat.le_of_ble_eq_true rfl) ⟨Nat.le_of_ble_eq_true rfl, Nat.le_of_ble_eq_true rfl⟩ ⟨Nat.le_refl _, Nat.le_refl _⟩ dX4_readCloud_27) (fun r8 σ7 H locs h hw => ?_)
    exact q_zret M hw (nar01 h.1) h.2 dX4_readCloud_30
  · have h := h.1 c4
    refine lv_iconst (v := 0) hx hb dX4_readCloud_14 (by decide) ?_
    exact q_zret M hw (by decide) h dX4_readCloud_15
set_option maxRecDepth 100000 in
theorem ctX4_readCloud (l : Launch) {Y : LY} (hB : YB Y) (hN : yN Y = 108) (σ : St) (Q : Int32 → St → Prop) (h : wX4_readCloud σ Q) : CT l yX4_readCloud (Cond.code yX4_readCloud cX4_readCloud 2 (some .boolean)) { frames := 3, cells := 0, slots := 0, locals := 61 } Y [.ref (yA Y 2), .ref (yA Y 9)] σ (QI Y Q) :=
  q_ent hB (by decide +kernel) (Nat.le_of_ble_eq_true rfl) (fun p e s m below meth c ls M hw hl => tX4_readCloud_E M hN σ _ _ ls hw hl h)
theorem mbX4_readCloud : MB RX4 yX4_readCloud cX4_readCloud 1 2 (some .boolean) := ⟨tw_356, tw_7, tw_50, tw_357, by decide +kernel⟩
end
section
variable {p : Program} {l : Launch} {e : Env} {s : State} {m : MethodId} {args : Array Value} {below : List Frame} {meth : Method} {c : Code} {Y : LY}
theorem dX4_readEaster_0 : decode cX4_readEaster 0 = .ok (.aload_n 1, 1) := by decide +kernel
theorem dX4_readEaster_1 : decode cX4_readEaster 1 = .ok (.getfield 96, 3) := by decide +kernel
theorem dX4_readEaster_4 : decode cX4_readEaster 4 = .ok (.ifCond .eq 5, 3) := by decide +kernel
theorem dX4_readEaster_7 : decode cX4_readEaster 7 = .ok (.iconst 0, 1) := by decide +kernel
theorem dX4_readEaster_8 : decode cX4_readEaster 8 = .ok (.ireturn, 1) := by decide +kernel
theorem dX4_readEaster_9 : decode cX4_readEaster 9 = .ok (.aload_n 0, 1) := by decide +kernel
theorem dX4_readEaster_10 : decode cX4_readEaster 10 = .ok (.invokevirtual 27, 3) := by decide +kernel
theorem dX4_readEaster_13 : decode cX4_readEaster 13 = .ok (.aload_n 0, 1) := by decide +kernel
theorem dX4_readEaster_14 : decode cX4_readEaster 14 = .ok (.iconst 1, 1) := by decide +kernel
theorem dX4_readEaster_15 : decode cX4_readEaster 15 = .ok (.bipush 60, 2) := by decide +kernel
theorem dX4_readEaster_17 : decode cX4_readEaster 17 = .ok (.invokevirtual 58, 3) := by decide +kernel
theorem dX4_readEaster_20 : decode cX4_readEaster 20 = .ok (.ifCond .ne 5, 3) := by decide +kernel
theorem dX4_readEaster_23 : decode cX4_readEaster 23 = .ok (.iconst 0, 1) := by decide +kernel
theorem dX4_readEaster_24 : decode cX4_readEaster 24 = .ok (.ireturn, 1) := by decide +kernel
theorem dX4_readEaster_25 : decode cX4_readEaster 25 = .ok (.aload_n 1, 1) := by decide +kernel
theorem dX4_readEaster_26 : decode cX4_readEaster 26 = .ok (.aload_n 0, 1) := by decide +kernel
theorem dX4_readEaster_27 : decode cX4_readEaster 27 = .ok (.getfield 66, 3) := by decide +kernel
theorem dX4_readEaster_30 : decode cX4_readEaster 30 = .ok (.putfield 99, 3) := by decide +kernel
theorem dX4_readEaster_33 : decode cX4_readEaster 33 = .ok (.aload_n 1, 1) := by decide +kernel
theorem dX4_readEaster_34 : decode cX4_readEaster 34 = .ok (.iconst 1, 1) := by decide +kernel
theorem dX4_readEaster_35 : decode cX4_readEaster 35 = .ok (.putfield 96, 3) := by decide +kernel
theorem dX4_readEaster_38 : decode cX4_readEaster 38 = .ok (.aload_n 0, 1) := by decide +kernel
theorem dX4_readEaster_39 : decode cX4_readEaster 39 = .ok (.invokevirtual 72, 3) := by decide +kernel
theorem dX4_readEaster_42 : decode cX4_readEaster 42 = .ok (.ireturn, 1) := by decide +kernel
def wX4_readEaster (σ : St) (Q : Int32 → St → Prop) : Prop :=
  (((σ.1 9 10) = 0 → wX4_advance σ (fun σ2 => wX4_readNumber 1 60 σ2 (fun r4 σ3 => ((r4 = 0 → Q 0 σ3) ∧ (¬ r4 = 0 → (∀ σ6 : St, σ6 = up σ3 9 8 (σ3.1 2 5) → (∀ σ7 : St, σ7 = up σ6 9 10 1 → wX4_readItemEnd σ7 (fun r9 σ8 => ((r9 = 0 ∨ r9 = 1) ∧ Q r9 σ8))))))))) ∧ (¬ (σ.1 9 10) = 0 → Q 0 σ))
set_option maxHeartbeats 4000000 in
set_option maxRecDepth 100000 in
theorem tX4_readEaster_E {Q : Int32 → St → Prop} (M : MC p s m args meth c cX4_readEaster 2 (some .boolean) RX4 Y) (hN : yN Y = 108)  (σ : St) (H : Heap) (locs : List Loc) (ls : Array Slot) (hw : WS Y (AD Y) s.heap σ H locs) (hl : lv_has ls 2 [(0, .ref (yA Y 2)), (1, .ref (yA Y 9))]) (h : wX4_readEaster σ Q) : W p l e { frames := 3, cells := 0, slots := 0, locals := 61 } s m args below meth c H locs 0 0 (MQ below (QI Y Q) args s 0 0 (AD Y)) (F0 m 0 ls []) := by
  obtain ⟨hx, hb, hr, hml, hown, hlk, hT, hK, hB⟩ := id M
  unfold wX4_readEaster at h
  refine lv_aload_n hx hb dX4_readEaster_0 rfl (lv_at hl 1 rfl) ?_
  refine q_get (v := .int (σ.1 9 10)) M hw (ph_ob (ph_9 hN)) rfl inq_3 10 (by decide) tw_132 rfl dX4_readEaster_1 ?_
  refine lv_if_eq (tgt := 9) hx hb dX4_readEaster_4 (by decide) (fun c1 => ?_) (fun c1 => ?_)
  · have h := h.1 c1
    refine lv_aload_n hx hb dX4_readEaster_9 rfl (lv_at hl 0 rfl) ?_
    refine q_goV hw (q_runV (rest := []) M hw (ctX4_advance l hB hN σ _ h) mbX4_advance (ob_2 hN) rfl tw_326 rfl hl.1 rfl (Nat.le_of_ble_eq_true rfl) ⟨Nat.le_of_ble_eq_true rfl, Nat.le_of_ble_eq_true rfl⟩ ⟨Nat.le_refl _, Nat.le_refl _⟩ dX4_readEaster_10) (fun σ2 H locs h hw => ?_)
    refine lv_aload_n hx hb dX4_readEaster_13 rfl (lv_at hl 0 rfl) ?_
    refine lv_iconst (v := 1) hx hb dX4_readEaster_14 (by decide) ?_
    refine lv_bipush (v := 60) hx hb dX4_readEaster_15 (by decide) ?_
    refine q_goI hw (q_runV (rest := []) M hw (ctX4_readNumber l hB hN 1 60 σ2 _ h) mbX4_readNumber (ob_2 hN) rfl tw_342 rfl hl.1 rfl (Nat.le_of_ble_eq_true rfl) ⟨Nat.le_of_ble_eq_true rfl, Nat.le_of_ble_eq_true rfl⟩ ⟨Nat.le_refl _, Nat.le_refl _⟩ dX4_readEaster_17) (fun r4 σ3 H locs h hw => ?_)
    refine lv_if_ne (tgt := 25) hx hb dX4_readEaster_20 (by decide) (fun c5 => ?_) (fun c5 => ?_)
    · have h := h.2 c5
      refine lv_aload_n hx hb dX4_readEaster_25 rfl (lv_at hl 1 rfl) ?_
      refine lv_aload_n hx hb dX4_readEaster_26 rfl (lv_at hl 0 rfl) ?_
      refine q_get (v := .int (σ3.1 2 5)) M hw (ob_2 hN) rfl inq_4 5 (by decide) tw_77 rfl dX4_readEaster_27 ?_
      refine q_put (v := (σ3.1 2 5)) M hw (ph_ob (ph_9 hN)) rfl inq_3 tyX3 tyX3_ok nmX3 8 (by decide) tw_127 rfl rfl rfl (Nat.le_of_ble_eq_true rfl) (by simp [up, upd, f0]) dX4_readEaster_30 (fun σ6 H locs es hw => ?_)
      have h := h σ6 es
      refine lv_aload_n hx hb dX4_readEaster_33 rfl (lv_at hl 1 rfl) ?_
      refine lv_iconst (v := 1) hx hb dX4_readEaster_34 (by decide) ?_
      refine q_put (v := 1) M hw (ph_ob (ph_9 hN)) rfl inq_3 tyX3 tyX3_ok nmX3 10 (by decide) tw_132 rfl (by decide) rfl (Nat.le_of_ble_eq_true rfl) (by simp [up, upd, f0]) dX4_readEaster_35 (fun σ7 H locs es hw => ?_)
      have h := h σ7 es
      refine lv_aload_n hx hb dX4_readEaster_38 rfl (lv_at hl 0 rfl) ?_
      refine q_goI hw (q_runV (rest := []) M hw (ctX4_readItemEnd l hB hN σ7 _ h) mbX4_readItemEnd (ob_2 hN) rfl tw_346 rfl hl.1 rfl (Nat.le_of_ble_eq_true rfl) ⟨Nat.le_of_ble_eq_true rfl, Nat.le_of_ble_eq_true rfl⟩ ⟨Nat.le_refl _, Nat.le_refl _⟩ dX4_readEaster_39) (fun r9 σ8 H locs h hw => ?_)
      exact q_zret M hw (nar01 h.1) h.2 dX4_readEaster_42
    · have h := h.1 c5
      refine lv_iconst (v := 0) hx hb dX4_readEaster_23 (by decide) ?_
      exact q_zret M hw (by decide) h dX4_readEaster_24
  · have h := h.2 c1
    refine lv_iconst (v := 0) hx hb dX4_readEaster_7 (by decide) ?_
    exact q_zret M hw (by decide) h dX4_readEaster_8
set_option maxRecDepth 100000 in
theorem ctX4_readEaster (l : Launch) {Y : LY} (hB : YB Y) (hN : yN Y = 108) (σ : St) (Q : Int32 → St → Prop) (h : wX4_readEaster σ Q) : CT l yX4_readEaster (Cond.code yX4_readEaster cX4_readEaster 2 (some .boolean)) { frames := 3, cells := 0, slots := 0, locals := 61 } Y [.ref (yA Y 2), .ref (yA Y 9)] σ (QI Y Q) :=
  q_ent hB (by decide +kernel) (Nat.le_of_ble_eq_true rfl) (fun p e s m below meth c ls M hw hl => tX4_readEaster_E M hN σ _ _ ls hw hl h)
theorem mbX4_readEaster : MB RX4 yX4_readEaster cX4_readEaster 1 2 (some .boolean) := ⟨tw_364, tw_9, tw_50, tw_365, by decide +kernel⟩
end
section
variable {p : Program} {l : Launch} {e : Env} {s : State} {m : MethodId} {args : Array Value} {below : List Frame} {meth : Method} {c : Code} {Y : LY}
theorem dX4_readFarmer_0 : decode cX4_readFarmer 0 = .ok (.aload_n 1, 1) := by decide +kernel
theorem dX4_readFarmer_1 : decode cX4_readFarmer 1 = .ok (.getfield 55, 3) := by decide +kernel
theorem dX4_readFarmer_4 : decode cX4_readFarmer 4 = .ok (.istore_n 2, 1) := by decide +kernel
theorem dX4_readFarmer_5 : decode cX4_readFarmer 5 = .ok (.iload_n 2, 1) := by decide +kernel
theorem dX4_readFarmer_6 : decode cX4_readFarmer 6 = .ok (.iconst 5, 1) := by decide +kernel
theorem dX4_readFarmer_7 : decode cX4_readFarmer 7 = .ok (.if_icmp .lt 5, 3) := by decide +kernel
theorem dX4_readFarmer_10 : decode cX4_readFarmer 10 = .ok (.iconst 0, 1) := by decide +kernel
theorem dX4_readFarmer_11 : decode cX4_readFarmer 11 = .ok (.ireturn, 1) := by decide +kernel
theorem dX4_readFarmer_12 : decode cX4_readFarmer 12 = .ok (.aload_n 0, 1) := by decide +kernel
theorem dX4_readFarmer_13 : decode cX4_readFarmer 13 = .ok (.invokevirtual 27, 3) := by decide +kernel
theorem dX4_readFarmer_16 : decode cX4_readFarmer 16 = .ok (.aload_n 0, 1) := by decide +kernel
theorem dX4_readFarmer_17 : decode cX4_readFarmer 17 = .ok (.iconst 0, 1) := by decide +kernel
theorem dX4_readFarmer_18 : decode cX4_readFarmer 18 = .ok (.bipush 99, 2) := by decide +kernel
theorem dX4_readFarmer_20 : decode cX4_readFarmer 20 = .ok (.invokevirtual 58, 3) := by decide +kernel
theorem dX4_readFarmer_23 : decode cX4_readFarmer 23 = .ok (.ifCond .ne 5, 3) := by decide +kernel
theorem dX4_readFarmer_26 : decode cX4_readFarmer 26 = .ok (.iconst 0, 1) := by decide +kernel
theorem dX4_readFarmer_27 : decode cX4_readFarmer 27 = .ok (.ireturn, 1) := by decide +kernel
theorem dX4_readFarmer_28 : decode cX4_readFarmer 28 = .ok (.aload_n 1, 1) := by decide +kernel
theorem dX4_readFarmer_29 : decode cX4_readFarmer 29 = .ok (.getfield 62, 3) := by decide +kernel
theorem dX4_readFarmer_32 : decode cX4_readFarmer 32 = .ok (.iload_n 2, 1) := by decide +kernel
theorem dX4_readFarmer_33 : decode cX4_readFarmer 33 = .ok (.aload_n 0, 1) := by decide +kernel
theorem dX4_readFarmer_34 : decode cX4_readFarmer 34 = .ok (.getfield 66, 3) := by decide +kernel
theorem dX4_readFarmer_37 : decode cX4_readFarmer 37 = .ok (.iastore, 1) := by decide +kernel
theorem dX4_readFarmer_38 : decode cX4_readFarmer 38 = .ok (.aload_n 0, 1) := by decide +kernel
theorem dX4_readFarmer_39 : decode cX4_readFarmer 39 = .ok (.invokevirtual 27, 3) := by decide +kernel
theorem dX4_readFarmer_42 : decode cX4_readFarmer 42 = .ok (.aload_n 0, 1) := by decide +kernel
theorem dX4_readFarmer_43 : decode cX4_readFarmer 43 = .ok (.iconst 1, 1) := by decide +kernel
theorem dX4_readFarmer_44 : decode cX4_readFarmer 44 = .ok (.iconst 4, 1) := by decide +kernel
theorem dX4_readFarmer_45 : decode cX4_readFarmer 45 = .ok (.invokevirtual 58, 3) := by decide +kernel
theorem dX4_readFarmer_48 : decode cX4_readFarmer 48 = .ok (.ifCond .ne 5, 3) := by decide +kernel
theorem dX4_readFarmer_51 : decode cX4_readFarmer 51 = .ok (.iconst 0, 1) := by decide +kernel
theorem dX4_readFarmer_52 : decode cX4_readFarmer 52 = .ok (.ireturn, 1) := by decide +kernel
theorem dX4_readFarmer_53 : decode cX4_readFarmer 53 = .ok (.aload_n 1, 1) := by decide +kernel
theorem dX4_readFarmer_54 : decode cX4_readFarmer 54 = .ok (.getfield 69, 3) := by decide +kernel
theorem dX4_readFarmer_57 : decode cX4_readFarmer 57 = .ok (.iload_n 2, 1) := by decide +kernel
theorem dX4_readFarmer_58 : decode cX4_readFarmer 58 = .ok (.aload_n 0, 1) := by decide +kernel
theorem dX4_readFarmer_59 : decode cX4_readFarmer 59 = .ok (.getfield 66, 3) := by decide +kernel
theorem dX4_readFarmer_62 : decode cX4_readFarmer 62 = .ok (.iastore, 1) := by decide +kernel
theorem dX4_readFarmer_63 : decode cX4_readFarmer 63 = .ok (.aload_n 1, 1) := by decide +kernel
theorem dX4_readFarmer_64 : decode cX4_readFarmer 64 = .ok (.dup, 1) := by decide +kernel
theorem dX4_readFarmer_65 : decode cX4_readFarmer 65 = .ok (.getfield 55, 3) := by decide +kernel
theorem dX4_readFarmer_68 : decode cX4_readFarmer 68 = .ok (.iconst 1, 1) := by decide +kernel
theorem dX4_readFarmer_69 : decode cX4_readFarmer 69 = .ok (.iadd, 1) := by decide +kernel
theorem dX4_readFarmer_70 : decode cX4_readFarmer 70 = .ok (.putfield 55, 3) := by decide +kernel
theorem dX4_readFarmer_73 : decode cX4_readFarmer 73 = .ok (.aload_n 0, 1) := by decide +kernel
theorem dX4_readFarmer_74 : decode cX4_readFarmer 74 = .ok (.invokevirtual 72, 3) := by decide +kernel
theorem dX4_readFarmer_77 : decode cX4_readFarmer 77 = .ok (.ireturn, 1) := by decide +kernel
def wX4_readFarmer (σ : St) (Q : Int32 → St → Prop) : Prop :=
  (∀ x1 : Int32, x1 = (σ.1 9 5) → ((x1 < 5 → wX4_advance σ (fun σ3 => wX4_readNumber 0 99 σ3 (fun r5 σ4 => ((r5 = 0 → Q 0 σ4) ∧ (¬ r5 = 0 → (vp_in x1 5 ∧ ∀ σ8 : St, σ8 = up σ4 10 x1.toNatClampNeg (σ4.1 2 5) → wX4_advance σ8 (fun σ9 => wX4_readNumber 1 4 σ9 (fun r11 σ10 => ((r11 = 0 → Q 0 σ10) ∧ (¬ r11 = 0 → (vp_in x1 5 ∧ ∀ σ14 : St, σ14 = up σ10 11 x1.toNatClampNeg (σ10.1 2 5) → (∀ σ15 : St, σ15 = up σ14 9 5 ((σ14.1 9 5) + 1) → wX4_readItemEnd σ15 (fun r17 σ16 => ((r17 = 0 ∨ r17 = 1) ∧ Q r17 σ16)))))))))))))) ∧ (¬ x1 < 5 → Q 0 σ)))
set_option maxHeartbeats 4000000 in
set_option maxRecDepth 100000 in
theorem tX4_readFarmer_E {Q : Int32 → St → Prop} (M : MC p s m args meth c cX4_readFarmer 3 (some .boolean) RX4 Y) (hN : yN Y = 108)  (σ : St) (H : Heap) (locs : List Loc) (ls : Array Slot) (hw : WS Y (AD Y) s.heap σ H locs) (hl : lv_has ls 3 [(0, .ref (yA Y 2)), (1, .ref (yA Y 9))]) (h : wX4_readFarmer σ Q) : W p l e { frames := 3, cells := 0, slots := 0, locals := 61 } s m args below meth c H locs 0 0 (MQ below (QI Y Q) args s 0 0 (AD Y)) (F0 m 0 ls []) := by
  obtain ⟨hx, hb, hr, hml, hown, hlk, hT, hK, hB⟩ := id M
  unfold wX4_readFarmer at h
  refine lv_aload_n hx hb dX4_readFarmer_0 rfl (lv_at hl 1 rfl) ?_
  refine q_get (v := .int (σ.1 9 5)) M hw (ph_ob (ph_9 hN)) rfl inq_3 5 (by decide) tw_117 rfl dX4_readFarmer_1 ?_
  refine lv_topi (fun x1 ex1 => ?_)
  have h := h x1 ex1
  refine lv_istore_n (lv' := [(2, .int x1), (0, .ref (yA Y 2)), (1, .ref (yA Y 9))]) hx hb dX4_readFarmer_4 rfl hl (by decide) rfl (fun ls hl => ?_)
  refine lv_iload_n hx hb dX4_readFarmer_5 rfl (lv_at hl 0 rfl) ?_
  refine lv_iconst (v := 5) hx hb dX4_readFarmer_6 (by decide) ?_
  refine lv_icmp_lt (tgt := 12) hx hb dX4_readFarmer_7 (by decide) (fun c2 => ?_) (fun c2 => ?_)
  · have h := h.1 c2
    refine lv_aload_n hx hb dX4_readFarmer_12 rfl (lv_at hl 1 rfl) ?_
    refine q_goV hw (q_runV (rest := []) M hw (ctX4_advance l hB hN σ _ h) mbX4_advance (ob_2 hN) rfl tw_326 rfl hl.1 rfl (Nat.le_of_ble_eq_true rfl) ⟨Nat.le_of_ble_eq_true rfl, Nat.le_of_ble_eq_true rfl⟩ ⟨Nat.le_refl _, Nat.le_refl _⟩ dX4_readFarmer_13) (fun σ3 H locs h hw => ?_)
    refine lv_aload_n hx hb dX4_readFarmer_16 rfl (lv_at hl 1 rfl) ?_
    refine lv_iconst (v := 0) hx hb dX4_readFarmer_17 (by decide) ?_
    refine lv_bipush (v := 99) hx hb dX4_readFarmer_18 (by decide) ?_
    refine q_goI hw (q_runV (rest := []) M hw (ctX4_readNumber l hB hN 0 99 σ3 _ h) mbX4_readNumber (ob_2 hN) rfl tw_342 rfl hl.1 rfl (Nat.le_of_ble_eq_true rfl) ⟨Nat.le_of_ble_eq_true rfl, Nat.le_of_ble_eq_true rfl⟩ ⟨Nat.le_refl _, Nat.le_refl _⟩ dX4_readFarmer_20) (fun r5 σ4 H locs h hw => ?_)
    refine lv_if_ne (tgt := 28) hx hb dX4_readFarmer_23 (by decide) (fun c6 => ?_) (fun c6 => ?_)
    · have h := h.2 c6
      refine lv_aload_n hx hb dX4_readFarmer_28 rfl (lv_at hl 2 rfl) ?_
      refine q_get (v := .ref (yA Y 10)) M hw (ph_ob (ph_9 hN)) rfl inq_3 0 (by decide) tw_100 rfl dX4_readFarmer_29 ?_
      refine lv_iload_n hx hb dX4_readFarmer_32 rfl (lv_at hl 0 rfl) ?_
      refine lv_aload_n hx hb dX4_readFarmer_33 rfl (lv_at hl 1 rfl) ?_
      refine q_get (v := .int (σ4.1 2 5)) M hw (ob_2 hN) rfl inq_4 5 (by decide) tw_77 rfl dX4_readFarmer_34 ?_
      have c7 := h.1
      refine q_ist M hw (ar_10 hN) c7 dX4_readFarmer_37 (fun σ8 H locs es hw => ?_)
      have h := h.2 σ8 es
      refine lv_aload_n hx hb dX4_readFarmer_38 rfl (lv_at hl 1 rfl) ?_
      refine q_goV hw (q_runV (rest := []) M hw (ctX4_advance l hB hN σ8 _ h) mbX4_advance (ob_2 hN) rfl tw_326 rfl hl.1 rfl (Nat.le_of_ble_eq_true rfl) ⟨Nat.le_of_ble_eq_true rfl, Nat.le_of_ble_eq_true rfl⟩ ⟨Nat.le_refl _, Nat.le_refl _⟩ dX4_readFarmer_39) (fun σ9 H locs h hw => ?_)
      refine lv_aload_n hx hb dX4_readFarmer_42 rfl (lv_at hl 1 rfl) ?_
      refine lv_iconst (v := 1) hx hb dX4_readFarmer_43 (by decide) ?_
      refine lv_iconst (v := 4) hx hb dX4_readFarmer_44 (by decide) ?_
      refine q_goI hw (q_runV (rest := []) M hw (ctX4_readNumber l hB hN 1 4 σ9 _ h) mbX4_readNumber (ob_2 hN) rfl tw_342 rfl hl.1 rfl (Nat.le_of_ble_eq_true rfl) ⟨Nat.le_of_ble_eq_true rfl, Nat.le_of_ble_eq_true rfl⟩ ⟨Nat.le_refl _, Nat.le_refl _⟩ dX4_readFarmer_45) (fun r11 σ10 H locs h hw => ?_)
      refine lv_if_ne (tgt := 53) hx hb dX4_readFarmer_48 (by decide) (fun c12 => ?_) (fun c12 => ?_)
      · have h := h.2 c12
        refine lv_aload_n hx hb dX4_readFarmer_53 rfl (lv_at hl 2 rfl) ?_
        refine q_get (v := .ref (yA Y 11)) M hw (ph_ob (ph_9 hN)) rfl inq_3 1 (by decide) tw_102 rfl dX4_readFarmer_54 ?_
        refine lv_iload_n hx hb dX4_readFarmer_57 rfl (lv_at hl 0 rfl) ?_
        refine lv_aload_n hx hb dX4_readFarmer_58 rfl (lv_at hl 1 rfl) ?_
        refine q_get (v := .int (σ10.1 2 5)) M hw (ob_2 hN) rfl inq_4 5 (by decide) tw_77 rfl dX4_readFarmer_59 ?_
        have c13 := h.1
        refine q_ist M hw (ar_11 hN) c13 dX4_readFarmer_62 (fun σ14 H locs es hw => ?_)
        have h := h.2 σ14 es
        refine lv_aload_n hx hb dX4_readFarmer_63 rfl (lv_at hl 2 rfl) ?_
        refine lv_dup hx hb dX4_readFarmer_64 rfl ?_
        refine q_get (v := .int (σ14.1 9 5)) M hw (ph_ob (ph_9 hN)) rfl inq_3 5 (by decide) tw_117 rfl dX4_readFarmer_65 ?_
        refine lv_iconst (v := 1) hx hb dX4_readFarmer_68 (by decide) ?_
        refine lv_iadd hx hb dX4_readFarmer_69 ?_
        refine q_put (v := ((σ14.1 9 5) + 1)) M hw (ph_ob (ph_9 hN)) rfl inq_3 tyX3 tyX3_ok nmX3 5 (by decide) tw_117 rfl rfl rfl (Nat.le_of_ble_eq_true rfl) (by simp [up, upd, f0]) dX4_readFarmer_70 (fun σ15 H locs es hw => ?_)
        have h := h σ15 es
        refine lv_aload_n hx hb dX4_readFarmer_73 rfl (lv_at hl 1 rfl) ?_
        refine q_goI hw (q_runV (rest := []) M hw (ctX4_readItemEnd l hB hN σ15 _ h) mbX4_readItemEnd (ob_2 hN) rfl tw_346 rfl hl.1 rfl (Nat.le_of_ble_eq_true rfl) ⟨Nat.le_of_ble_eq_true rfl, Nat.le_of_ble_eq_true rfl⟩ ⟨Nat.le_refl _, Nat.le_refl _⟩ dX4_readFarmer_74) (fun r17 σ16 H locs h hw => ?_)
        exact q_zret M hw (nar01 h.1) h.2 dX4_readFarmer_77
      · have h := h.1 c12
        refine lv_iconst (v := 0) hx hb dX4_readFarmer_51 (by decide) ?_
        exact q_zret M hw (by decide) h dX4_readFarmer_52
    · have h := h.1 c6
      refine lv_iconst (v := 0) hx hb dX4_readFarmer_26 (by decide) ?_
      exact q_zret M hw (by decide) h dX4_readFarmer_27
  · have h := h.2 c2
    refine lv_iconst (v := 0) hx hb dX4_readFarmer_10 (by decide) ?_
    exact q_zret M hw (by decide) h dX4_readFarmer_11
set_option maxRecDepth 100000 in
theorem ctX4_readFarmer (l : Launch) {Y : LY} (hB : YB Y) (hN : yN Y = 108) (σ : St) (Q : Int32 → St → Prop) (h : wX4_readFarmer σ Q) : CT l yX4_readFarmer (Cond.code yX4_readFarmer cX4_readFarmer 3 (some .boolean)) { frames := 3, cells := 0, slots := 0, locals := 61 } Y [.ref (yA Y 2), .ref (yA Y 9)] σ (QI Y Q) :=
  q_ent hB (by decide +kernel) (Nat.le_of_ble_eq_true rfl) (fun p e s m below meth c ls M hw hl => tX4_readFarmer_E M hN σ _ _ ls hw hl h)
theorem mbX4_readFarmer : MB RX4 yX4_readFarmer cX4_readFarmer 1 3 (some .boolean) := ⟨tw_340, tw_3, tw_50, tw_341, by decide +kernel⟩
end
section
variable {p : Program} {l : Launch} {e : Env} {s : State} {m : MethodId} {args : Array Value} {below : List Frame} {meth : Method} {c : Code} {Y : LY}
theorem dX4_readPhase_0 : decode cX4_readPhase 0 = .ok (.aload_n 1, 1) := by decide +kernel
theorem dX4_readPhase_1 : decode cX4_readPhase 1 = .ok (.getfield 89, 3) := by decide +kernel
theorem dX4_readPhase_4 : decode cX4_readPhase 4 = .ok (.ifCond .eq 5, 3) := by decide +kernel
theorem dX4_readPhase_7 : decode cX4_readPhase 7 = .ok (.iconst 0, 1) := by decide +kernel
theorem dX4_readPhase_8 : decode cX4_readPhase 8 = .ok (.ireturn, 1) := by decide +kernel
theorem dX4_readPhase_9 : decode cX4_readPhase 9 = .ok (.aload_n 0, 1) := by decide +kernel
theorem dX4_readPhase_10 : decode cX4_readPhase 10 = .ok (.invokevirtual 27, 3) := by decide +kernel
theorem dX4_readPhase_13 : decode cX4_readPhase 13 = .ok (.aload_n 0, 1) := by decide +kernel
theorem dX4_readPhase_14 : decode cX4_readPhase 14 = .ok (.iconst 0, 1) := by decide +kernel
theorem dX4_readPhase_15 : decode cX4_readPhase 15 = .ok (.bipush 15, 2) := by decide +kernel
theorem dX4_readPhase_17 : decode cX4_readPhase 17 = .ok (.invokevirtual 58, 3) := by decide +kernel
theorem dX4_readPhase_20 : decode cX4_readPhase 20 = .ok (.ifCond .ne 5, 3) := by decide +kernel
theorem dX4_readPhase_23 : decode cX4_readPhase 23 = .ok (.iconst 0, 1) := by decide +kernel
theorem dX4_readPhase_24 : decode cX4_readPhase 24 = .ok (.ireturn, 1) := by decide +kernel
theorem dX4_readPhase_25 : decode cX4_readPhase 25 = .ok (.aload_n 1, 1) := by decide +kernel
theorem dX4_readPhase_26 : decode cX4_readPhase 26 = .ok (.aload_n 0, 1) := by decide +kernel
theorem dX4_readPhase_27 : decode cX4_readPhase 27 = .ok (.getfield 66, 3) := by decide +kernel
theorem dX4_readPhase_30 : decode cX4_readPhase 30 = .ok (.putfield 93, 3) := by decide +kernel
theorem dX4_readPhase_33 : decode cX4_readPhase 33 = .ok (.aload_n 1, 1) := by decide +kernel
theorem dX4_readPhase_34 : decode cX4_readPhase 34 = .ok (.iconst 1, 1) := by decide +kernel
theorem dX4_readPhase_35 : decode cX4_readPhase 35 = .ok (.putfield 89, 3) := by decide +kernel
theorem dX4_readPhase_38 : decode cX4_readPhase 38 = .ok (.aload_n 0, 1) := by decide +kernel
theorem dX4_readPhase_39 : decode cX4_readPhase 39 = .ok (.invokevirtual 72, 3) := by decide +kernel
theorem dX4_readPhase_42 : decode cX4_readPhase 42 = .ok (.ireturn, 1) := by decide +kernel
def wX4_readPhase (σ : St) (Q : Int32 → St → Prop) : Prop :=
  (((σ.1 9 9) = 0 → wX4_advance σ (fun σ2 => wX4_readNumber 0 15 σ2 (fun r4 σ3 => ((r4 = 0 → Q 0 σ3) ∧ (¬ r4 = 0 → (∀ σ6 : St, σ6 = up σ3 9 7 (σ3.1 2 5) → (∀ σ7 : St, σ7 = up σ6 9 9 1 → wX4_readItemEnd σ7 (fun r9 σ8 => ((r9 = 0 ∨ r9 = 1) ∧ Q r9 σ8))))))))) ∧ (¬ (σ.1 9 9) = 0 → Q 0 σ))
set_option maxHeartbeats 4000000 in
set_option maxRecDepth 100000 in
theorem tX4_readPhase_E {Q : Int32 → St → Prop} (M : MC p s m args meth c cX4_readPhase 2 (some .boolean) RX4 Y) (hN : yN Y = 108)  (σ : St) (H : Heap) (locs : List Loc) (ls : Array Slot) (hw : WS Y (AD Y) s.heap σ H locs) (hl : lv_has ls 2 [(0, .ref (yA Y 2)), (1, .ref (yA Y 9))]) (h : wX4_readPhase σ Q) : W p l e { frames := 3, cells := 0, slots := 0, locals := 61 } s m args below meth c H locs 0 0 (MQ below (QI Y Q) args s 0 0 (AD Y)) (F0 m 0 ls []) := by
  obtain ⟨hx, hb, hr, hml, hown, hlk, hT, hK, hB⟩ := id M
  unfold wX4_readPhase at h
  refine lv_aload_n hx hb dX4_readPhase_0 rfl (lv_at hl 1 rfl) ?_
  refine q_get (v := .int (σ.1 9 9)) M hw (ph_ob (ph_9 hN)) rfl inq_3 9 (by decide) tw_130 rfl dX4_readPhase_1 ?_
  refine lv_if_eq (tgt := 9) hx hb dX4_readPhase_4 (by decide) (fun c1 => ?_) (fun c1 => ?_)
  · have h := h.1 c1
    refine lv_aload_n hx hb dX4_readPhase_9 rfl (lv_at hl 0 rfl) ?_
    refine q_goV hw (q_runV (rest := []) M hw (ctX4_advance l hB hN σ _ h) mbX4_advance (ob_2 hN) rfl tw_326 rfl hl.1 rfl (Nat.le_of_ble_eq_true rfl) ⟨Nat.le_of_ble_eq_true rfl, Nat.le_of_ble_eq_true rfl⟩ ⟨Nat.le_refl _, Nat.le_refl _⟩ dX4_readPhase_10) (fun σ2 H locs h hw => ?_)
    refine lv_aload_n hx hb dX4_readPhase_13 rfl (lv_at hl 0 rfl) ?_
    refine lv_iconst (v := 0) hx hb dX4_readPhase_14 (by decide) ?_
    refine lv_bipush (v := 15) hx hb dX4_readPhase_15 (by decide) ?_
    refine q_goI hw (q_runV (rest := []) M hw (ctX4_readNumber l hB hN 0 15 σ2 _ h) mbX4_readNumber (ob_2 hN) rfl tw_342 rfl hl.1 rfl (Nat.le_of_ble_eq_true rfl) ⟨Nat.le_of_ble_eq_true rfl, Nat.le_of_ble_eq_true rfl⟩ ⟨Nat.le_refl _, Nat.le_refl _⟩ dX4_readPhase_17) (fun r4 σ3 H locs h hw => ?_)
    refine lv_if_ne (tgt := 25) hx hb dX4_readPhase_20 (by decide) (fun c5 => ?_) (fun c5 => ?_)
    · have h := h.2 c5
      refine lv_aload_n hx hb dX4_readPhase_25 rfl (lv_at hl 1 rfl) ?_
      refine lv_aload_n hx hb dX4_readPhase_26 rfl (lv_at hl 0 rfl) ?_
      refine q_get (v := .int (σ3.1 2 5)) M hw (ob_2 hN) rfl inq_4 5 (by decide) tw_77 rfl dX4_readPhase_27 ?_
      refine q_put (v := (σ3.1 2 5)) M hw (ph_ob (ph_9 hN)) rfl inq_3 tyX3 tyX3_ok nmX3 7 (by decide) tw_123 rfl rfl rfl (Nat.le_of_ble_eq_true rfl) (by simp [up, upd, f0]) dX4_readPhase_30 (fun σ6 H locs es hw => ?_)
      have h := h σ6 es
      refine lv_aload_n hx hb dX4_readPhase_33 rfl (lv_at hl 1 rfl) ?_
      refine lv_iconst (v := 1) hx hb dX4_readPhase_34 (by decide) ?_
      refine q_put (v := 1) M hw (ph_ob (ph_9 hN)) rfl inq_3 tyX3 tyX3_ok nmX3 9 (by decide) tw_130 rfl (by decide) rfl (Nat.le_of_ble_eq_true rfl) (by simp [up, upd, f0]) dX4_readPhase_35 (fun σ7 H locs es hw => ?_)
      have h := h σ7 es
      refine lv_aload_n hx hb dX4_readPhase_38 rfl (lv_at hl 0 rfl) ?_
      refine q_goI hw (q_runV (rest := []) M hw (ctX4_readItemEnd l hB hN σ7 _ h) mbX4_readItemEnd (ob_2 hN) rfl tw_346 rfl hl.1 rfl (Nat.le_of_ble_eq_true rfl) ⟨Nat.le_of_ble_eq_true rfl, Nat.le_of_ble_eq_true rfl⟩ ⟨Nat.le_refl _, Nat.le_refl _⟩ dX4_readPhase_39) (fun r9 σ8 H locs h hw => ?_)
      exact q_zret M hw (nar01 h.1) h.2 dX4_readPhase_42
    · have h := h.1 c5
      refine lv_iconst (v := 0) hx hb dX4_readPhase_23 (by decide) ?_
      exact q_zret M hw (by decide) h dX4_readPhase_24
  · have h := h.2 c1
    refine lv_iconst (v := 0) hx hb dX4_readPhase_7 (by decide) ?_
    exact q_zret M hw (by decide) h dX4_readPhase_8
set_option maxRecDepth 100000 in
theorem ctX4_readPhase (l : Launch) {Y : LY} (hB : YB Y) (hN : yN Y = 108) (σ : St) (Q : Int32 → St → Prop) (h : wX4_readPhase σ Q) : CT l yX4_readPhase (Cond.code yX4_readPhase cX4_readPhase 2 (some .boolean)) { frames := 3, cells := 0, slots := 0, locals := 61 } Y [.ref (yA Y 2), .ref (yA Y 9)] σ (QI Y Q) :=
  q_ent hB (by decide +kernel) (Nat.le_of_ble_eq_true rfl) (fun p e s m below meth c ls M hw hl => tX4_readPhase_E M hN σ _ _ ls hw hl h)
theorem mbX4_readPhase : MB RX4 yX4_readPhase cX4_readPhase 1 2 (some .boolean) := ⟨tw_360, tw_8, tw_50, tw_361, by decide +kernel⟩
end
section
variable {p : Program} {l : Launch} {e : Env} {s : State} {m : MethodId} {args : Array Value} {below : List Frame} {meth : Method} {c : Code} {Y : LY}
theorem dX4_readStrip_0 : decode cX4_readStrip 0 = .ok (.aload_n 1, 1) := by decide +kernel
theorem dX4_readStrip_1 : decode cX4_readStrip 1 = .ok (.getfield 76, 3) := by decide +kernel
theorem dX4_readStrip_4 : decode cX4_readStrip 4 = .ok (.istore_n 2, 1) := by decide +kernel
theorem dX4_readStrip_5 : decode cX4_readStrip 5 = .ok (.iload_n 2, 1) := by decide +kernel
theorem dX4_readStrip_6 : decode cX4_readStrip 6 = .ok (.bipush 7, 2) := by decide +kernel
theorem dX4_readStrip_8 : decode cX4_readStrip 8 = .ok (.if_icmp .lt 5, 3) := by decide +kernel
theorem dX4_readStrip_11 : decode cX4_readStrip 11 = .ok (.iconst 0, 1) := by decide +kernel
theorem dX4_readStrip_12 : decode cX4_readStrip 12 = .ok (.ireturn, 1) := by decide +kernel
theorem dX4_readStrip_13 : decode cX4_readStrip 13 = .ok (.aload_n 0, 1) := by decide +kernel
theorem dX4_readStrip_14 : decode cX4_readStrip 14 = .ok (.invokevirtual 27, 3) := by decide +kernel
theorem dX4_readStrip_17 : decode cX4_readStrip 17 = .ok (.aload_n 0, 1) := by decide +kernel
theorem dX4_readStrip_18 : decode cX4_readStrip 18 = .ok (.iconst 0, 1) := by decide +kernel
theorem dX4_readStrip_19 : decode cX4_readStrip 19 = .ok (.aload_n 1, 1) := by decide +kernel
theorem dX4_readStrip_20 : decode cX4_readStrip 20 = .ok (.getfield 55, 3) := by decide +kernel
theorem dX4_readStrip_23 : decode cX4_readStrip 23 = .ok (.iconst 1, 1) := by decide +kernel
theorem dX4_readStrip_24 : decode cX4_readStrip 24 = .ok (.isub, 1) := by decide +kernel
theorem dX4_readStrip_25 : decode cX4_readStrip 25 = .ok (.invokevirtual 58, 3) := by decide +kernel
theorem dX4_readStrip_28 : decode cX4_readStrip 28 = .ok (.ifCond .ne 5, 3) := by decide +kernel
theorem dX4_readStrip_31 : decode cX4_readStrip 31 = .ok (.iconst 0, 1) := by decide +kernel
theorem dX4_readStrip_32 : decode cX4_readStrip 32 = .ok (.ireturn, 1) := by decide +kernel
theorem dX4_readStrip_33 : decode cX4_readStrip 33 = .ok (.aload_n 1, 1) := by decide +kernel
theorem dX4_readStrip_34 : decode cX4_readStrip 34 = .ok (.getfield 79, 3) := by decide +kernel
theorem dX4_readStrip_37 : decode cX4_readStrip 37 = .ok (.iload_n 2, 1) := by decide +kernel
theorem dX4_readStrip_38 : decode cX4_readStrip 38 = .ok (.aload_n 0, 1) := by decide +kernel
theorem dX4_readStrip_39 : decode cX4_readStrip 39 = .ok (.getfield 66, 3) := by decide +kernel
theorem dX4_readStrip_42 : decode cX4_readStrip 42 = .ok (.iastore, 1) := by decide +kernel
theorem dX4_readStrip_43 : decode cX4_readStrip 43 = .ok (.aload_n 0, 1) := by decide +kernel
theorem dX4_readStrip_44 : decode cX4_readStrip 44 = .ok (.invokevirtual 27, 3) := by decide +kernel
theorem dX4_readStrip_47 : decode cX4_readStrip 47 = .ok (.aload_n 0, 1) := by decide +kernel
theorem dX4_readStrip_48 : decode cX4_readStrip 48 = .ok (.iconst 1, 1) := by decide +kernel
theorem dX4_readStrip_49 : decode cX4_readStrip 49 = .ok (.bipush 60, 2) := by decide +kernel
theorem dX4_readStrip_51 : decode cX4_readStrip 51 = .ok (.invokevirtual 58, 3) := by decide +kernel
theorem dX4_readStrip_54 : decode cX4_readStrip 54 = .ok (.ifCond .ne 5, 3) := by decide +kernel
theorem dX4_readStrip_57 : decode cX4_readStrip 57 = .ok (.iconst 0, 1) := by decide +kernel
theorem dX4_readStrip_58 : decode cX4_readStrip 58 = .ok (.ireturn, 1) := by decide +kernel
theorem dX4_readStrip_59 : decode cX4_readStrip 59 = .ok (.aload_n 1, 1) := by decide +kernel
theorem dX4_readStrip_60 : decode cX4_readStrip 60 = .ok (.getfield 82, 3) := by decide +kernel
theorem dX4_readStrip_63 : decode cX4_readStrip 63 = .ok (.iload_n 2, 1) := by decide +kernel
theorem dX4_readStrip_64 : decode cX4_readStrip 64 = .ok (.aload_n 0, 1) := by decide +kernel
theorem dX4_readStrip_65 : decode cX4_readStrip 65 = .ok (.getfield 66, 3) := by decide +kernel
theorem dX4_readStrip_68 : decode cX4_readStrip 68 = .ok (.iastore, 1) := by decide +kernel
theorem dX4_readStrip_69 : decode cX4_readStrip 69 = .ok (.aload_n 1, 1) := by decide +kernel
theorem dX4_readStrip_70 : decode cX4_readStrip 70 = .ok (.dup, 1) := by decide +kernel
theorem dX4_readStrip_71 : decode cX4_readStrip 71 = .ok (.getfield 76, 3) := by decide +kernel
theorem dX4_readStrip_74 : decode cX4_readStrip 74 = .ok (.iconst 1, 1) := by decide +kernel
theorem dX4_readStrip_75 : decode cX4_readStrip 75 = .ok (.iadd, 1) := by decide +kernel
theorem dX4_readStrip_76 : decode cX4_readStrip 76 = .ok (.putfield 76, 3) := by decide +kernel
theorem dX4_readStrip_79 : decode cX4_readStrip 79 = .ok (.aload_n 0, 1) := by decide +kernel
theorem dX4_readStrip_80 : decode cX4_readStrip 80 = .ok (.invokevirtual 72, 3) := by decide +kernel
theorem dX4_readStrip_83 : decode cX4_readStrip 83 = .ok (.ireturn, 1) := by decide +kernel
def wX4_readStrip (σ : St) (Q : Int32 → St → Prop) : Prop :=
  (∀ x1 : Int32, x1 = (σ.1 9 6) → ((x1 < 7 → wX4_advance σ (fun σ3 => wX4_readNumber 0 ((σ3.1 9 5) - 1) σ3 (fun r5 σ4 => ((r5 = 0 → Q 0 σ4) ∧ (¬ r5 = 0 → (vp_in x1 7 ∧ ∀ σ8 : St, σ8 = up σ4 12 x1.toNatClampNeg (σ4.1 2 5) → wX4_advance σ8 (fun σ9 => wX4_readNumber 1 60 σ9 (fun r11 σ10 => ((r11 = 0 → Q 0 σ10) ∧ (¬ r11 = 0 → (vp_in x1 7 ∧ ∀ σ14 : St, σ14 = up σ10 13 x1.toNatClampNeg (σ10.1 2 5) → (∀ σ15 : St, σ15 = up σ14 9 6 ((σ14.1 9 6) + 1) → wX4_readItemEnd σ15 (fun r17 σ16 => ((r17 = 0 ∨ r17 = 1) ∧ Q r17 σ16)))))))))))))) ∧ (¬ x1 < 7 → Q 0 σ)))
set_option maxHeartbeats 4000000 in
set_option maxRecDepth 100000 in
theorem tX4_readStrip_E {Q : Int32 → St → Prop} (M : MC p s m args meth c cX4_readStrip 3 (some .boolean) RX4 Y) (hN : yN Y = 108)  (σ : St) (H : Heap) (locs : List Loc) (ls : Array Slot) (hw : WS Y (AD Y) s.heap σ H locs) (hl : lv_has ls 3 [(0, .ref (yA Y 2)), (1, .ref (yA Y 9))]) (h : wX4_readStrip σ Q) : W p l e { frames := 3, cells := 0, slots := 0, locals := 61 } s m args below meth c H locs 0 0 (MQ below (QI Y Q) args s 0 0 (AD Y)) (F0 m 0 ls []) := by
  obtain ⟨hx, hb, hr, hml, hown, hlk, hT, hK, hB⟩ := id M
  unfold wX4_readStrip at h
  refine lv_aload_n hx hb dX4_readStrip_0 rfl (lv_at hl 1 rfl) ?_
  refine q_get (v := .int (σ.1 9 6)) M hw (ph_ob (ph_9 hN)) rfl inq_3 6 (by decide) tw_120 rfl dX4_readStrip_1 ?_
  refine lv_topi (fun x1 ex1 => ?_)
  have h := h x1 ex1
  refine lv_istore_n (lv' := [(2, .int x1), (0, .ref (yA Y 2)), (1, .ref (yA Y 9))]) hx hb dX4_readStrip_4 rfl hl (by decide) rfl (fun ls hl => ?_)
  refine lv_iload_n hx hb dX4_readStrip_5 rfl (lv_at hl 0 rfl) ?_
  refine lv_bipush (v := 7) hx hb dX4_readStrip_6 (by decide) ?_
  refine lv_icmp_lt (tgt := 13) hx hb dX4_readStrip_8 (by decide) (fun c2 => ?_) (fun c2 => ?_)
  · have h := h.1 c2
    refine lv_aload_n hx hb dX4_readStrip_13 rfl (lv_at hl 1 rfl) ?_
    refine q_goV hw (q_runV (rest := []) M hw (ctX4_advance l hB hN σ _ h) mbX4_advance (ob_2 hN) rfl tw_326 rfl hl.1 rfl (Nat.le_of_ble_eq_true rfl) ⟨Nat.le_of_ble_eq_true rfl, Nat.le_of_ble_eq_true rfl⟩ ⟨Nat.le_refl _, Nat.le_refl _⟩ dX4_readStrip_14) (fun σ3 H locs h hw => ?_)
    refine lv_aload_n hx hb dX4_readStrip_17 rfl (lv_at hl 1 rfl) ?_
    refine lv_iconst (v := 0) hx hb dX4_readStrip_18 (by decide) ?_
    refine lv_aload_n hx hb dX4_readStrip_19 rfl (lv_at hl 2 rfl) ?_
    refine q_get (v := .int (σ3.1 9 5)) M hw (ph_ob (ph_9 hN)) rfl inq_3 5 (by decide) tw_117 rfl dX4_readStrip_20 ?_
    refine lv_iconst (v := 1) hx hb dX4_readStrip_23 (by decide) ?_
    refine lv_isub hx hb dX4_readStrip_24 ?_
    refine q_goI hw (q_runV (rest := []) M hw (ctX4_readNumber l hB hN 0 ((σ3.1 9 5) - 1) σ3 _ h) mbX4_readNumber (ob_2 hN) rfl tw_342 rfl hl.1 rfl (Nat.le_of_ble_eq_true rfl) ⟨Nat.le_of_ble_eq_true rfl, Nat.le_of_ble_eq_true rfl⟩ ⟨Nat.le_refl _, Nat.le_refl _⟩ dX4_readStrip_25) (fun r5 σ4 H locs h hw => ?_)
    refine lv_if_ne (tgt := 33) hx hb dX4_readStrip_28 (by decide) (fun c6 => ?_) (fun c6 => ?_)
    · have h := h.2 c6
      refine lv_aload_n hx hb dX4_readStrip_33 rfl (lv_at hl 2 rfl) ?_
      refine q_get (v := .ref (yA Y 12)) M hw (ph_ob (ph_9 hN)) rfl inq_3 2 (by decide) tw_106 rfl dX4_readStrip_34 ?_
      refine lv_iload_n hx hb dX4_readStrip_37 rfl (lv_at hl 0 rfl) ?_
      refine lv_aload_n hx hb dX4_readStrip_38 rfl (lv_at hl 1 rfl) ?_
      refine q_get (v := .int (σ4.1 2 5)) M hw (ob_2 hN) rfl inq_4 5 (by decide) tw_77 rfl dX4_readStrip_39 ?_
      have c7 := h.1
      refine q_ist M hw (ar_12 hN) c7 dX4_readStrip_42 (fun σ8 H locs es hw => ?_)
      have h := h.2 σ8 es
      refine lv_aload_n hx hb dX4_readStrip_43 rfl (lv_at hl 1 rfl) ?_
      refine q_goV hw (q_runV (rest := []) M hw (ctX4_advance l hB hN σ8 _ h) mbX4_advance (ob_2 hN) rfl tw_326 rfl hl.1 rfl (Nat.le_of_ble_eq_true rfl) ⟨Nat.le_of_ble_eq_true rfl, Nat.le_of_ble_eq_true rfl⟩ ⟨Nat.le_refl _, Nat.le_refl _⟩ dX4_readStrip_44) (fun σ9 H locs h hw => ?_)
      refine lv_aload_n hx hb dX4_readStrip_47 rfl (lv_at hl 1 rfl) ?_
      refine lv_iconst (v := 1) hx hb dX4_readStrip_48 (by decide) ?_
      refine lv_bipush (v := 60) hx hb dX4_readStrip_49 (by decide) ?_
      refine q_goI hw (q_runV (rest := []) M hw (ctX4_readNumber l hB hN 1 60 σ9 _ h) mbX4_readNumber (ob_2 hN) rfl tw_342 rfl hl.1 rfl (Nat.le_of_ble_eq_true rfl) ⟨Nat.le_of_ble_eq_true rfl, Nat.le_of_ble_eq_true rfl⟩ ⟨Nat.le_refl _, Nat.le_refl _⟩ dX4_readStrip_51) (fun r11 σ10 H locs h hw => ?_)
      refine lv_if_ne (tgt := 59) hx hb dX4_readStrip_54 (by decide) (fun c12 => ?_) (fun c12 => ?_)
      · have h := h.2 c12
        refine lv_aload_n hx hb dX4_readStrip_59 rfl (lv_at hl 2 rfl) ?_
        refine q_get (v := .ref (yA Y 13)) M hw (ph_ob (ph_9 hN)) rfl inq_3 3 (by decide) tw_109 rfl dX4_readStrip_60 ?_
        refine lv_iload_n hx hb dX4_readStrip_63 rfl (lv_at hl 0 rfl) ?_
        refine lv_aload_n hx hb dX4_readStrip_64 rfl (lv_at hl 1 rfl) ?_
        refine q_get (v := .int (σ10.1 2 5)) M hw (ob_2 hN) rfl inq_4 5 (by decide) tw_77 rfl dX4_readStrip_65 ?_
        have c13 := h.1
        refine q_ist M hw (ar_13 hN) c13 dX4_readStrip_68 (fun σ14 H locs es hw => ?_)
        have h := h.2 σ14 es
        refine lv_aload_n hx hb dX4_readStrip_69 rfl (lv_at hl 2 rfl) ?_
        refine lv_dup hx hb dX4_readStrip_70 rfl ?_
        refine q_get (v := .int (σ14.1 9 6)) M hw (ph_ob (ph_9 hN)) rfl inq_3 6 (by decide) tw_120 rfl dX4_readStrip_71 ?_
        refine lv_iconst (v := 1) hx hb dX4_readStrip_74 (by decide) ?_
        refine lv_iadd hx hb dX4_readStrip_75 ?_
        refine q_put (v := ((σ14.1 9 6) + 1)) M hw (ph_ob (ph_9 hN)) rfl inq_3 tyX3 tyX3_ok nmX3 6 (by decide) tw_120 rfl rfl rfl (Nat.le_of_ble_eq_true rfl) (by simp [up, upd, f0]) dX4_readStrip_76 (fun σ15 H locs es hw => ?_)
        have h := h σ15 es
        refine lv_aload_n hx hb dX4_readStrip_79 rfl (lv_at hl 1 rfl) ?_
        refine q_goI hw (q_runV (rest := []) M hw (ctX4_readItemEnd l hB hN σ15 _ h) mbX4_readItemEnd (ob_2 hN) rfl tw_346 rfl hl.1 rfl (Nat.le_of_ble_eq_true rfl) ⟨Nat.le_of_ble_eq_true rfl, Nat.le_of_ble_eq_true rfl⟩ ⟨Nat.le_refl _, Nat.le_refl _⟩ dX4_readStrip_80) (fun r17 σ16 H locs h hw => ?_)
        exact q_zret M hw (nar01 h.1) h.2 dX4_readStrip_83
      · have h := h.1 c12
        refine lv_iconst (v := 0) hx hb dX4_readStrip_57 (by decide) ?_
        exact q_zret M hw (by decide) h dX4_readStrip_58
    · have h := h.1 c6
      refine lv_iconst (v := 0) hx hb dX4_readStrip_31 (by decide) ?_
      exact q_zret M hw (by decide) h dX4_readStrip_32
  · have h := h.2 c2
    refine lv_iconst (v := 0) hx hb dX4_readStrip_11 (by decide) ?_
    exact q_zret M hw (by decide) h dX4_readStrip_12
set_option maxRecDepth 100000 in
theorem ctX4_readStrip (l : Launch) {Y : LY} (hB : YB Y) (hN : yN Y = 108) (σ : St) (Q : Int32 → St → Prop) (h : wX4_readStrip σ Q) : CT l yX4_readStrip (Cond.code yX4_readStrip cX4_readStrip 3 (some .boolean)) { frames := 3, cells := 0, slots := 0, locals := 61 } Y [.ref (yA Y 2), .ref (yA Y 9)] σ (QI Y Q) :=
  q_ent hB (by decide +kernel) (Nat.le_of_ble_eq_true rfl) (fun p e s m below meth c ls M hw hl => tX4_readStrip_E M hN σ _ _ ls hw hl h)
theorem mbX4_readStrip : MB RX4 yX4_readStrip cX4_readStrip 1 3 (some .boolean) := ⟨tw_352, tw_6, tw_50, tw_353, by decide +kernel⟩
end
section
variable {p : Program} {l : Launch} {e : Env} {s : State} {m : MethodId} {args : Array Value} {below : List Frame} {meth : Method} {c : Code} {Y : LY}
theorem dX4_readItem_0 : decode cX4_readItem 0 = .ok (.aload_n 0, 1) := by decide +kernel
theorem dX4_readItem_1 : decode cX4_readItem 1 = .ok (.getfield 30, 3) := by decide +kernel
theorem dX4_readItem_4 : decode cX4_readItem 4 = .ok (.lookupswitch 82 #[(99, 64), (101, 76), (102, 52), (109, 70), (115, 58)], 52) := by decide +kernel
theorem dX4_readItem_56 : decode cX4_readItem 56 = .ok (.aload_n 0, 1) := by decide +kernel
theorem dX4_readItem_57 : decode cX4_readItem 57 = .ok (.aload_n 1, 1) := by decide +kernel
theorem dX4_readItem_58 : decode cX4_readItem 58 = .ok (.invokevirtual 40, 3) := by decide +kernel
theorem dX4_readItem_61 : decode cX4_readItem 61 = .ok (.ireturn, 1) := by decide +kernel
theorem dX4_readItem_62 : decode cX4_readItem 62 = .ok (.aload_n 0, 1) := by decide +kernel
theorem dX4_readItem_63 : decode cX4_readItem 63 = .ok (.aload_n 1, 1) := by decide +kernel
theorem dX4_readItem_64 : decode cX4_readItem 64 = .ok (.invokevirtual 43, 3) := by decide +kernel
theorem dX4_readItem_67 : decode cX4_readItem 67 = .ok (.ireturn, 1) := by decide +kernel
theorem dX4_readItem_68 : decode cX4_readItem 68 = .ok (.aload_n 0, 1) := by decide +kernel
theorem dX4_readItem_69 : decode cX4_readItem 69 = .ok (.aload_n 1, 1) := by decide +kernel
theorem dX4_readItem_70 : decode cX4_readItem 70 = .ok (.invokevirtual 46, 3) := by decide +kernel
theorem dX4_readItem_73 : decode cX4_readItem 73 = .ok (.ireturn, 1) := by decide +kernel
theorem dX4_readItem_74 : decode cX4_readItem 74 = .ok (.aload_n 0, 1) := by decide +kernel
theorem dX4_readItem_75 : decode cX4_readItem 75 = .ok (.aload_n 1, 1) := by decide +kernel
theorem dX4_readItem_76 : decode cX4_readItem 76 = .ok (.invokevirtual 49, 3) := by decide +kernel
theorem dX4_readItem_79 : decode cX4_readItem 79 = .ok (.ireturn, 1) := by decide +kernel
theorem dX4_readItem_80 : decode cX4_readItem 80 = .ok (.aload_n 0, 1) := by decide +kernel
theorem dX4_readItem_81 : decode cX4_readItem 81 = .ok (.aload_n 1, 1) := by decide +kernel
theorem dX4_readItem_82 : decode cX4_readItem 82 = .ok (.invokevirtual 52, 3) := by decide +kernel
theorem dX4_readItem_85 : decode cX4_readItem 85 = .ok (.ireturn, 1) := by decide +kernel
theorem dX4_readItem_86 : decode cX4_readItem 86 = .ok (.iconst 0, 1) := by decide +kernel
theorem dX4_readItem_87 : decode cX4_readItem 87 = .ok (.ireturn, 1) := by decide +kernel
def wX4_readItem (σ : St) (Q : Int32 → St → Prop) : Prop :=
  (∀ x1 : Int32, x1 = (σ.1 2 3) → ((x1 = 99 → wX4_readCloud σ (fun r4 σ3 => ((r4 = 0 ∨ r4 = 1) ∧ Q r4 σ3))) ∧ (¬ x1 = 99 → ((x1 = 101 → wX4_readEaster σ (fun r7 σ6 => ((r7 = 0 ∨ r7 = 1) ∧ Q r7 σ6))) ∧ (¬ x1 = 101 → ((x1 = 102 → wX4_readFarmer σ (fun r10 σ9 => ((r10 = 0 ∨ r10 = 1) ∧ Q r10 σ9))) ∧ (¬ x1 = 102 → ((x1 = 109 → wX4_readPhase σ (fun r13 σ12 => ((r13 = 0 ∨ r13 = 1) ∧ Q r13 σ12))) ∧ (¬ x1 = 109 → ((x1 = 115 → wX4_readStrip σ (fun r16 σ15 => ((r16 = 0 ∨ r16 = 1) ∧ Q r16 σ15))) ∧ (¬ x1 = 115 → Q 0 σ)))))))))))
set_option maxHeartbeats 4000000 in
set_option maxRecDepth 100000 in
theorem tX4_readItem_E {Q : Int32 → St → Prop} (M : MC p s m args meth c cX4_readItem 2 (some .boolean) RX4 Y) (hN : yN Y = 108)  (σ : St) (H : Heap) (locs : List Loc) (ls : Array Slot) (hw : WS Y (AD Y) s.heap σ H locs) (hl : lv_has ls 2 [(0, .ref (yA Y 2)), (1, .ref (yA Y 9))]) (h : wX4_readItem σ Q) : W p l e { frames := 4, cells := 0, slots := 0, locals := 83 } s m args below meth c H locs 0 0 (MQ below (QI Y Q) args s 0 0 (AD Y)) (F0 m 0 ls []) := by
  obtain ⟨hx, hb, hr, hml, hown, hlk, hT, hK, hB⟩ := id M
  unfold wX4_readItem at h
  refine lv_aload_n hx hb dX4_readItem_0 rfl (lv_at hl 0 rfl) ?_
  refine q_get (v := .int (σ.1 2 3)) M hw (ob_2 hN) rfl inq_4 3 (by decide) tw_75 rfl dX4_readItem_1 ?_
  refine lv_topi (fun x1 ex1 => ?_)
  have h := h x1 ex1
  by_cases c2 : x1 = 99
  · have h := h.1 c2
    refine lv_lookup (tgt := 68) hx hb dX4_readItem_4 (by decide) (by rw [c2]; first | done | rfl) (by decide) ?_
    refine lv_aload_n hx hb dX4_readItem_68 rfl (lv_at hl 0 rfl) ?_
    refine lv_aload_n hx hb dX4_readItem_69 rfl (lv_at hl 1 rfl) ?_
    refine q_goI hw (q_runV (rest := []) M hw (ctX4_readCloud l hB hN σ _ h) mbX4_readCloud (ob_2 hN) rfl tw_354 rfl hl.1 rfl (Nat.le_of_ble_eq_true rfl) ⟨Nat.le_of_ble_eq_true rfl, Nat.le_of_ble_eq_true rfl⟩ ⟨Nat.le_refl _, Nat.le_refl _⟩ dX4_readItem_70) (fun r4 σ3 H locs h hw => ?_)
    exact q_zret M hw (nar01 h.1) h.2 dX4_readItem_73
  · have h := h.2 c2
    by_cases c5 : x1 = 101
    · have h := h.1 c5
      refine lv_lookup (tgt := 80) hx hb dX4_readItem_4 (by decide) (by rw [c5]; first | done | rfl) (by decide) ?_
      refine lv_aload_n hx hb dX4_readItem_80 rfl (lv_at hl 0 rfl) ?_
      refine lv_aload_n hx hb dX4_readItem_81 rfl (lv_at hl 1 rfl) ?_
      refine q_goI hw (q_runV (rest := []) M hw (ctX4_readEaster l hB hN σ _ h) mbX4_readEaster (ob_2 hN) rfl tw_362 rfl hl.1 rfl (Nat.le_of_ble_eq_true rfl) ⟨Nat.le_of_ble_eq_true rfl, Nat.le_of_ble_eq_true rfl⟩ ⟨Nat.le_refl _, Nat.le_refl _⟩ dX4_readItem_82) (fun r7 σ6 H locs h hw => ?_)
      exact q_zret M hw (nar01 h.1) h.2 dX4_readItem_85
    · have h := h.2 c5
      by_cases c8 : x1 = 102
      · have h := h.1 c8
        refine lv_lookup (tgt := 56) hx hb dX4_readItem_4 (by decide) (by rw [c8]; first | done | rfl) (by decide) ?_
        refine lv_aload_n hx hb dX4_readItem_56 rfl (lv_at hl 0 rfl) ?_
        refine lv_aload_n hx hb dX4_readItem_57 rfl (lv_at hl 1 rfl) ?_
        refine q_goI hw (q_runV (rest := []) M hw (ctX4_readFarmer l hB hN σ _ h) mbX4_readFarmer (ob_2 hN) rfl tw_338 rfl hl.1 rfl (Nat.le_of_ble_eq_true rfl) ⟨Nat.le_of_ble_eq_true rfl, Nat.le_of_ble_eq_true rfl⟩ ⟨Nat.le_refl _, Nat.le_refl _⟩ dX4_readItem_58) (fun r10 σ9 H locs h hw => ?_)
        exact q_zret M hw (nar01 h.1) h.2 dX4_readItem_61
      · have h := h.2 c8
        by_cases c11 : x1 = 109
        · have h := h.1 c11
          refine lv_lookup (tgt := 74) hx hb dX4_readItem_4 (by decide) (by rw [c11]; first | done | rfl) (by decide) ?_
          refine lv_aload_n hx hb dX4_readItem_74 rfl (lv_at hl 0 rfl) ?_
          refine lv_aload_n hx hb dX4_readItem_75 rfl (lv_at hl 1 rfl) ?_
          refine q_goI hw (q_runV (rest := []) M hw (ctX4_readPhase l hB hN σ _ h) mbX4_readPhase (ob_2 hN) rfl tw_358 rfl hl.1 rfl (Nat.le_of_ble_eq_true rfl) ⟨Nat.le_of_ble_eq_true rfl, Nat.le_of_ble_eq_true rfl⟩ ⟨Nat.le_refl _, Nat.le_refl _⟩ dX4_readItem_76) (fun r13 σ12 H locs h hw => ?_)
          exact q_zret M hw (nar01 h.1) h.2 dX4_readItem_79
        · have h := h.2 c11
          by_cases c14 : x1 = 115
          · have h := h.1 c14
            refine lv_lookup (tgt := 62) hx hb dX4_readItem_4 (by decide) (by rw [c14]; first | done | rfl) (by decide) ?_
            refine lv_aload_n hx hb dX4_readItem_62 rfl (lv_at hl 0 rfl) ?_
            refine lv_aload_n hx hb dX4_readItem_63 rfl (lv_at hl 1 rfl) ?_
            refine q_goI hw (q_runV (rest := []) M hw (ctX4_readStrip l hB hN σ _ h) mbX4_readStrip (ob_2 hN) rfl tw_350 rfl hl.1 rfl (Nat.le_of_ble_eq_true rfl) ⟨Nat.le_of_ble_eq_true rfl, Nat.le_of_ble_eq_true rfl⟩ ⟨Nat.le_refl _, Nat.le_refl _⟩ dX4_readItem_64) (fun r16 σ15 H locs h hw => ?_)
            exact q_zret M hw (nar01 h.1) h.2 dX4_readItem_67
          · have h := h.2 c14
            refine lv_lookup (tgt := 86) hx hb dX4_readItem_4 (by decide) (off := 82) (by show Op.lookupswitch.offset [(99, 64), (101, 76), (102, 52), (109, 70), (115, 58)] 82 x1.toInt = 82; rw [lv_osw (k := 99) c2 (by decide), lv_osw (k := 101) c5 (by decide), lv_osw (k := 102) c8 (by decide), lv_osw (k := 109) c11 (by decide), lv_osw (k := 115) c14 (by decide)]; first | done | rfl) (by decide) ?_
            refine lv_iconst (v := 0) hx hb dX4_readItem_86 (by decide) ?_
            exact q_zret M hw (by decide) h dX4_readItem_87
set_option maxRecDepth 100000 in
theorem ctX4_readItem (l : Launch) {Y : LY} (hB : YB Y) (hN : yN Y = 108) (σ : St) (Q : Int32 → St → Prop) (h : wX4_readItem σ Q) : CT l yX4_readItem (Cond.code yX4_readItem cX4_readItem 2 (some .boolean)) { frames := 4, cells := 0, slots := 0, locals := 83 } Y [.ref (yA Y 2), .ref (yA Y 9)] σ (QI Y Q) :=
  q_ent hB (by decide +kernel) (Nat.le_of_ble_eq_true rfl) (fun p e s m below meth c ls M hw hl => tX4_readItem_E M hN σ _ _ ls hw hl h)
theorem mbX4_readItem : MB RX4 yX4_readItem cX4_readItem 1 2 (some .boolean) := ⟨tw_336, tw_2, tw_50, tw_337, by decide +kernel⟩
end
section
variable {p : Program} {l : Launch} {e : Env} {s : State} {m : MethodId} {args : Array Value} {below : List Frame} {meth : Method} {c : Code} {Y : LY}
theorem dX4_read_0 : decode cX4_read 0 = .ok (.aload_n 0, 1) := by decide +kernel
theorem dX4_read_1 : decode cX4_read 1 = .ok (.iload_n 1, 1) := by decide +kernel
theorem dX4_read_2 : decode cX4_read 2 = .ok (.putfield 15, 3) := by decide +kernel
theorem dX4_read_5 : decode cX4_read 5 = .ok (.aload_n 0, 1) := by decide +kernel
theorem dX4_read_6 : decode cX4_read 6 = .ok (.iconst 0, 1) := by decide +kernel
theorem dX4_read_7 : decode cX4_read 7 = .ok (.putfield 19, 3) := by decide +kernel
theorem dX4_read_10 : decode cX4_read 10 = .ok (.aload_n 2, 1) := by decide +kernel
theorem dX4_read_11 : decode cX4_read 11 = .ok (.invokevirtual 22, 3) := by decide +kernel
theorem dX4_read_14 : decode cX4_read 14 = .ok (.aload_n 0, 1) := by decide +kernel
theorem dX4_read_15 : decode cX4_read 15 = .ok (.invokevirtual 27, 3) := by decide +kernel
theorem dX4_read_18 : decode cX4_read 18 = .ok (.iconst 0, 1) := by decide +kernel
theorem dX4_read_19 : decode cX4_read 19 = .ok (.istore_n 3, 1) := by decide +kernel
theorem dX4_read_20 : decode cX4_read 20 = .ok (.iload_n 3, 1) := by decide +kernel
theorem dX4_read_21 : decode cX4_read 21 = .ok (.aload_n 0, 1) := by decide +kernel
theorem dX4_read_22 : decode cX4_read 22 = .ok (.getfield 15, 3) := by decide +kernel
theorem dX4_read_25 : decode cX4_read 25 = .ok (.if_icmp .gt 33, 3) := by decide +kernel
theorem dX4_read_28 : decode cX4_read 28 = .ok (.aload_n 0, 1) := by decide +kernel
theorem dX4_read_29 : decode cX4_read 29 = .ok (.getfield 30, 3) := by decide +kernel
theorem dX4_read_32 : decode cX4_read 32 = .ok (.iconst (-1), 1) := by decide +kernel
theorem dX4_read_33 : decode cX4_read 33 = .ok (.if_icmp .eq 25, 3) := by decide +kernel
theorem dX4_read_36 : decode cX4_read 36 = .ok (.aload_n 0, 1) := by decide +kernel
theorem dX4_read_37 : decode cX4_read 37 = .ok (.aload_n 2, 1) := by decide +kernel
theorem dX4_read_38 : decode cX4_read 38 = .ok (.invokevirtual 33, 3) := by decide +kernel
theorem dX4_read_41 : decode cX4_read 41 = .ok (.ifCond .ne 11, 3) := by decide +kernel
theorem dX4_read_44 : decode cX4_read 44 = .ok (.bipush (-10), 2) := by decide +kernel
theorem dX4_read_46 : decode cX4_read 46 = .ok (.aload_n 0, 1) := by decide +kernel
theorem dX4_read_47 : decode cX4_read 47 = .ok (.getfield 37, 3) := by decide +kernel
theorem dX4_read_50 : decode cX4_read 50 = .ok (.isub, 1) := by decide +kernel
theorem dX4_read_51 : decode cX4_read 51 = .ok (.ireturn, 1) := by decide +kernel
theorem dX4_read_52 : decode cX4_read 52 = .ok (.iinc 3 1, 3) := by decide +kernel
theorem dX4_read_55 : decode cX4_read 55 = .ok (.goto (-35), 3) := by decide +kernel
theorem dX4_read_58 : decode cX4_read 58 = .ok (.iload_n 3, 1) := by decide +kernel
theorem dX4_read_59 : decode cX4_read 59 = .ok (.ireturn, 1) := by decide +kernel
def bX4_read_20 (R_20 : Int32 × St → Prop) (y3 : Int32) (σ : St) (Q : Int32 → St → Prop) : Prop :=
  (((σ.1 2 1) < y3 → Q y3 σ) ∧ (¬ (σ.1 2 1) < y3 → (((σ.1 2 3) = (-1) → Q y3 σ) ∧ (¬ (σ.1 2 3) = (-1) → wX4_readItem σ (fun r4 σ3 => ((r4 = 0 → Q ((-10) - (σ3.1 2 4)) σ3) ∧ (¬ r4 = 0 → (∀ x6 : Int32, x6 = y3 + 1 → R_20 (x6, σ3)))))))))
set_option maxHeartbeats 4000000 in
set_option maxRecDepth 100000 in
theorem tX4_read_20 {R_20 : Int32 × St → Prop} {Q : Int32 → St → Prop} (M : MC p s m args meth c cX4_read 4 (some .int) RX4 Y) (hN : yN Y = 108) (hR_20 : ∀ (y3 : Int32) (σ : St) (H : Heap) (locs : List Loc) (ls : Array Slot), WS Y (AD Y) s.heap σ H locs → lv_has ls 4 [(0, .ref (yA Y 2)), (2, .ref (yA Y 9)), (3, .int y3)] → R_20 (y3, σ) → W p l e { frames := 5, cells := 0, slots := 0, locals := 104 } s m args below meth c H locs 0 0 (MQ below (QI Y Q) args s 0 0 (AD Y)) (F0 m 20 ls [])) (y3 : Int32) (σ : St) (H : Heap) (locs : List Loc) (ls : Array Slot) (hw : WS Y (AD Y) s.heap σ H locs) (hl : lv_has ls 4 [(0, .ref (yA Y 2)), (2, .ref (yA Y 9)), (3, .int y3)]) (h : bX4_read_20 R_20 y3 σ Q) : W p l e { frames := 5, cells := 0, slots := 0, locals := 104 } s m args below meth c H locs 0 0 (MQ below (QI Y Q) args s 0 0 (AD Y)) (F0 m 20 ls []) := by
  obtain ⟨hx, hb, hr, hml, hown, hlk, hT, hK, hB⟩ := id M
  unfold bX4_read_20 at h
  refine lv_iload_n hx hb dX4_read_20 rfl (lv_at hl 2 rfl) ?_
  refine lv_aload_n hx hb dX4_read_21 rfl (lv_at hl 0 rfl) ?_
  refine q_get (v := .int (σ.1 2 1)) M hw (ob_2 hN) rfl inq_4 1 (by decide) tw_73 rfl dX4_read_22 ?_
  refine lv_icmp_gt (tgt := 58) hx hb dX4_read_25 (by decide) (fun c1 => ?_) (fun c1 => ?_)
  · have h := h.1 c1
    refine lv_iload_n hx hb dX4_read_58 rfl (lv_at hl 2 rfl) ?_
    exact q_iret M hw h dX4_read_59
  · have h := h.2 c1
    refine lv_aload_n hx hb dX4_read_28 rfl (lv_at hl 0 rfl) ?_
    refine q_get (v := .int (σ.1 2 3)) M hw (ob_2 hN) rfl inq_4 3 (by decide) tw_75 rfl dX4_read_29 ?_
    refine lv_iconst (v := (-1)) hx hb dX4_read_32 (by decide) ?_
    refine lv_icmp_eq (tgt := 58) hx hb dX4_read_33 (by decide) (fun c2 => ?_) (fun c2 => ?_)
    · have h := h.1 c2
      refine lv_iload_n hx hb dX4_read_58 rfl (lv_at hl 2 rfl) ?_
      exact q_iret M hw h dX4_read_59
    · have h := h.2 c2
      refine lv_aload_n hx hb dX4_read_36 rfl (lv_at hl 0 rfl) ?_
      refine lv_aload_n hx hb dX4_read_37 rfl (lv_at hl 1 rfl) ?_
      refine q_goI hw (q_runV (rest := []) M hw (ctX4_readItem l hB hN σ _ h) mbX4_readItem (ob_2 hN) rfl tw_334 rfl hl.1 rfl (Nat.le_of_ble_eq_true rfl) ⟨Nat.le_of_ble_eq_true rfl, Nat.le_of_ble_eq_true rfl⟩ ⟨Nat.le_refl _, Nat.le_refl _⟩ dX4_read_38) (fun r4 σ3 H locs h hw => ?_)
      refine lv_if_ne (tgt := 52) hx hb dX4_read_41 (by decide) (fun c5 => ?_) (fun c5 => ?_)
      · have h := h.2 c5
        obtain ⟨x6, ex6⟩ : ∃ y : Int32, y = y3 + 1 := ⟨_, rfl⟩
        have h := h x6 ex6
        refine lv_iinc (v := x6) (lv' := [(3, .int x6), (0, .ref (yA Y 2)), (2, .ref (yA Y 9))]) hx hb dX4_read_52 hl (k := 2) rfl (by rw [ex6]; rfl) (by decide) rfl (fun ls hl => ?_)
        refine lv_goto (tgt := 20) hx hb dX4_read_55 (by decide) ?_
        exact hR_20 x6 σ3 _ _ _ hw (lv_sub hl [1, 2, 0] rfl) h
      · have h := h.1 c5
        refine lv_bipush (v := (-10)) hx hb dX4_read_44 (by decide) ?_
        refine lv_aload_n hx hb dX4_read_46 rfl (lv_at hl 0 rfl) ?_
        refine q_get (v := .int (σ3.1 2 4)) M hw (ob_2 hN) rfl inq_4 4 (by decide) tw_76 rfl dX4_read_47 ?_
        refine lv_isub hx hb dX4_read_50 ?_
        exact q_iret M hw h dX4_read_51
def lX4_read_20 (Q : Int32 → St → Prop) : (Int32 × St → Prop) → Int32 × St → Prop := fun R a => bX4_read_20 R a.1 a.2 Q
theorem tlX4_read_20 {Q : Int32 → St → Prop} (M : MC p s m args meth c cX4_read 4 (some .int) RX4 Y) (hN : yN Y = 108) (n : Nat) : ∀ (y3 : Int32) (σ : St) (H : Heap) (locs : List Loc) (ls : Array Slot) (hw : WS Y (AD Y) s.heap σ H locs) (hl : lv_has ls 4 [(0, .ref (yA Y 2)), (2, .ref (yA Y 9)), (3, .int y3)]) (h : Lp (lX4_read_20 Q) n (y3, σ)), W p l e { frames := 5, cells := 0, slots := 0, locals := 104 } s m args below meth c H locs 0 0 (MQ below (QI Y Q) args s 0 0 (AD Y)) (F0 m 20 ls []) := by
  induction n with
  | zero => intro y3 σ H locs ls hw hl h; exact h.elim
  | succ n ih =>
    intro y3 σ H locs ls hw hl h
    exact tX4_read_20 M hN ih y3 σ H locs ls hw hl h
def wX4_read (a0 : Int32) (σ : St) (Q : Int32 → St → Prop) : Prop :=
  (∀ σ1 : St, σ1 = up σ 2 1 a0 → (∀ σ2 : St, σ2 = up σ1 2 2 0 → wX3_empty 9 σ2 (fun σ3 => wX4_advance σ3 (fun σ4 => ∃ n : Nat, Lp (lX4_read_20 Q) n (0, σ4)))))
set_option maxHeartbeats 4000000 in
set_option maxRecDepth 100000 in
theorem tX4_read_E {Q : Int32 → St → Prop} (M : MC p s m args meth c cX4_read 4 (some .int) RX4 Y) (hN : yN Y = 108) (a0 : Int32) (σ : St) (H : Heap) (locs : List Loc) (ls : Array Slot) (hw : WS Y (AD Y) s.heap σ H locs) (hl : lv_has ls 4 [(0, .ref (yA Y 2)), (1, .int a0), (2, .ref (yA Y 9))]) (h : wX4_read a0 σ Q) : W p l e { frames := 5, cells := 0, slots := 0, locals := 104 } s m args below meth c H locs 0 0 (MQ below (QI Y Q) args s 0 0 (AD Y)) (F0 m 0 ls []) := by
  obtain ⟨hx, hb, hr, hml, hown, hlk, hT, hK, hB⟩ := id M
  unfold wX4_read at h
  refine lv_aload_n hx hb dX4_read_0 rfl (lv_at hl 0 rfl) ?_
  refine lv_iload_n hx hb dX4_read_1 rfl (lv_at hl 1 rfl) ?_
  refine q_put (v := a0) M hw (ob_2 hN) rfl inq_4 tyX4 tyX4_ok nmX4 1 (by decide) tw_73 rfl rfl rfl (Nat.le_of_ble_eq_true rfl) (by simp [up, upd, f0]) dX4_read_2 (fun σ1 H locs es hw => ?_)
  have h := h σ1 es
  refine lv_aload_n hx hb dX4_read_5 rfl (lv_at hl 0 rfl) ?_
  refine lv_iconst (v := 0) hx hb dX4_read_6 (by decide) ?_
  refine q_put (v := 0) M hw (ob_2 hN) rfl inq_4 tyX4 tyX4_ok nmX4 2 (by decide) tw_74 rfl rfl rfl (Nat.le_of_ble_eq_true rfl) (by simp [up, upd, f0]) dX4_read_7 (fun σ2 H locs es hw => ?_)
  have h := h σ2 es
  refine lv_aload_n hx hb dX4_read_10 rfl (lv_at hl 2 rfl) ?_
  refine q_goV hw (q_runV (rest := []) M hw (ctX3_empty l hB (ph_9 hN) σ2 _ h) mbX3_empty (ph_ob (ph_9 hN)) rfl tw_322 rfl hl.1 rfl (Nat.le_of_ble_eq_true rfl) ⟨Nat.le_of_ble_eq_true rfl, Nat.le_of_ble_eq_true rfl⟩ ⟨Nat.le_refl _, Nat.le_refl _⟩ dX4_read_11) (fun σ3 H locs h hw => ?_)
  refine lv_aload_n hx hb dX4_read_14 rfl (lv_at hl 0 rfl) ?_
  refine q_goV hw (q_runV (rest := []) M hw (ctX4_advance l hB hN σ3 _ h) mbX4_advance (ob_2 hN) rfl tw_326 rfl hl.1 rfl (Nat.le_of_ble_eq_true rfl) ⟨Nat.le_of_ble_eq_true rfl, Nat.le_of_ble_eq_true rfl⟩ ⟨Nat.le_refl _, Nat.le_refl _⟩ dX4_read_15) (fun σ4 H locs h hw => ?_)
  refine lv_iconst (v := 0) hx hb dX4_read_18 (by decide) ?_
  refine lv_istore_n (lv' := [(3, .int 0), (0, .ref (yA Y 2)), (1, .int a0), (2, .ref (yA Y 9))]) hx hb dX4_read_19 rfl hl (by decide) rfl (fun ls hl => ?_)
  obtain ⟨n, h⟩ := h
  exact tlX4_read_20 M hN n 0 σ4 _ _ _ hw (lv_sub hl [1, 3, 0] rfl) h
set_option maxRecDepth 100000 in
theorem ctX4_read (l : Launch) {Y : LY} (hB : YB Y) (hN : yN Y = 108) (a0 : Int32) (σ : St) (Q : Int32 → St → Prop) (h : wX4_read a0 σ Q) : CT l yX4_read (Cond.code yX4_read cX4_read 4 (some .int)) { frames := 5, cells := 0, slots := 0, locals := 104 } Y [.ref (yA Y 2), .int a0, .ref (yA Y 9)] σ (QI Y Q) :=
  q_ent hB (by decide +kernel) (Nat.le_of_ble_eq_true rfl) (fun p e s m below meth c ls M hw hl => tX4_read_E M hN a0 σ _ _ ls hw hl h)
theorem mbX4_read : MB RX4 yX4_read cX4_read 2 4 (some .int) := ⟨tw_319, tw_320, tw_50, tw_321, by decide +kernel⟩
end
section
variable {p : Program} {l : Launch} {e : Env} {s : State} {m : MethodId} {args : Array Value} {below : List Frame} {meth : Method} {c : Code} {Y : LY}
theorem dX5_begin_0 : decode cX5_begin 0 = .ok (.aload_n 0, 1) := by decide +kernel
theorem dX5_begin_1 : decode cX5_begin 1 = .ok (.iconst 0, 1) := by decide +kernel
theorem dX5_begin_2 : decode cX5_begin 2 = .ok (.putfield 24, 3) := by decide +kernel
theorem dX5_begin_5 : decode cX5_begin 5 = .ok (.aload_n 0, 1) := by decide +kernel
theorem dX5_begin_6 : decode cX5_begin 6 = .ok (.iconst 1, 1) := by decide +kernel
theorem dX5_begin_7 : decode cX5_begin 7 = .ok (.aload_n 1, 1) := by decide +kernel
theorem dX5_begin_8 : decode cX5_begin 8 = .ok (.getfield 28, 3) := by decide +kernel
theorem dX5_begin_11 : decode cX5_begin 11 = .ok (.ishl, 1) := by decide +kernel
theorem dX5_begin_12 : decode cX5_begin 12 = .ok (.iconst 1, 1) := by decide +kernel
theorem dX5_begin_13 : decode cX5_begin 13 = .ok (.isub, 1) := by decide +kernel
theorem dX5_begin_14 : decode cX5_begin 14 = .ok (.putfield 33, 3) := by decide +kernel
theorem dX5_begin_17 : decode cX5_begin 17 = .ok (.aload_n 0, 1) := by decide +kernel
theorem dX5_begin_18 : decode cX5_begin 18 = .ok (.iconst 0, 1) := by decide +kernel
theorem dX5_begin_19 : decode cX5_begin 19 = .ok (.putfield 36, 3) := by decide +kernel
theorem dX5_begin_22 : decode cX5_begin 22 = .ok (.iconst 0, 1) := by decide +kernel
theorem dX5_begin_23 : decode cX5_begin 23 = .ok (.istore_n 2, 1) := by decide +kernel
theorem dX5_begin_24 : decode cX5_begin 24 = .ok (.iload_n 2, 1) := by decide +kernel
theorem dX5_begin_25 : decode cX5_begin 25 = .ok (.iconst 5, 1) := by decide +kernel
theorem dX5_begin_26 : decode cX5_begin 26 = .ok (.if_icmp .ge 29, 3) := by decide +kernel
theorem dX5_begin_29 : decode cX5_begin 29 = .ok (.aload_n 0, 1) := by decide +kernel
theorem dX5_begin_30 : decode cX5_begin 30 = .ok (.getfield 9, 3) := by decide +kernel
theorem dX5_begin_33 : decode cX5_begin 33 = .ok (.iload_n 2, 1) := by decide +kernel
theorem dX5_begin_34 : decode cX5_begin 34 = .ok (.aload_n 1, 1) := by decide +kernel
theorem dX5_begin_35 : decode cX5_begin 35 = .ok (.getfield 39, 3) := by decide +kernel
theorem dX5_begin_38 : decode cX5_begin 38 = .ok (.iload_n 2, 1) := by decide +kernel
theorem dX5_begin_39 : decode cX5_begin 39 = .ok (.iaload, 1) := by decide +kernel
theorem dX5_begin_40 : decode cX5_begin 40 = .ok (.iastore, 1) := by decide +kernel
theorem dX5_begin_41 : decode cX5_begin 41 = .ok (.aload_n 0, 1) := by decide +kernel
theorem dX5_begin_42 : decode cX5_begin 42 = .ok (.getfield 15, 3) := by decide +kernel
theorem dX5_begin_45 : decode cX5_begin 45 = .ok (.iload_n 2, 1) := by decide +kernel
theorem dX5_begin_46 : decode cX5_begin 46 = .ok (.bipush (-9), 2) := by decide +kernel
theorem dX5_begin_48 : decode cX5_begin 48 = .ok (.iastore, 1) := by decide +kernel
theorem dX5_begin_49 : decode cX5_begin 49 = .ok (.iinc 2 1, 3) := by decide +kernel
theorem dX5_begin_52 : decode cX5_begin 52 = .ok (.goto (-28), 3) := by decide +kernel
theorem dX5_begin_55 : decode cX5_begin 55 = .ok (.iconst 0, 1) := by decide +kernel
theorem dX5_begin_56 : decode cX5_begin 56 = .ok (.istore_n 2, 1) := by decide +kernel
theorem dX5_begin_57 : decode cX5_begin 57 = .ok (.iload_n 2, 1) := by decide +kernel
theorem dX5_begin_58 : decode cX5_begin 58 = .ok (.bipush 7, 2) := by decide +kernel
theorem dX5_begin_60 : decode cX5_begin 60 = .ok (.if_icmp .ge 33, 3) := by decide +kernel
theorem dX5_begin_63 : decode cX5_begin 63 = .ok (.aload_n 0, 1) := by decide +kernel
theorem dX5_begin_64 : decode cX5_begin 64 = .ok (.getfield 18, 3) := by decide +kernel
theorem dX5_begin_67 : decode cX5_begin 67 = .ok (.iload_n 2, 1) := by decide +kernel
theorem dX5_begin_68 : decode cX5_begin 68 = .ok (.aload_n 1, 1) := by decide +kernel
theorem dX5_begin_69 : decode cX5_begin 69 = .ok (.getfield 40, 3) := by decide +kernel
theorem dX5_begin_72 : decode cX5_begin 72 = .ok (.iload_n 2, 1) := by decide +kernel
theorem dX5_begin_73 : decode cX5_begin 73 = .ok (.iaload, 1) := by decide +kernel
theorem dX5_begin_74 : decode cX5_begin 74 = .ok (.iastore, 1) := by decide +kernel
theorem dX5_begin_75 : decode cX5_begin 75 = .ok (.aload_n 0, 1) := by decide +kernel
theorem dX5_begin_76 : decode cX5_begin 76 = .ok (.getfield 21, 3) := by decide +kernel
theorem dX5_begin_79 : decode cX5_begin 79 = .ok (.iload_n 2, 1) := by decide +kernel
theorem dX5_begin_80 : decode cX5_begin 80 = .ok (.aload_n 1, 1) := by decide +kernel
theorem dX5_begin_81 : decode cX5_begin 81 = .ok (.getfield 41, 3) := by decide +kernel
theorem dX5_begin_84 : decode cX5_begin 84 = .ok (.iload_n 2, 1) := by decide +kernel
theorem dX5_begin_85 : decode cX5_begin 85 = .ok (.iaload, 1) := by decide +kernel
theorem dX5_begin_86 : decode cX5_begin 86 = .ok (.iastore, 1) := by decide +kernel
theorem dX5_begin_87 : decode cX5_begin 87 = .ok (.iinc 2 1, 3) := by decide +kernel
theorem dX5_begin_90 : decode cX5_begin 90 = .ok (.goto (-33), 3) := by decide +kernel
theorem dX5_begin_93 : decode cX5_begin 93 = .ok (.return_, 1) := by decide +kernel
def bX5_begin_57 (R_57 : Int32 × St → Prop) (kq : Nat) (pq : Nat) (y2 : Int32) (σ : St) (Q : St → Prop) : Prop :=
  ((7 ≤ y2 → Q σ) ∧ (¬ 7 ≤ y2 → (vp_in y2 7 ∧ (vp_in y2 7 ∧ ∀ σ4 : St, σ4 = up σ (kq + 3) y2.toNatClampNeg (σ.1 (pq + 3) y2.toNatClampNeg) → (vp_in y2 7 ∧ (vp_in y2 7 ∧ ∀ σ7 : St, σ7 = up σ4 (kq + 4) y2.toNatClampNeg (σ4.1 (pq + 4) y2.toNatClampNeg) → (∀ x8 : Int32, x8 = y2 + 1 → R_57 (x8, σ7))))))))
set_option maxHeartbeats 4000000 in
set_option maxRecDepth 100000 in
theorem tX5_begin_57 {R_57 : Int32 × St → Prop} {kq : Nat} {pq : Nat} {Q : St → Prop} (M : MC p s m args meth c cX5_begin 3 none RX5 Y) (hh_kq : SH Y kq) (hh_pq : PH Y pq) (hR_57 : ∀ (y2 : Int32) (σ : St) (H : Heap) (locs : List Loc) (ls : Array Slot), WS Y (AD Y) s.heap σ H locs → lv_has ls 3 [(0, .ref (yA Y kq)), (1, .ref (yA Y pq)), (2, .int y2)] → R_57 (y2, σ) → W p l e { frames := 0, cells := 0, slots := 0, locals := 0 } s m args below meth c H locs 0 0 (MQ below (QV Y Q) args s 0 0 (AD Y)) (F0 m 57 ls [])) (y2 : Int32) (σ : St) (H : Heap) (locs : List Loc) (ls : Array Slot) (hw : WS Y (AD Y) s.heap σ H locs) (hl : lv_has ls 3 [(0, .ref (yA Y kq)), (1, .ref (yA Y pq)), (2, .int y2)]) (h : bX5_begin_57 R_57 kq pq y2 σ Q) : W p l e { frames := 0, cells := 0, slots := 0, locals := 0 } s m args below meth c H locs 0 0 (MQ below (QV Y Q) args s 0 0 (AD Y)) (F0 m 57 ls []) := by
  obtain ⟨hx, hb, hr, hml, hown, hlk, hT, hK, hB⟩ := id M
  unfold bX5_begin_57 at h
  refine lv_iload_n hx hb dX5_begin_57 rfl (lv_at hl 2 rfl) ?_
  refine lv_bipush (v := 7) hx hb dX5_begin_58 (by decide) ?_
  refine lv_icmp_ge (tgt := 93) hx hb dX5_begin_60 (by decide) (fun c1 => ?_) (fun c1 => ?_)
  · have h := h.1 c1
    exact q_vret M hw h dX5_begin_93
  · have h := h.2 c1
    refine lv_aload_n hx hb dX5_begin_63 rfl (lv_at hl 0 rfl) ?_
    refine q_get (v := .ref (yA Y (kq + 3))) M hw (sh_ob hh_kq) rfl inq_5 2 (by decide) tw_194 rfl dX5_begin_64 ?_
    refine lv_iload_n hx hb dX5_begin_67 rfl (lv_at hl 2 rfl) ?_
    refine lv_aload_n hx hb dX5_begin_68 rfl (lv_at hl 1 rfl) ?_
    refine q_get (v := .ref (yA Y (pq + 3))) M hw (ph_ob hh_pq) rfl inq_3 2 (by decide) tw_105 rfl dX5_begin_69 ?_
    refine lv_iload_n hx hb dX5_begin_72 rfl (lv_at hl 2 rfl) ?_
    have c2 := h.1
    have h := h.2
    refine q_ild M hw (ph_a3 hh_pq) c2 dX5_begin_73 ?_
    have c3 := h.1
    refine q_ist M hw (sh_a3 hh_kq) c3 dX5_begin_74 (fun σ4 H locs es hw => ?_)
    have h := h.2 σ4 es
    refine lv_aload_n hx hb dX5_begin_75 rfl (lv_at hl 0 rfl) ?_
    refine q_get (v := .ref (yA Y (kq + 4))) M hw (sh_ob hh_kq) rfl inq_5 3 (by decide) tw_196 rfl dX5_begin_76 ?_
    refine lv_iload_n hx hb dX5_begin_79 rfl (lv_at hl 2 rfl) ?_
    refine lv_aload_n hx hb dX5_begin_80 rfl (lv_at hl 1 rfl) ?_
    refine q_get (v := .ref (yA Y (pq + 4))) M hw (ph_ob hh_pq) rfl inq_3 3 (by decide) tw_108 rfl dX5_begin_81 ?_
    refine lv_iload_n hx hb dX5_begin_84 rfl (lv_at hl 2 rfl) ?_
    have c5 := h.1
    have h := h.2
    refine q_ild M hw (ph_a4 hh_pq) c5 dX5_begin_85 ?_
    have c6 := h.1
    refine q_ist M hw (sh_a4 hh_kq) c6 dX5_begin_86 (fun σ7 H locs es hw => ?_)
    have h := h.2 σ7 es
    obtain ⟨x8, ex8⟩ : ∃ y : Int32, y = y2 + 1 := ⟨_, rfl⟩
    have h := h x8 ex8
    refine lv_iinc (v := x8) (lv' := [(2, .int x8), (0, .ref (yA Y kq)), (1, .ref (yA Y pq))]) hx hb dX5_begin_87 hl (k := 2) rfl (by rw [ex8]; rfl) (by decide) rfl (fun ls hl => ?_)
    refine lv_goto (tgt := 57) hx hb dX5_begin_90 (by decide) ?_
    exact hR_57 x8 σ7 _ _ _ hw (lv_sub hl [1, 2, 0] rfl) h
def lX5_begin_57 (kq : Nat) (pq : Nat) (Q : St → Prop) : (Int32 × St → Prop) → Int32 × St → Prop := fun R a => bX5_begin_57 R kq pq a.1 a.2 Q
theorem tlX5_begin_57 {kq : Nat} {pq : Nat} {Q : St → Prop} (M : MC p s m args meth c cX5_begin 3 none RX5 Y) (hh_kq : SH Y kq) (hh_pq : PH Y pq) (n : Nat) : ∀ (y2 : Int32) (σ : St) (H : Heap) (locs : List Loc) (ls : Array Slot) (hw : WS Y (AD Y) s.heap σ H locs) (hl : lv_has ls 3 [(0, .ref (yA Y kq)), (1, .ref (yA Y pq)), (2, .int y2)]) (h : Lp (lX5_begin_57 kq pq Q) n (y2, σ)), W p l e { frames := 0, cells := 0, slots := 0, locals := 0 } s m args below meth c H locs 0 0 (MQ below (QV Y Q) args s 0 0 (AD Y)) (F0 m 57 ls []) := by
  induction n with
  | zero => intro y2 σ H locs ls hw hl h; exact h.elim
  | succ n ih =>
    intro y2 σ H locs ls hw hl h
    exact tX5_begin_57 M hh_kq hh_pq ih y2 σ H locs ls hw hl h
def bX5_begin_24 (R_24 : Int32 × St → Prop) (kq : Nat) (pq : Nat) (y2 : Int32) (σ : St) (Q : St → Prop) : Prop :=
  ((5 ≤ y2 → ∃ n : Nat, Lp (lX5_begin_57 kq pq Q) n (0, σ)) ∧ (¬ 5 ≤ y2 → (vp_in y2 5 ∧ (vp_in y2 5 ∧ ∀ σ4 : St, σ4 = up σ (kq + 1) y2.toNatClampNeg (σ.1 (pq + 1) y2.toNatClampNeg) → (vp_in y2 5 ∧ ∀ σ6 : St, σ6 = up σ4 (kq + 2) y2.toNatClampNeg (-9) → (∀ x7 : Int32, x7 = y2 + 1 → R_24 (x7, σ6)))))))
set_option maxHeartbeats 4000000 in
set_option maxRecDepth 100000 in
theorem tX5_begin_24 {R_24 : Int32 × St → Prop} {kq : Nat} {pq : Nat} {Q : St → Prop} (M : MC p s m args meth c cX5_begin 3 none RX5 Y) (hh_kq : SH Y kq) (hh_pq : PH Y pq) (hR_24 : ∀ (y2 : Int32) (σ : St) (H : Heap) (locs : List Loc) (ls : Array Slot), WS Y (AD Y) s.heap σ H locs → lv_has ls 3 [(0, .ref (yA Y kq)), (1, .ref (yA Y pq)), (2, .int y2)] → R_24 (y2, σ) → W p l e { frames := 0, cells := 0, slots := 0, locals := 0 } s m args below meth c H locs 0 0 (MQ below (QV Y Q) args s 0 0 (AD Y)) (F0 m 24 ls [])) (y2 : Int32) (σ : St) (H : Heap) (locs : List Loc) (ls : Array Slot) (hw : WS Y (AD Y) s.heap σ H locs) (hl : lv_has ls 3 [(0, .ref (yA Y kq)), (1, .ref (yA Y pq)), (2, .int y2)]) (h : bX5_begin_24 R_24 kq pq y2 σ Q) : W p l e { frames := 0, cells := 0, slots := 0, locals := 0 } s m args below meth c H locs 0 0 (MQ below (QV Y Q) args s 0 0 (AD Y)) (F0 m 24 ls []) := by
  obtain ⟨hx, hb, hr, hml, hown, hlk, hT, hK, hB⟩ := id M
  unfold bX5_begin_24 at h
  refine lv_iload_n hx hb dX5_begin_24 rfl (lv_at hl 2 rfl) ?_
  refine lv_iconst (v := 5) hx hb dX5_begin_25 (by decide) ?_
  refine lv_icmp_ge (tgt := 55) hx hb dX5_begin_26 (by decide) (fun c1 => ?_) (fun c1 => ?_)
  · have h := h.1 c1
    refine lv_iconst (v := 0) hx hb dX5_begin_55 (by decide) ?_
    refine lv_istore_n (lv' := [(2, .int 0), (0, .ref (yA Y kq)), (1, .ref (yA Y pq))]) hx hb dX5_begin_56 rfl hl (by decide) rfl (fun ls hl => ?_)
    obtain ⟨n, h⟩ := h
    exact tlX5_begin_57 M hh_kq hh_pq n 0 σ _ _ _ hw (lv_sub hl [1, 2, 0] rfl) h
  · have h := h.2 c1
    refine lv_aload_n hx hb dX5_begin_29 rfl (lv_at hl 0 rfl) ?_
    refine q_get (v := .ref (yA Y (kq + 1))) M hw (sh_ob hh_kq) rfl inq_5 0 (by decide) tw_190 rfl dX5_begin_30 ?_
    refine lv_iload_n hx hb dX5_begin_33 rfl (lv_at hl 2 rfl) ?_
    refine lv_aload_n hx hb dX5_begin_34 rfl (lv_at hl 1 rfl) ?_
    refine q_get (v := .ref (yA Y (pq + 1))) M hw (ph_ob hh_pq) rfl inq_3 0 (by decide) tw_99 rfl dX5_begin_35 ?_
    refine lv_iload_n hx hb dX5_begin_38 rfl (lv_at hl 2 rfl) ?_
    have c2 := h.1
    have h := h.2
    refine q_ild M hw (ph_a1 hh_pq) c2 dX5_begin_39 ?_
    have c3 := h.1
    refine q_ist M hw (sh_a1 hh_kq) c3 dX5_begin_40 (fun σ4 H locs es hw => ?_)
    have h := h.2 σ4 es
    refine lv_aload_n hx hb dX5_begin_41 rfl (lv_at hl 0 rfl) ?_
    refine q_get (v := .ref (yA Y (kq + 2))) M hw (sh_ob hh_kq) rfl inq_5 1 (by decide) tw_192 rfl dX5_begin_42 ?_
    refine lv_iload_n hx hb dX5_begin_45 rfl (lv_at hl 2 rfl) ?_
    refine lv_bipush (v := (-9)) hx hb dX5_begin_46 (by decide) ?_
    have c5 := h.1
    refine q_ist M hw (sh_a2 hh_kq) c5 dX5_begin_48 (fun σ6 H locs es hw => ?_)
    have h := h.2 σ6 es
    obtain ⟨x7, ex7⟩ : ∃ y : Int32, y = y2 + 1 := ⟨_, rfl⟩
    have h := h x7 ex7
    refine lv_iinc (v := x7) (lv' := [(2, .int x7), (0, .ref (yA Y kq)), (1, .ref (yA Y pq))]) hx hb dX5_begin_49 hl (k := 2) rfl (by rw [ex7]; rfl) (by decide) rfl (fun ls hl => ?_)
    refine lv_goto (tgt := 24) hx hb dX5_begin_52 (by decide) ?_
    exact hR_24 x7 σ6 _ _ _ hw (lv_sub hl [1, 2, 0] rfl) h
def lX5_begin_24 (kq : Nat) (pq : Nat) (Q : St → Prop) : (Int32 × St → Prop) → Int32 × St → Prop := fun R a => bX5_begin_24 R kq pq a.1 a.2 Q
theorem tlX5_begin_24 {kq : Nat} {pq : Nat} {Q : St → Prop} (M : MC p s m args meth c cX5_begin 3 none RX5 Y) (hh_kq : SH Y kq) (hh_pq : PH Y pq) (n : Nat) : ∀ (y2 : Int32) (σ : St) (H : Heap) (locs : List Loc) (ls : Array Slot) (hw : WS Y (AD Y) s.heap σ H locs) (hl : lv_has ls 3 [(0, .ref (yA Y kq)), (1, .ref (yA Y pq)), (2, .int y2)]) (h : Lp (lX5_begin_24 kq pq Q) n (y2, σ)), W p l e { frames := 0, cells := 0, slots := 0, locals := 0 } s m args below meth c H locs 0 0 (MQ below (QV Y Q) args s 0 0 (AD Y)) (F0 m 24 ls []) := by
  induction n with
  | zero => intro y2 σ H locs ls hw hl h; exact h.elim
  | succ n ih =>
    intro y2 σ H locs ls hw hl h
    exact tX5_begin_24 M hh_kq hh_pq ih y2 σ H locs ls hw hl h
def wX5_begin (kq : Nat) (pq : Nat) (σ : St) (Q : St → Prop) : Prop :=
  (∀ σ1 : St, σ1 = up σ kq 4 0 → (∀ σ2 : St, σ2 = up σ1 kq 5 ((1 <<< ((σ1.1 pq 5) &&& 31)) - 1) → (∀ σ3 : St, σ3 = up σ2 kq 6 0 → ∃ n : Nat, Lp (lX5_begin_24 kq pq Q) n (0, σ3))))
set_option maxHeartbeats 4000000 in
set_option maxRecDepth 100000 in
theorem tX5_begin_E {kq : Nat} {pq : Nat} {Q : St → Prop} (M : MC p s m args meth c cX5_begin 3 none RX5 Y) (hh_kq : SH Y kq) (hh_pq : PH Y pq)  (σ : St) (H : Heap) (locs : List Loc) (ls : Array Slot) (hw : WS Y (AD Y) s.heap σ H locs) (hl : lv_has ls 3 [(0, .ref (yA Y kq)), (1, .ref (yA Y pq))]) (h : wX5_begin kq pq σ Q) : W p l e { frames := 0, cells := 0, slots := 0, locals := 0 } s m args below meth c H locs 0 0 (MQ below (QV Y Q) args s 0 0 (AD Y)) (F0 m 0 ls []) := by
  obtain ⟨hx, hb, hr, hml, hown, hlk, hT, hK, hB⟩ := id M
  unfold wX5_begin at h
  refine lv_aload_n hx hb dX5_begin_0 rfl (lv_at hl 0 rfl) ?_
  refine lv_iconst (v := 0) hx hb dX5_begin_1 (by decide) ?_
  refine q_put (v := 0) M hw (sh_ob hh_kq) rfl inq_5 tyX5 tyX5_ok nmX5 4 (by decide) tw_198 rfl rfl rfl (Nat.le_of_ble_eq_true rfl) (by simp [up, upd, f0]) dX5_begin_2 (fun σ1 H locs es hw => ?_)
  have h := h σ1 es
  refine lv_aload_n hx hb dX5_begin_5 rfl (lv_at hl 0 rfl) ?_
  refine lv_iconst (v := 1) hx hb dX5_begin_6 (by decide) ?_
  refine lv_aload_n hx hb dX5_begin_7 rfl (lv_at hl 1 rfl) ?_
  refine q_get (v := .int (σ1.1 pq 5)) M hw (ph_ob hh_pq) rfl inq_3 5 (by decide) tw_116 rfl dX5_begin_8 ?_
  refine lv_ishl hx hb dX5_begin_11 ?_
  refine lv_iconst (v := 1) hx hb dX5_begin_12 (by decide) ?_
  refine lv_isub hx hb dX5_begin_13 ?_
  refine q_put (v := ((1 <<< ((σ1.1 pq 5) &&& 31)) - 1)) M hw (sh_ob hh_kq) rfl inq_5 tyX5 tyX5_ok nmX5 5 (by decide) tw_200 rfl rfl rfl (Nat.le_of_ble_eq_true rfl) (by simp [up, upd, f0]) dX5_begin_14 (fun σ2 H locs es hw => ?_)
  have h := h σ2 es
  refine lv_aload_n hx hb dX5_begin_17 rfl (lv_at hl 0 rfl) ?_
  refine lv_iconst (v := 0) hx hb dX5_begin_18 (by decide) ?_
  refine q_put (v := 0) M hw (sh_ob hh_kq) rfl inq_5 tyX5 tyX5_ok nmX5 6 (by decide) tw_202 rfl rfl rfl (Nat.le_of_ble_eq_true rfl) (by simp [up, upd, f0]) dX5_begin_19 (fun σ3 H locs es hw => ?_)
  have h := h σ3 es
  refine lv_iconst (v := 0) hx hb dX5_begin_22 (by decide) ?_
  refine lv_istore_n (lv' := [(2, .int 0), (0, .ref (yA Y kq)), (1, .ref (yA Y pq))]) hx hb dX5_begin_23 rfl hl (by decide) rfl (fun ls hl => ?_)
  obtain ⟨n, h⟩ := h
  exact tlX5_begin_24 M hh_kq hh_pq n 0 σ3 _ _ _ hw (lv_sub hl [1, 2, 0] rfl) h
set_option maxRecDepth 100000 in
theorem ctX5_begin (l : Launch) {Y : LY} {kq : Nat} {pq : Nat} (hB : YB Y) (hh_kq : SH Y kq) (hh_pq : PH Y pq) (σ : St) (Q : St → Prop) (h : wX5_begin kq pq σ Q) : CT l yX5_begin (Cond.code yX5_begin cX5_begin 3 none) { frames := 0, cells := 0, slots := 0, locals := 0 } Y [.ref (yA Y kq), .ref (yA Y pq)] σ (QV Y Q) :=
  q_ent hB (by decide +kernel) (Nat.le_of_ble_eq_true rfl) (fun p e s m below meth c ls M hw hl => tX5_begin_E M hh_kq hh_pq σ _ _ ls hw hl h)
theorem mbX5_begin : MB RX5 yX5_begin cX5_begin 1 3 none := ⟨tw_220, tw_221, tw_53, tw_222, by decide +kernel⟩
end
section
variable {p : Program} {l : Launch} {e : Env} {s : State} {m : MethodId} {args : Array Value} {below : List Frame} {meth : Method} {c : Code} {Y : LY}
theorem dX5_alive_0 : decode cX5_alive 0 = .ok (.aload_n 0, 1) := by decide +kernel
theorem dX5_alive_1 : decode cX5_alive 1 = .ok (.getfield 33, 3) := by decide +kernel
theorem dX5_alive_4 : decode cX5_alive 4 = .ok (.iload_n 1, 1) := by decide +kernel
theorem dX5_alive_5 : decode cX5_alive 5 = .ok (.ishr, 1) := by decide +kernel
theorem dX5_alive_6 : decode cX5_alive 6 = .ok (.iconst 1, 1) := by decide +kernel
theorem dX5_alive_7 : decode cX5_alive 7 = .ok (.iand, 1) := by decide +kernel
theorem dX5_alive_8 : decode cX5_alive 8 = .ok (.iconst 1, 1) := by decide +kernel
theorem dX5_alive_9 : decode cX5_alive 9 = .ok (.if_icmp .ne 7, 3) := by decide +kernel
theorem dX5_alive_12 : decode cX5_alive 12 = .ok (.iconst 1, 1) := by decide +kernel
theorem dX5_alive_13 : decode cX5_alive 13 = .ok (.goto 4, 3) := by decide +kernel
theorem dX5_alive_16 : decode cX5_alive 16 = .ok (.iconst 0, 1) := by decide +kernel
theorem dX5_alive_17 : decode cX5_alive 17 = .ok (.ireturn, 1) := by decide +kernel
def wX5_alive (kq : Nat) (a0 : Int32) (σ : St) (Q : Int32 → St → Prop) : Prop :=
  (((((σ.1 kq 5) >>> (a0 &&& 31)) &&& 1) = 1 → Q 1 σ) ∧ (¬ (((σ.1 kq 5) >>> (a0 &&& 31)) &&& 1) = 1 → Q 0 σ))
set_option maxHeartbeats 4000000 in
set_option maxRecDepth 100000 in
theorem tX5_alive_E {kq : Nat} {Q : Int32 → St → Prop} (M : MC p s m args meth c cX5_alive 2 (some .boolean) RX5 Y) (hh_kq : SH Y kq) (a0 : Int32) (σ : St) (H : Heap) (locs : List Loc) (ls : Array Slot) (hw : WS Y (AD Y) s.heap σ H locs) (hl : lv_has ls 2 [(0, .ref (yA Y kq)), (1, .int a0)]) (h : wX5_alive kq a0 σ Q) : W p l e { frames := 0, cells := 0, slots := 0, locals := 0 } s m args below meth c H locs 0 0 (MQ below (QI Y Q) args s 0 0 (AD Y)) (F0 m 0 ls []) := by
  obtain ⟨hx, hb, hr, hml, hown, hlk, hT, hK, hB⟩ := id M
  unfold wX5_alive at h
  refine lv_aload_n hx hb dX5_alive_0 rfl (lv_at hl 0 rfl) ?_
  refine q_get (v := .int (σ.1 kq 5)) M hw (sh_ob hh_kq) rfl inq_5 5 (by decide) tw_200 rfl dX5_alive_1 ?_
  refine lv_iload_n hx hb dX5_alive_4 rfl (lv_at hl 1 rfl) ?_
  refine lv_ishr hx hb dX5_alive_5 ?_
  refine lv_iconst (v := 1) hx hb dX5_alive_6 (by decide) ?_
  refine lv_iand hx hb dX5_alive_7 ?_
  refine lv_iconst (v := 1) hx hb dX5_alive_8 (by decide) ?_
  refine lv_icmp_ne (tgt := 16) hx hb dX5_alive_9 (by decide) (fun c1 => ?_) (fun c1 => ?_)
  · have h := h.2 c1
    refine lv_iconst (v := 0) hx hb dX5_alive_16 (by decide) ?_
    exact q_zret M hw (by decide) h dX5_alive_17
  · have h := h.1 c1
    refine lv_iconst (v := 1) hx hb dX5_alive_12 (by decide) ?_
    refine lv_goto (tgt := 17) hx hb dX5_alive_13 (by decide) ?_
    exact q_zret M hw (by decide) h dX5_alive_17
set_option maxRecDepth 100000 in
theorem ctX5_alive (l : Launch) {Y : LY} {kq : Nat} (hB : YB Y) (hh_kq : SH Y kq) (a0 : Int32) (σ : St) (Q : Int32 → St → Prop) (h : wX5_alive kq a0 σ Q) : CT l yX5_alive (Cond.code yX5_alive cX5_alive 2 (some .boolean)) { frames := 0, cells := 0, slots := 0, locals := 0 } Y [.ref (yA Y kq), .int a0] σ (QI Y Q) :=
  q_ent hB (by decide +kernel) (Nat.le_of_ble_eq_true rfl) (fun p e s m below meth c ls M hw hl => tX5_alive_E M hh_kq a0 σ _ _ ls hw hl h)
theorem mbX5_alive : MB RX5 yX5_alive cX5_alive 1 2 (some .boolean) := ⟨tw_380, tw_381, tw_53, tw_382, by decide +kernel⟩
end
section
variable {p : Program} {l : Launch} {e : Env} {s : State} {m : MethodId} {args : Array Value} {below : List Frame} {meth : Method} {c : Code} {Y : LY}
theorem dX5_free_0 : decode cX5_free 0 = .ok (.aload_n 0, 1) := by decide +kernel
theorem dX5_free_1 : decode cX5_free 1 = .ok (.iload_n 1, 1) := by decide +kernel
theorem dX5_free_2 : decode cX5_free 2 = .ok (.invokevirtual 44, 3) := by decide +kernel
theorem dX5_free_5 : decode cX5_free 5 = .ok (.ifCond .eq 18, 3) := by decide +kernel
theorem dX5_free_8 : decode cX5_free 8 = .ok (.aload_n 0, 1) := by decide +kernel
theorem dX5_free_9 : decode cX5_free 9 = .ok (.getfield 15, 3) := by decide +kernel
theorem dX5_free_12 : decode cX5_free 12 = .ok (.iload_n 1, 1) := by decide +kernel
theorem dX5_free_13 : decode cX5_free 13 = .ok (.iaload, 1) := by decide +kernel
theorem dX5_free_14 : decode cX5_free 14 = .ok (.bipush (-9), 2) := by decide +kernel
theorem dX5_free_16 : decode cX5_free 16 = .ok (.if_icmp .ne 7, 3) := by decide +kernel
theorem dX5_free_19 : decode cX5_free 19 = .ok (.iconst 1, 1) := by decide +kernel
theorem dX5_free_20 : decode cX5_free 20 = .ok (.goto 4, 3) := by decide +kernel
theorem dX5_free_23 : decode cX5_free 23 = .ok (.iconst 0, 1) := by decide +kernel
theorem dX5_free_24 : decode cX5_free 24 = .ok (.ireturn, 1) := by decide +kernel
def wX5_free (kq : Nat) (a0 : Int32) (σ : St) (Q : Int32 → St → Prop) : Prop :=
  wX5_alive kq a0 σ (fun r2 σ1 => ((r2 = 0 → Q 0 σ1) ∧ (¬ r2 = 0 → (vp_in a0 5 ∧ (((σ1.1 (kq + 2) a0.toNatClampNeg) = (-9) → Q 1 σ1) ∧ (¬ (σ1.1 (kq + 2) a0.toNatClampNeg) = (-9) → Q 0 σ1))))))
set_option maxHeartbeats 4000000 in
set_option maxRecDepth 100000 in
theorem tX5_free_E {kq : Nat} {Q : Int32 → St → Prop} (M : MC p s m args meth c cX5_free 2 (some .boolean) RX5 Y) (hh_kq : SH Y kq) (a0 : Int32) (σ : St) (H : Heap) (locs : List Loc) (ls : Array Slot) (hw : WS Y (AD Y) s.heap σ H locs) (hl : lv_has ls 2 [(0, .ref (yA Y kq)), (1, .int a0)]) (h : wX5_free kq a0 σ Q) : W p l e { frames := 1, cells := 0, slots := 0, locals := 21 } s m args below meth c H locs 0 0 (MQ below (QI Y Q) args s 0 0 (AD Y)) (F0 m 0 ls []) := by
  obtain ⟨hx, hb, hr, hml, hown, hlk, hT, hK, hB⟩ := id M
  unfold wX5_free at h
  refine lv_aload_n hx hb dX5_free_0 rfl (lv_at hl 0 rfl) ?_
  refine lv_iload_n hx hb dX5_free_1 rfl (lv_at hl 1 rfl) ?_
  refine q_goI hw (q_runV (rest := []) M hw (ctX5_alive l hB hh_kq a0 σ _ h) mbX5_alive (sh_ob hh_kq) rfl tw_430 rfl hl.1 rfl (Nat.le_of_ble_eq_true rfl) ⟨Nat.le_of_ble_eq_true rfl, Nat.le_of_ble_eq_true rfl⟩ ⟨Nat.le_refl _, Nat.le_refl _⟩ dX5_free_2) (fun r2 σ1 H locs h hw => ?_)
  refine lv_if_eq (tgt := 23) hx hb dX5_free_5 (by decide) (fun c3 => ?_) (fun c3 => ?_)
  · have h := h.1 c3
    refine lv_iconst (v := 0) hx hb dX5_free_23 (by decide) ?_
    exact q_zret M hw (by decide) h dX5_free_24
  · have h := h.2 c3
    refine lv_aload_n hx hb dX5_free_8 rfl (lv_at hl 0 rfl) ?_
    refine q_get (v := .ref (yA Y (kq + 2))) M hw (sh_ob hh_kq) rfl inq_5 1 (by decide) tw_192 rfl dX5_free_9 ?_
    refine lv_iload_n hx hb dX5_free_12 rfl (lv_at hl 1 rfl) ?_
    have c4 := h.1
    have h := h.2
    refine q_ild M hw (sh_a2 hh_kq) c4 dX5_free_13 ?_
    refine lv_bipush (v := (-9)) hx hb dX5_free_14 (by decide) ?_
    refine lv_icmp_ne (tgt := 23) hx hb dX5_free_16 (by decide) (fun c5 => ?_) (fun c5 => ?_)
    · have h := h.2 c5
      refine lv_iconst (v := 0) hx hb dX5_free_23 (by decide) ?_
      exact q_zret M hw (by decide) h dX5_free_24
    · have h := h.1 c5
      refine lv_iconst (v := 1) hx hb dX5_free_19 (by decide) ?_
      refine lv_goto (tgt := 24) hx hb dX5_free_20 (by decide) ?_
      exact q_zret M hw (by decide) h dX5_free_24
set_option maxRecDepth 100000 in
theorem ctX5_free (l : Launch) {Y : LY} {kq : Nat} (hB : YB Y) (hh_kq : SH Y kq) (a0 : Int32) (σ : St) (Q : Int32 → St → Prop) (h : wX5_free kq a0 σ Q) : CT l yX5_free (Cond.code yX5_free cX5_free 2 (some .boolean)) { frames := 1, cells := 0, slots := 0, locals := 21 } Y [.ref (yA Y kq), .int a0] σ (QI Y Q) :=
  q_ent hB (by decide +kernel) (Nat.le_of_ble_eq_true rfl) (fun p e s m below meth c ls M hw hl => tX5_free_E M hh_kq a0 σ _ _ ls hw hl h)
theorem mbX5_free : MB RX5 yX5_free cX5_free 1 2 (some .boolean) := ⟨tw_467, tw_468, tw_53, tw_469, by decide +kernel⟩
end
section
variable {p : Program} {l : Launch} {e : Env} {s : State} {m : MethodId} {args : Array Value} {below : List Frame} {meth : Method} {c : Code} {Y : LY}
theorem dX5_hasPloughed_0 : decode cX5_hasPloughed 0 = .ok (.aload_n 0, 1) := by decide +kernel
theorem dX5_hasPloughed_1 : decode cX5_hasPloughed 1 = .ok (.getfield 36, 3) := by decide +kernel
theorem dX5_hasPloughed_4 : decode cX5_hasPloughed 4 = .ok (.iload_n 1, 1) := by decide +kernel
theorem dX5_hasPloughed_5 : decode cX5_hasPloughed 5 = .ok (.ishr, 1) := by decide +kernel
theorem dX5_hasPloughed_6 : decode cX5_hasPloughed 6 = .ok (.iconst 1, 1) := by decide +kernel
theorem dX5_hasPloughed_7 : decode cX5_hasPloughed 7 = .ok (.iand, 1) := by decide +kernel
theorem dX5_hasPloughed_8 : decode cX5_hasPloughed 8 = .ok (.iconst 1, 1) := by decide +kernel
theorem dX5_hasPloughed_9 : decode cX5_hasPloughed 9 = .ok (.if_icmp .ne 7, 3) := by decide +kernel
theorem dX5_hasPloughed_12 : decode cX5_hasPloughed 12 = .ok (.iconst 1, 1) := by decide +kernel
theorem dX5_hasPloughed_13 : decode cX5_hasPloughed 13 = .ok (.goto 4, 3) := by decide +kernel
theorem dX5_hasPloughed_16 : decode cX5_hasPloughed 16 = .ok (.iconst 0, 1) := by decide +kernel
theorem dX5_hasPloughed_17 : decode cX5_hasPloughed 17 = .ok (.ireturn, 1) := by decide +kernel
def wX5_hasPloughed (kq : Nat) (a0 : Int32) (σ : St) (Q : Int32 → St → Prop) : Prop :=
  (((((σ.1 kq 6) >>> (a0 &&& 31)) &&& 1) = 1 → Q 1 σ) ∧ (¬ (((σ.1 kq 6) >>> (a0 &&& 31)) &&& 1) = 1 → Q 0 σ))
set_option maxHeartbeats 4000000 in
set_option maxRecDepth 100000 in
theorem tX5_hasPloughed_E {kq : Nat} {Q : Int32 → St → Prop} (M : MC p s m args meth c cX5_hasPloughed 2 (some .boolean) RX5 Y) (hh_kq : SH Y kq) (a0 : Int32) (σ : St) (H : Heap) (locs : List Loc) (ls : Array Slot) (hw : WS Y (AD Y) s.heap σ H locs) (hl : lv_has ls 2 [(0, .ref (yA Y kq)), (1, .int a0)]) (h : wX5_hasPloughed kq a0 σ Q) : W p l e { frames := 0, cells := 0, slots := 0, locals := 0 } s m args below meth c H locs 0 0 (MQ below (QI Y Q) args s 0 0 (AD Y)) (F0 m 0 ls []) := by
  obtain ⟨hx, hb, hr, hml, hown, hlk, hT, hK, hB⟩ := id M
  unfold wX5_hasPloughed at h
  refine lv_aload_n hx hb dX5_hasPloughed_0 rfl (lv_at hl 0 rfl) ?_
  refine q_get (v := .int (σ.1 kq 6)) M hw (sh_ob hh_kq) rfl inq_5 6 (by decide) tw_202 rfl dX5_hasPloughed_1 ?_
  refine lv_iload_n hx hb dX5_hasPloughed_4 rfl (lv_at hl 1 rfl) ?_
  refine lv_ishr hx hb dX5_hasPloughed_5 ?_
  refine lv_iconst (v := 1) hx hb dX5_hasPloughed_6 (by decide) ?_
  refine lv_iand hx hb dX5_hasPloughed_7 ?_
  refine lv_iconst (v := 1) hx hb dX5_hasPloughed_8 (by decide) ?_
  refine lv_icmp_ne (tgt := 16) hx hb dX5_hasPloughed_9 (by decide) (fun c1 => ?_) (fun c1 => ?_)
  · have h := h.2 c1
    refine lv_iconst (v := 0) hx hb dX5_hasPloughed_16 (by decide) ?_
    exact q_zret M hw (by decide) h dX5_hasPloughed_17
  · have h := h.1 c1
    refine lv_iconst (v := 1) hx hb dX5_hasPloughed_12 (by decide) ?_
    refine lv_goto (tgt := 17) hx hb dX5_hasPloughed_13 (by decide) ?_
    exact q_zret M hw (by decide) h dX5_hasPloughed_17
set_option maxRecDepth 100000 in
theorem ctX5_hasPloughed (l : Launch) {Y : LY} {kq : Nat} (hB : YB Y) (hh_kq : SH Y kq) (a0 : Int32) (σ : St) (Q : Int32 → St → Prop) (h : wX5_hasPloughed kq a0 σ Q) : CT l yX5_hasPloughed (Cond.code yX5_hasPloughed cX5_hasPloughed 2 (some .boolean)) { frames := 0, cells := 0, slots := 0, locals := 0 } Y [.ref (yA Y kq), .int a0] σ (QI Y Q) :=
  q_ent hB (by decide +kernel) (Nat.le_of_ble_eq_true rfl) (fun p e s m below meth c ls M hw hl => tX5_hasPloughed_E M hh_kq a0 σ _ _ ls hw hl h)
theorem mbX5_hasPloughed : MB RX5 yX5_hasPloughed cX5_hasPloughed 1 2 (some .boolean) := ⟨tw_384, tw_385, tw_53, tw_386, by decide +kernel⟩
end
section
variable {p : Program} {l : Launch} {e : Env} {s : State} {m : MethodId} {args : Array Value} {below : List Frame} {meth : Method} {c : Code} {Y : LY}
theorem dX5_lowestOther_0 : decode cX5_lowestOther 0 = .ok (.iconst 0, 1) := by decide +kernel
theorem dX5_lowestOther_1 : decode cX5_lowestOther 1 = .ok (.istore_n 2, 1) := by decide +kernel
theorem dX5_lowestOther_2 : decode cX5_lowestOther 2 = .ok (.iload_n 2, 1) := by decide +kernel
theorem dX5_lowestOther_3 : decode cX5_lowestOther 3 = .ok (.iconst 5, 1) := by decide +kernel
theorem dX5_lowestOther_4 : decode cX5_lowestOther 4 = .ok (.if_icmp .ge 24, 3) := by decide +kernel
theorem dX5_lowestOther_7 : decode cX5_lowestOther 7 = .ok (.iload_n 2, 1) := by decide +kernel
theorem dX5_lowestOther_8 : decode cX5_lowestOther 8 = .ok (.iload_n 1, 1) := by decide +kernel
theorem dX5_lowestOther_9 : decode cX5_lowestOther 9 = .ok (.if_icmp .eq 13, 3) := by decide +kernel
theorem dX5_lowestOther_12 : decode cX5_lowestOther 12 = .ok (.aload_n 0, 1) := by decide +kernel
theorem dX5_lowestOther_13 : decode cX5_lowestOther 13 = .ok (.iload_n 2, 1) := by decide +kernel
theorem dX5_lowestOther_14 : decode cX5_lowestOther 14 = .ok (.invokevirtual 44, 3) := by decide +kernel
theorem dX5_lowestOther_17 : decode cX5_lowestOther 17 = .ok (.ifCond .eq 5, 3) := by decide +kernel
theorem dX5_lowestOther_20 : decode cX5_lowestOther 20 = .ok (.iload_n 2, 1) := by decide +kernel
theorem dX5_lowestOther_21 : decode cX5_lowestOther 21 = .ok (.ireturn, 1) := by decide +kernel
theorem dX5_lowestOther_22 : decode cX5_lowestOther 22 = .ok (.iinc 2 1, 3) := by decide +kernel
theorem dX5_lowestOther_25 : decode cX5_lowestOther 25 = .ok (.goto (-23), 3) := by decide +kernel
theorem dX5_lowestOther_28 : decode cX5_lowestOther 28 = .ok (.bipush (-9), 2) := by decide +kernel
theorem dX5_lowestOther_30 : decode cX5_lowestOther 30 = .ok (.ireturn, 1) := by decide +kernel
def bX5_lowestOther_22 (R_2 : Int32 × Int32 × St → Prop) (kq : Nat) (y1 : Int32) (y2 : Int32) (σ : St) (Q : Int32 → St → Prop) : Prop :=
  (∀ x1 : Int32, x1 = y2 + 1 → R_2 (y1, x1, σ))
set_option maxHeartbeats 4000000 in
set_option maxRecDepth 100000 in
theorem tX5_lowestOther_22 {R_2 : Int32 × Int32 × St → Prop} {kq : Nat} {Q : Int32 → St → Prop} (M : MC p s m args meth c cX5_lowestOther 3 (some .int) RX5 Y) (hh_kq : SH Y kq) (hR_2 : ∀ (y1 y2 : Int32) (σ : St) (H : Heap) (locs : List Loc) (ls : Array Slot), WS Y (AD Y) s.heap σ H locs → lv_has ls 3 [(0, .ref (yA Y kq)), (1, .int y1), (2, .int y2)] → R_2 (y1, y2, σ) → W p l e { frames := 1, cells := 0, slots := 0, locals := 21 } s m args below meth c H locs 0 0 (MQ below (QI Y Q) args s 0 0 (AD Y)) (F0 m 2 ls [])) (y1 : Int32) (y2 : Int32) (σ : St) (H : Heap) (locs : List Loc) (ls : Array Slot) (hw : WS Y (AD Y) s.heap σ H locs) (hl : lv_has ls 3 [(0, .ref (yA Y kq)), (1, .int y1), (2, .int y2)]) (h : bX5_lowestOther_22 R_2 kq y1 y2 σ Q) : W p l e { frames := 1, cells := 0, slots := 0, locals := 21 } s m args below meth c H locs 0 0 (MQ below (QI Y Q) args s 0 0 (AD Y)) (F0 m 22 ls []) := by
  obtain ⟨hx, hb, hr, hml, hown, hlk, hT, hK, hB⟩ := id M
  unfold bX5_lowestOther_22 at h
  obtain ⟨x1, ex1⟩ : ∃ y : Int32, y = y2 + 1 := ⟨_, rfl⟩
  have h := h x1 ex1
  refine lv_iinc (v := x1) (lv' := [(2, .int x1), (0, .ref (yA Y kq)), (1, .int y1)]) hx hb dX5_lowestOther_22 hl (k := 2) rfl (by rw [ex1]; rfl) (by decide) rfl (fun ls hl => ?_)
  refine lv_goto (tgt := 2) hx hb dX5_lowestOther_25 (by decide) ?_
  exact hR_2 y1 x1 σ _ _ _ hw (lv_sub hl [1, 2, 0] rfl) h
def bX5_lowestOther_2 (R_2 : Int32 × Int32 × St → Prop) (kq : Nat) (y1 : Int32) (y2 : Int32) (σ : St) (Q : Int32 → St → Prop) : Prop :=
  ((5 ≤ y2 → Q (-9) σ) ∧ (¬ 5 ≤ y2 → ((y2 = y1 → bX5_lowestOther_22 R_2 kq y1 y2 σ Q) ∧ (¬ y2 = y1 → wX5_alive kq y2 σ (fun r4 σ3 => ((r4 = 0 → bX5_lowestOther_22 R_2 kq y1 y2 σ3 Q) ∧ (¬ r4 = 0 → Q y2 σ3)))))))
set_option maxHeartbeats 4000000 in
set_option maxRecDepth 100000 in
theorem tX5_lowestOther_2 {R_2 : Int32 × Int32 × St → Prop} {kq : Nat} {Q : Int32 → St → Prop} (M : MC p s m args meth c cX5_lowestOther 3 (some .int) RX5 Y) (hh_kq : SH Y kq) (hR_2 : ∀ (y1 y2 : Int32) (σ : St) (H : Heap) (locs : List Loc) (ls : Array Slot), WS Y (AD Y) s.heap σ H locs → lv_has ls 3 [(0, .ref (yA Y kq)), (1, .int y1), (2, .int y2)] → R_2 (y1, y2, σ) → W p l e { frames := 1, cells := 0, slots := 0, locals := 21 } s m args below meth c H locs 0 0 (MQ below (QI Y Q) args s 0 0 (AD Y)) (F0 m 2 ls [])) (y1 : Int32) (y2 : Int32) (σ : St) (H : Heap) (locs : List Loc) (ls : Array Slot) (hw : WS Y (AD Y) s.heap σ H locs) (hl : lv_has ls 3 [(0, .ref (yA Y kq)), (1, .int y1), (2, .int y2)]) (h : bX5_lowestOther_2 R_2 kq y1 y2 σ Q) : W p l e { frames := 1, cells := 0, slots := 0, locals := 21 } s m args below meth c H locs 0 0 (MQ below (QI Y Q) args s 0 0 (AD Y)) (F0 m 2 ls []) := by
  obtain ⟨hx, hb, hr, hml, hown, hlk, hT, hK, hB⟩ := id M
  unfold bX5_lowestOther_2 at h
  refine lv_iload_n hx hb dX5_lowestOther_2 rfl (lv_at hl 2 rfl) ?_
  refine lv_iconst (v := 5) hx hb dX5_lowestOther_3 (by decide) ?_
  refine lv_icmp_ge (tgt := 28) hx hb dX5_lowestOther_4 (by decide) (fun c1 => ?_) (fun c1 => ?_)
  · have h := h.1 c1
    refine lv_bipush (v := (-9)) hx hb dX5_lowestOther_28 (by decide) ?_
    exact q_iret M hw h dX5_lowestOther_30
  · have h := h.2 c1
    refine lv_iload_n hx hb dX5_lowestOther_7 rfl (lv_at hl 2 rfl) ?_
    refine lv_iload_n hx hb dX5_lowestOther_8 rfl (lv_at hl 1 rfl) ?_
    refine lv_icmp_eq (tgt := 22) hx hb dX5_lowestOther_9 (by decide) (fun c2 => ?_) (fun c2 => ?_)
    · have h := h.1 c2
      exact tX5_lowestOther_22 M hh_kq hR_2 y1 y2 σ _ _ _ hw (lv_sub hl [0, 1, 2] rfl) h
    · have h := h.2 c2
      refine lv_aload_n hx hb dX5_lowestOther_12 rfl (lv_at hl 0 rfl) ?_
      refine lv_iload_n hx hb dX5_lowestOther_13 rfl (lv_at hl 2 rfl) ?_
      refine q_goI hw (q_runV (rest := []) M hw (ctX5_alive l hB hh_kq y2 σ _ h) mbX5_alive (sh_ob hh_kq) rfl tw_430 rfl hl.1 rfl (Nat.le_of_ble_eq_true rfl) ⟨Nat.le_of_ble_eq_true rfl, Nat.le_of_ble_eq_true rfl⟩ ⟨Nat.le_refl _, Nat.le_refl _⟩ dX5_lowestOther_14) (fun r4 σ3 H locs h hw => ?_)
      refine lv_if_eq (tgt := 22) hx hb dX5_lowestOther_17 (by decide) (fun c5 => ?_) (fun c5 => ?_)
      · have h := h.1 c5
        exact tX5_lowestOther_22 M hh_kq hR_2 y1 y2 σ3 _ _ _ hw (lv_sub hl [0, 1, 2] rfl) h
      · have h := h.2 c5
        refine lv_iload_n hx hb dX5_lowestOther_20 rfl (lv_at hl 2 rfl) ?_
        exact q_iret M hw h dX5_lowestOther_21
def lX5_lowestOther_2 (kq : Nat) (Q : Int32 → St → Prop) : (Int32 × Int32 × St → Prop) → Int32 × Int32 × St → Prop := fun R a => bX5_lowestOther_2 R kq a.1 a.2.1 a.2.2 Q
theorem tlX5_lowestOther_2 {kq : Nat} {Q : Int32 → St → Prop} (M : MC p s m args meth c cX5_lowestOther 3 (some .int) RX5 Y) (hh_kq : SH Y kq) (n : Nat) : ∀ (y1 : Int32) (y2 : Int32) (σ : St) (H : Heap) (locs : List Loc) (ls : Array Slot) (hw : WS Y (AD Y) s.heap σ H locs) (hl : lv_has ls 3 [(0, .ref (yA Y kq)), (1, .int y1), (2, .int y2)]) (h : Lp (lX5_lowestOther_2 kq Q) n (y1, y2, σ)), W p l e { frames := 1, cells := 0, slots := 0, locals := 21 } s m args below meth c H locs 0 0 (MQ below (QI Y Q) args s 0 0 (AD Y)) (F0 m 2 ls []) := by
  induction n with
  | zero => intro y1 y2 σ H locs ls hw hl h; exact h.elim
  | succ n ih =>
    intro y1 y2 σ H locs ls hw hl h
    exact tX5_lowestOther_2 M hh_kq ih y1 y2 σ H locs ls hw hl h
def wX5_lowestOther (kq : Nat) (a0 : Int32) (σ : St) (Q : Int32 → St → Prop) : Prop :=
  ∃ n : Nat, Lp (lX5_lowestOther_2 kq Q) n (a0, 0, σ)
set_option maxHeartbeats 4000000 in
set_option maxRecDepth 100000 in
theorem tX5_lowestOther_E {kq : Nat} {Q : Int32 → St → Prop} (M : MC p s m args meth c cX5_lowestOther 3 (some .int) RX5 Y) (hh_kq : SH Y kq) (a0 : Int32) (σ : St) (H : Heap) (locs : List Loc) (ls : Array Slot) (hw : WS Y (AD Y) s.heap σ H locs) (hl : lv_has ls 3 [(0, .ref (yA Y kq)), (1, .int a0)]) (h : wX5_lowestOther kq a0 σ Q) : W p l e { frames := 1, cells := 0, slots := 0, locals := 21 } s m args below meth c H locs 0 0 (MQ below (QI Y Q) args s 0 0 (AD Y)) (F0 m 0 ls []) := by
  obtain ⟨hx, hb, hr, hml, hown, hlk, hT, hK, hB⟩ := id M
  unfold wX5_lowestOther at h
  refine lv_iconst (v := 0) hx hb dX5_lowestOther_0 (by decide) ?_
  refine lv_istore_n (lv' := [(2, .int 0), (0, .ref (yA Y kq)), (1, .int a0)]) hx hb dX5_lowestOther_1 rfl hl (by decide) rfl (fun ls hl => ?_)
  obtain ⟨n, h⟩ := h
  exact tlX5_lowestOther_2 M hh_kq n a0 0 σ _ _ _ hw (lv_sub hl [1, 2, 0] rfl) h
set_option maxRecDepth 100000 in
theorem ctX5_lowestOther (l : Launch) {Y : LY} {kq : Nat} (hB : YB Y) (hh_kq : SH Y kq) (a0 : Int32) (σ : St) (Q : Int32 → St → Prop) (h : wX5_lowestOther kq a0 σ Q) : CT l yX5_lowestOther (Cond.code yX5_lowestOther cX5_lowestOther 3 (some .int)) { frames := 1, cells := 0, slots := 0, locals := 21 } Y [.ref (yA Y kq), .int a0] σ (QI Y Q) :=
  q_ent hB (by decide +kernel) (Nat.le_of_ble_eq_true rfl) (fun p e s m below meth c ls M hw hl => tX5_lowestOther_E M hh_kq a0 σ _ _ ls hw hl h)
theorem mbX5_lowestOther : MB RX5 yX5_lowestOther cX5_lowestOther 1 3 (some .int) := ⟨tw_475, tw_476, tw_53, tw_477, by decide +kernel⟩
end
section
variable {p : Program} {l : Launch} {e : Env} {s : State} {m : MethodId} {args : Array Value} {below : List Frame} {meth : Method} {c : Code} {Y : LY}
theorem dX5_mayPlough_0 : decode cX5_mayPlough 0 = .ok (.aload_n 0, 1) := by decide +kernel
theorem dX5_mayPlough_1 : decode cX5_mayPlough 1 = .ok (.getfield 18, 3) := by decide +kernel
theorem dX5_mayPlough_4 : decode cX5_mayPlough 4 = .ok (.iload_n 2, 1) := by decide +kernel
theorem dX5_mayPlough_5 : decode cX5_mayPlough 5 = .ok (.iaload, 1) := by decide +kernel
theorem dX5_mayPlough_6 : decode cX5_mayPlough 6 = .ok (.iload_n 1, 1) := by decide +kernel
theorem dX5_mayPlough_7 : decode cX5_mayPlough 7 = .ok (.if_icmp .eq 18, 3) := by decide +kernel
theorem dX5_mayPlough_10 : decode cX5_mayPlough 10 = .ok (.aload_n 0, 1) := by decide +kernel
theorem dX5_mayPlough_11 : decode cX5_mayPlough 11 = .ok (.getfield 18, 3) := by decide +kernel
theorem dX5_mayPlough_14 : decode cX5_mayPlough 14 = .ok (.iload_n 2, 1) := by decide +kernel
theorem dX5_mayPlough_15 : decode cX5_mayPlough 15 = .ok (.iaload, 1) := by decide +kernel
theorem dX5_mayPlough_16 : decode cX5_mayPlough 16 = .ok (.aload_n 0, 1) := by decide +kernel
theorem dX5_mayPlough_17 : decode cX5_mayPlough 17 = .ok (.getfield 15, 3) := by decide +kernel
theorem dX5_mayPlough_20 : decode cX5_mayPlough 20 = .ok (.iload_n 1, 1) := by decide +kernel
theorem dX5_mayPlough_21 : decode cX5_mayPlough 21 = .ok (.iaload, 1) := by decide +kernel
theorem dX5_mayPlough_22 : decode cX5_mayPlough 22 = .ok (.if_icmp .ne 7, 3) := by decide +kernel
theorem dX5_mayPlough_25 : decode cX5_mayPlough 25 = .ok (.iconst 1, 1) := by decide +kernel
theorem dX5_mayPlough_26 : decode cX5_mayPlough 26 = .ok (.goto 4, 3) := by decide +kernel
theorem dX5_mayPlough_29 : decode cX5_mayPlough 29 = .ok (.iconst 0, 1) := by decide +kernel
theorem dX5_mayPlough_30 : decode cX5_mayPlough 30 = .ok (.istore 4, 2) := by decide +kernel
theorem dX5_mayPlough_32 : decode cX5_mayPlough 32 = .ok (.iload 4, 2) := by decide +kernel
theorem dX5_mayPlough_34 : decode cX5_mayPlough 34 = .ok (.ifCond .eq 47, 3) := by decide +kernel
theorem dX5_mayPlough_37 : decode cX5_mayPlough 37 = .ok (.aload_n 0, 1) := by decide +kernel
theorem dX5_mayPlough_38 : decode cX5_mayPlough 38 = .ok (.iload_n 1, 1) := by decide +kernel
theorem dX5_mayPlough_39 : decode cX5_mayPlough 39 = .ok (.invokevirtual 44, 3) := by decide +kernel
theorem dX5_mayPlough_42 : decode cX5_mayPlough 42 = .ok (.ifCond .eq 39, 3) := by decide +kernel
theorem dX5_mayPlough_45 : decode cX5_mayPlough 45 = .ok (.aload_n 0, 1) := by decide +kernel
theorem dX5_mayPlough_46 : decode cX5_mayPlough 46 = .ok (.iload_n 1, 1) := by decide +kernel
theorem dX5_mayPlough_47 : decode cX5_mayPlough 47 = .ok (.invokevirtual 48, 3) := by decide +kernel
theorem dX5_mayPlough_50 : decode cX5_mayPlough 50 = .ok (.ifCond .ne 31, 3) := by decide +kernel
theorem dX5_mayPlough_53 : decode cX5_mayPlough 53 = .ok (.aload_n 0, 1) := by decide +kernel
theorem dX5_mayPlough_54 : decode cX5_mayPlough 54 = .ok (.getfield 21, 3) := by decide +kernel
theorem dX5_mayPlough_57 : decode cX5_mayPlough 57 = .ok (.iload_n 2, 1) := by decide +kernel
theorem dX5_mayPlough_58 : decode cX5_mayPlough 58 = .ok (.iaload, 1) := by decide +kernel
theorem dX5_mayPlough_59 : decode cX5_mayPlough 59 = .ok (.ifCond .le 22, 3) := by decide +kernel
theorem dX5_mayPlough_62 : decode cX5_mayPlough 62 = .ok (.iload_n 3, 1) := by decide +kernel
theorem dX5_mayPlough_63 : decode cX5_mayPlough 63 = .ok (.iconst 1, 1) := by decide +kernel
theorem dX5_mayPlough_64 : decode cX5_mayPlough 64 = .ok (.if_icmp .lt 17, 3) := by decide +kernel
theorem dX5_mayPlough_67 : decode cX5_mayPlough 67 = .ok (.aload_n 0, 1) := by decide +kernel
theorem dX5_mayPlough_68 : decode cX5_mayPlough 68 = .ok (.getfield 9, 3) := by decide +kernel
theorem dX5_mayPlough_71 : decode cX5_mayPlough 71 = .ok (.iload_n 1, 1) := by decide +kernel
theorem dX5_mayPlough_72 : decode cX5_mayPlough 72 = .ok (.iaload, 1) := by decide +kernel
theorem dX5_mayPlough_73 : decode cX5_mayPlough 73 = .ok (.iload_n 3, 1) := by decide +kernel
theorem dX5_mayPlough_74 : decode cX5_mayPlough 74 = .ok (.if_icmp .lt 7, 3) := by decide +kernel
theorem dX5_mayPlough_77 : decode cX5_mayPlough 77 = .ok (.iconst 1, 1) := by decide +kernel
theorem dX5_mayPlough_78 : decode cX5_mayPlough 78 = .ok (.goto 4, 3) := by decide +kernel
theorem dX5_mayPlough_81 : decode cX5_mayPlough 81 = .ok (.iconst 0, 1) := by decide +kernel
theorem dX5_mayPlough_82 : decode cX5_mayPlough 82 = .ok (.ireturn, 1) := by decide +kernel
def bX5_mayPlough_30 (kq : Nat) (y1 : Int32) (y2 : Int32) (y3 : Int32) (z0 : Int32) (σ : St) (Q : Int32 → St → Prop) : Prop :=
  ((z0 = 0 → Q 0 σ) ∧ (¬ z0 = 0 → wX5_alive kq y1 σ (fun r3 σ2 => ((r3 = 0 → Q 0 σ2) ∧ (¬ r3 = 0 → wX5_hasPloughed kq y1 σ2 (fun r6 σ5 => ((r6 = 0 → (vp_in y2 7 ∧ (((σ5.1 (kq + 4) y2.toNatClampNeg) ≤ 0 → Q 0 σ5) ∧ (¬ (σ5.1 (kq + 4) y2.toNatClampNeg) ≤ 0 → ((y3 < 1 → Q 0 σ5) ∧ (¬ y3 < 1 → (vp_in y1 5 ∧ (((σ5.1 (kq + 1) y1.toNatClampNeg) < y3 → Q 0 σ5) ∧ (¬ (σ5.1 (kq + 1) y1.toNatClampNeg) < y3 → Q 1 σ5))))))))) ∧ (¬ r6 = 0 → Q 0 σ5))))))))
set_option maxHeartbeats 4000000 in
set_option maxRecDepth 100000 in
theorem tX5_mayPlough_30 {kq : Nat} {Q : Int32 → St → Prop} (M : MC p s m args meth c cX5_mayPlough 5 (some .boolean) RX5 Y) (hh_kq : SH Y kq) (y1 : Int32) (y2 : Int32) (y3 : Int32) (z0 : Int32) (σ : St) (H : Heap) (locs : List Loc) (ls : Array Slot) (hw : WS Y (AD Y) s.heap σ H locs) (hl : lv_has ls 5 [(0, .ref (yA Y kq)), (1, .int y1), (2, .int y2), (3, .int y3)]) (h : bX5_mayPlough_30 kq y1 y2 y3 z0 σ Q) : W p l e { frames := 1, cells := 0, slots := 0, locals := 21 } s m args below meth c H locs 0 0 (MQ below (QI Y Q) args s 0 0 (AD Y)) (F0 m 30 ls [.int z0]) := by
  obtain ⟨hx, hb, hr, hml, hown, hlk, hT, hK, hB⟩ := id M
  unfold bX5_mayPlough_30 at h
  refine lv_istore (lv' := [(4, .int z0), (0, .ref (yA Y kq)), (1, .int y1), (2, .int y2), (3, .int y3)]) hx hb dX5_mayPlough_30 hl (by decide) rfl (fun ls hl => ?_)
  refine lv_iload hx hb dX5_mayPlough_32 (lv_at hl 0 rfl) ?_
  refine lv_if_eq (tgt := 81) hx hb dX5_mayPlough_34 (by decide) (fun c1 => ?_) (fun c1 => ?_)
  · have h := h.1 c1
    refine lv_iconst (v := 0) hx hb dX5_mayPlough_81 (by decide) ?_
    exact q_zret M hw (by decide) h dX5_mayPlough_82
  · have h := h.2 c1
    refine lv_aload_n hx hb dX5_mayPlough_37 rfl (lv_at hl 1 rfl) ?_
    refine lv_iload_n hx hb dX5_mayPlough_38 rfl (lv_at hl 2 rfl) ?_
    refine q_goI hw (q_runV (rest := []) M hw (ctX5_alive l hB hh_kq y1 σ _ h) mbX5_alive (sh_ob hh_kq) rfl tw_430 rfl hl.1 rfl (Nat.le_of_ble_eq_true rfl) ⟨Nat.le_of_ble_eq_true rfl, Nat.le_of_ble_eq_true rfl⟩ ⟨Nat.le_refl _, Nat.le_refl _⟩ dX5_mayPlough_39) (fun r3 σ2 H locs h hw => ?_)
    refine lv_if_eq (tgt := 81) hx hb dX5_mayPlough_42 (by decide) (fun c4 => ?_) (fun c4 => ?_)
    · have h := h.1 c4
      refine lv_iconst (v := 0) hx hb dX5_mayPlough_81 (by decide) ?_
      exact q_zret M hw (by decide) h dX5_mayPlough_82
    · have h := h.2 c4
      refine lv_aload_n hx hb dX5_mayPlough_45 rfl (lv_at hl 1 rfl) ?_
      refine lv_iload_n hx hb dX5_mayPlough_46 rfl (lv_at hl 2 rfl) ?_
      refine q_goI hw (q_runV (rest := []) M hw (ctX5_hasPloughed l hB hh_kq y1 σ2 _ h) mbX5_hasPloughed (sh_ob hh_kq) rfl tw_431 rfl hl.1 rfl (Nat.le_of_ble_eq_true rfl) ⟨Nat.le_of_ble_eq_true rfl, Nat.le_of_ble_eq_true rfl⟩ ⟨Nat.le_refl _, Nat.le_refl _⟩ dX5_mayPlough_47) (fun r6 σ5 H locs h hw => ?_)
      refine lv_if_ne (tgt := 81) hx hb dX5_mayPlough_50 (by decide) (fun c7 => ?_) (fun c7 => ?_)
      · have h := h.2 c7
        refine lv_iconst (v := 0) hx hb dX5_mayPlough_81 (by decide) ?_
        exact q_zret M hw (by decide) h dX5_mayPlough_82
      · have h := h.1 c7
        refine lv_aload_n hx hb dX5_mayPlough_53 rfl (lv_at hl 1 rfl) ?_
        refine q_get (v := .ref (yA Y (kq + 4))) M hw (sh_ob hh_kq) rfl inq_5 3 (by decide) tw_196 rfl dX5_mayPlough_54 ?_
        refine lv_iload_n hx hb dX5_mayPlough_57 rfl (lv_at hl 3 rfl) ?_
        have c8 := h.1
        have h := h.2
        refine q_ild M hw (sh_a4 hh_kq) c8 dX5_mayPlough_58 ?_
        refine lv_if_le (tgt := 81) hx hb dX5_mayPlough_59 (by decide) (fun c9 => ?_) (fun c9 => ?_)
        · have h := h.1 c9
          refine lv_iconst (v := 0) hx hb dX5_mayPlough_81 (by decide) ?_
          exact q_zret M hw (by decide) h dX5_mayPlough_82
        · have h := h.2 c9
          refine lv_iload_n hx hb dX5_mayPlough_62 rfl (lv_at hl 4 rfl) ?_
          refine lv_iconst (v := 1) hx hb dX5_mayPlough_63 (by decide) ?_
          refine lv_icmp_lt (tgt := 81) hx hb dX5_mayPlough_64 (by decide) (fun c10 => ?_) (fun c10 => ?_)
          · have h := h.1 c10
            refine lv_iconst (v := 0) hx hb dX5_mayPlough_81 (by decide) ?_
            exact q_zret M hw (by decide) h dX5_mayPlough_82
          · have h := h.2 c10
            refine lv_aload_n hx hb dX5_mayPlough_67 rfl (lv_at hl 1 rfl) ?_
            refine q_get (v := .ref (yA Y (kq + 1))) M hw (sh_ob hh_kq) rfl inq_5 0 (by decide) tw_190 rfl dX5_mayPlough_68 ?_
            refine lv_iload_n hx hb dX5_mayPlough_71 rfl (lv_at hl 2 rfl) ?_
            have c11 := h.1
            have h := h.2
            refine q_ild M hw (sh_a1 hh_kq) c11 dX5_mayPlough_72 ?_
            refine lv_iload_n hx hb dX5_mayPlough_73 rfl (lv_at hl 4 rfl) ?_
            refine lv_icmp_lt (tgt := 81) hx hb dX5_mayPlough_74 (by decide) (fun c12 => ?_) (fun c12 => ?_)
            · have h := h.1 c12
              refine lv_iconst (v := 0) hx hb dX5_mayPlough_81 (by decide) ?_
              exact q_zret M hw (by decide) h dX5_mayPlough_82
            · have h := h.2 c12
              refine lv_iconst (v := 1) hx hb dX5_mayPlough_77 (by decide) ?_
              refine lv_goto (tgt := 82) hx hb dX5_mayPlough_78 (by decide) ?_
              exact q_zret M hw (by decide) h dX5_mayPlough_82
def bX5_mayPlough_25 (kq : Nat) (y1 : Int32) (y2 : Int32) (y3 : Int32) (σ : St) (Q : Int32 → St → Prop) : Prop :=
  bX5_mayPlough_30 kq y1 y2 y3 1 σ Q
set_option maxHeartbeats 4000000 in
set_option maxRecDepth 100000 in
theorem tX5_mayPlough_25 {kq : Nat} {Q : Int32 → St → Prop} (M : MC p s m args meth c cX5_mayPlough 5 (some .boolean) RX5 Y) (hh_kq : SH Y kq) (y1 : Int32) (y2 : Int32) (y3 : Int32) (σ : St) (H : Heap) (locs : List Loc) (ls : Array Slot) (hw : WS Y (AD Y) s.heap σ H locs) (hl : lv_has ls 5 [(0, .ref (yA Y kq)), (1, .int y1), (2, .int y2), (3, .int y3)]) (h : bX5_mayPlough_25 kq y1 y2 y3 σ Q) : W p l e { frames := 1, cells := 0, slots := 0, locals := 21 } s m args below meth c H locs 0 0 (MQ below (QI Y Q) args s 0 0 (AD Y)) (F0 m 25 ls []) := by
  obtain ⟨hx, hb, hr, hml, hown, hlk, hT, hK, hB⟩ := id M
  unfold bX5_mayPlough_25 at h
  refine lv_iconst (v := 1) hx hb dX5_mayPlough_25 (by decide) ?_
  refine lv_goto (tgt := 30) hx hb dX5_mayPlough_26 (by decide) ?_
  exact tX5_mayPlough_30 M hh_kq y1 y2 y3 1 σ _ _ _ hw (lv_sub hl [0, 1, 2, 3] rfl) h
def wX5_mayPlough (kq : Nat) (a0 : Int32) (a1 : Int32) (a2 : Int32) (σ : St) (Q : Int32 → St → Prop) : Prop :=
  (vp_in a1 7 ∧ (((σ.1 (kq + 3) a1.toNatClampNeg) = a0 → bX5_mayPlough_25 kq a0 a1 a2 σ Q) ∧ (¬ (σ.1 (kq + 3) a1.toNatClampNeg) = a0 → (vp_in a1 7 ∧ (vp_in a0 5 ∧ (((σ.1 (kq + 3) a1.toNatClampNeg) = (σ.1 (kq + 2) a0.toNatClampNeg) → bX5_mayPlough_25 kq a0 a1 a2 σ Q) ∧ (¬ (σ.1 (kq + 3) a1.toNatClampNeg) = (σ.1 (kq + 2) a0.toNatClampNeg) → bX5_mayPlough_30 kq a0 a1 a2 0 σ Q)))))))
set_option maxHeartbeats 4000000 in
set_option maxRecDepth 100000 in
theorem tX5_mayPlough_E {kq : Nat} {Q : Int32 → St → Prop} (M : MC p s m args meth c cX5_mayPlough 5 (some .boolean) RX5 Y) (hh_kq : SH Y kq) (a0 : Int32) (a1 : Int32) (a2 : Int32) (σ : St) (H : Heap) (locs : List Loc) (ls : Array Slot) (hw : WS Y (AD Y) s.heap σ H locs) (hl : lv_has ls 5 [(0, .ref (yA Y kq)), (1, .int a0), (2, .int a1), (3, .int a2)]) (h : wX5_mayPlough kq a0 a1 a2 σ Q) : W p l e { frames := 1, cells := 0, slots := 0, locals := 21 } s m args below meth c H locs 0 0 (MQ below (QI Y Q) args s 0 0 (AD Y)) (F0 m 0 ls []) := by
  obtain ⟨hx, hb, hr, hml, hown, hlk, hT, hK, hB⟩ := id M
  unfold wX5_mayPlough at h
  refine lv_aload_n hx hb dX5_mayPlough_0 rfl (lv_at hl 0 rfl) ?_
  refine q_get (v := .ref (yA Y (kq + 3))) M hw (sh_ob hh_kq) rfl inq_5 2 (by decide) tw_194 rfl dX5_mayPlough_1 ?_
  refine lv_iload_n hx hb dX5_mayPlough_4 rfl (lv_at hl 2 rfl) ?_
  have c1 := h.1
  have h := h.2
  refine q_ild M hw (sh_a3 hh_kq) c1 dX5_mayPlough_5 ?_
  refine lv_iload_n hx hb dX5_mayPlough_6 rfl (lv_at hl 1 rfl) ?_
  refine lv_icmp_eq (tgt := 25) hx hb dX5_mayPlough_7 (by decide) (fun c2 => ?_) (fun c2 => ?_)
  · have h := h.1 c2
    exact tX5_mayPlough_25 M hh_kq a0 a1 a2 σ _ _ _ hw (lv_sub hl [0, 1, 2, 3] rfl) h
  · have h := h.2 c2
    refine lv_aload_n hx hb dX5_mayPlough_10 rfl (lv_at hl 0 rfl) ?_
    refine q_get (v := .ref (yA Y (kq + 3))) M hw (sh_ob hh_kq) rfl inq_5 2 (by decide) tw_194 rfl dX5_mayPlough_11 ?_
    refine lv_iload_n hx hb dX5_mayPlough_14 rfl (lv_at hl 2 rfl) ?_
    have c3 := h.1
    have h := h.2
    refine q_ild M hw (sh_a3 hh_kq) c3 dX5_mayPlough_15 ?_
    refine lv_aload_n hx hb dX5_mayPlough_16 rfl (lv_at hl 0 rfl) ?_
    refine q_get (v := .ref (yA Y (kq + 2))) M hw (sh_ob hh_kq) rfl inq_5 1 (by decide) tw_192 rfl dX5_mayPlough_17 ?_
    refine lv_iload_n hx hb dX5_mayPlough_20 rfl (lv_at hl 1 rfl) ?_
    have c4 := h.1
    have h := h.2
    refine q_ild M hw (sh_a2 hh_kq) c4 dX5_mayPlough_21 ?_
    refine lv_icmp_ne (tgt := 29) hx hb dX5_mayPlough_22 (by decide) (fun c5 => ?_) (fun c5 => ?_)
    · have h := h.2 c5
      refine lv_iconst (v := 0) hx hb dX5_mayPlough_29 (by decide) ?_
      exact tX5_mayPlough_30 M hh_kq a0 a1 a2 0 σ _ _ _ hw (lv_sub hl [0, 1, 2, 3] rfl) h
    · have h := h.1 c5
      exact tX5_mayPlough_25 M hh_kq a0 a1 a2 σ _ _ _ hw (lv_sub hl [0, 1, 2, 3] rfl) h
set_option maxRecDepth 100000 in
theorem ctX5_mayPlough (l : Launch) {Y : LY} {kq : Nat} (hB : YB Y) (hh_kq : SH Y kq) (a0 : Int32) (a1 : Int32) (a2 : Int32) (σ : St) (Q : Int32 → St → Prop) (h : wX5_mayPlough kq a0 a1 a2 σ Q) : CT l yX5_mayPlough (Cond.code yX5_mayPlough cX5_mayPlough 5 (some .boolean)) { frames := 1, cells := 0, slots := 0, locals := 21 } Y [.ref (yA Y kq), .int a0, .int a1, .int a2] σ (QI Y Q) :=
  q_ent hB (by decide +kernel) (Nat.le_of_ble_eq_true rfl) (fun p e s m below meth c ls M hw hl => tX5_mayPlough_E M hh_kq a0 a1 a2 σ _ _ ls hw hl h)
theorem mbX5_mayPlough : MB RX5 yX5_mayPlough cX5_mayPlough 3 5 (some .boolean) := ⟨tw_427, tw_428, tw_53, tw_429, by decide +kernel⟩
end
section
variable {p : Program} {l : Launch} {e : Env} {s : State} {m : MethodId} {args : Array Value} {below : List Frame} {meth : Method} {c : Code} {Y : LY}
theorem dX5_plough_0 : decode cX5_plough 0 = .ok (.aload_n 0, 1) := by decide +kernel
theorem dX5_plough_1 : decode cX5_plough 1 = .ok (.getfield 9, 3) := by decide +kernel
theorem dX5_plough_4 : decode cX5_plough 4 = .ok (.iload_n 1, 1) := by decide +kernel
theorem dX5_plough_5 : decode cX5_plough 5 = .ok (.dup2, 1) := by decide +kernel
theorem dX5_plough_6 : decode cX5_plough 6 = .ok (.iaload, 1) := by decide +kernel
theorem dX5_plough_7 : decode cX5_plough 7 = .ok (.iload_n 3, 1) := by decide +kernel
theorem dX5_plough_8 : decode cX5_plough 8 = .ok (.isub, 1) := by decide +kernel
theorem dX5_plough_9 : decode cX5_plough 9 = .ok (.iastore, 1) := by decide +kernel
theorem dX5_plough_10 : decode cX5_plough 10 = .ok (.aload_n 0, 1) := by decide +kernel
theorem dX5_plough_11 : decode cX5_plough 11 = .ok (.getfield 21, 3) := by decide +kernel
theorem dX5_plough_14 : decode cX5_plough 14 = .ok (.iload_n 2, 1) := by decide +kernel
theorem dX5_plough_15 : decode cX5_plough 15 = .ok (.iconst 0, 1) := by decide +kernel
theorem dX5_plough_16 : decode cX5_plough 16 = .ok (.aload_n 0, 1) := by decide +kernel
theorem dX5_plough_17 : decode cX5_plough 17 = .ok (.getfield 21, 3) := by decide +kernel
theorem dX5_plough_20 : decode cX5_plough 20 = .ok (.iload_n 2, 1) := by decide +kernel
theorem dX5_plough_21 : decode cX5_plough 21 = .ok (.iaload, 1) := by decide +kernel
theorem dX5_plough_22 : decode cX5_plough 22 = .ok (.iload 4, 2) := by decide +kernel
theorem dX5_plough_24 : decode cX5_plough 24 = .ok (.isub, 1) := by decide +kernel
theorem dX5_plough_25 : decode cX5_plough 25 = .ok (.invokestatic 51, 3) := by decide +kernel
theorem dX5_plough_28 : decode cX5_plough 28 = .ok (.iastore, 1) := by decide +kernel
theorem dX5_plough_29 : decode cX5_plough 29 = .ok (.aload_n 0, 1) := by decide +kernel
theorem dX5_plough_30 : decode cX5_plough 30 = .ok (.dup, 1) := by decide +kernel
theorem dX5_plough_31 : decode cX5_plough 31 = .ok (.getfield 36, 3) := by decide +kernel
theorem dX5_plough_34 : decode cX5_plough 34 = .ok (.iconst 1, 1) := by decide +kernel
theorem dX5_plough_35 : decode cX5_plough 35 = .ok (.iload_n 1, 1) := by decide +kernel
theorem dX5_plough_36 : decode cX5_plough 36 = .ok (.ishl, 1) := by decide +kernel
theorem dX5_plough_37 : decode cX5_plough 37 = .ok (.ior, 1) := by decide +kernel
theorem dX5_plough_38 : decode cX5_plough 38 = .ok (.putfield 36, 3) := by decide +kernel
theorem dX5_plough_41 : decode cX5_plough 41 = .ok (.return_, 1) := by decide +kernel
def wX5_plough (kq : Nat) (a0 : Int32) (a1 : Int32) (a2 : Int32) (a3 : Int32) (σ : St) (Q : St → Prop) : Prop :=
  (vp_in a0 5 ∧ (vp_in a0 5 ∧ ∀ σ3 : St, σ3 = up σ (kq + 1) a0.toNatClampNeg ((σ.1 (kq + 1) a0.toNatClampNeg) - a2) → (vp_in a1 7 ∧ (∀ x5 : Int32, x5 = (if 0 < ((σ3.1 (kq + 4) a1.toNatClampNeg) - a3) then ((σ3.1 (kq + 4) a1.toNatClampNeg) - a3) else 0) → (vp_in a1 7 ∧ ∀ σ7 : St, σ7 = up σ3 (kq + 4) a1.toNatClampNeg x5 → (∀ σ8 : St, σ8 = up σ7 kq 6 ((σ7.1 kq 6) ||| (1 <<< (a0 &&& 31))) → Q σ8))))))
set_option maxHeartbeats 4000000 in
set_option maxRecDepth 100000 in
theorem tX5_plough_E {kq : Nat} {Q : St → Prop} (M : MC p s m args meth c cX5_plough 5 none RX5 Y) (hh_kq : SH Y kq) (a0 : Int32) (a1 : Int32) (a2 : Int32) (a3 : Int32) (σ : St) (H : Heap) (locs : List Loc) (ls : Array Slot) (hw : WS Y (AD Y) s.heap σ H locs) (hl : lv_has ls 5 [(0, .ref (yA Y kq)), (1, .int a0), (2, .int a1), (3, .int a2), (4, .int a3)]) (h : wX5_plough kq a0 a1 a2 a3 σ Q) : W p l e { frames := 1, cells := 0, slots := 0, locals := 21 } s m args below meth c H locs 0 0 (MQ below (QV Y Q) args s 0 0 (AD Y)) (F0 m 0 ls []) := by
  obtain ⟨hx, hb, hr, hml, hown, hlk, hT, hK, hB⟩ := id M
  unfold wX5_plough at h
  refine lv_aload_n hx hb dX5_plough_0 rfl (lv_at hl 0 rfl) ?_
  refine q_get (v := .ref (yA Y (kq + 1))) M hw (sh_ob hh_kq) rfl inq_5 0 (by decide) tw_190 rfl dX5_plough_1 ?_
  refine lv_iload_n hx hb dX5_plough_4 rfl (lv_at hl 1 rfl) ?_
  refine lv_dup2_11 hx hb dX5_plough_5 rfl rfl ?_
  have c1 := h.1
  have h := h.2
  refine q_ild M hw (sh_a1 hh_kq) c1 dX5_plough_6 ?_
  refine lv_iload_n hx hb dX5_plough_7 rfl (lv_at hl 3 rfl) ?_
  refine lv_isub hx hb dX5_plough_8 ?_
  have c2 := h.1
  refine q_ist M hw (sh_a1 hh_kq) c2 dX5_plough_9 (fun σ3 H locs es hw => ?_)
  have h := h.2 σ3 es
  refine lv_aload_n hx hb dX5_plough_10 rfl (lv_at hl 0 rfl) ?_
  refine q_get (v := .ref (yA Y (kq + 4))) M hw (sh_ob hh_kq) rfl inq_5 3 (by decide) tw_196 rfl dX5_plough_11 ?_
  refine lv_iload_n hx hb dX5_plough_14 rfl (lv_at hl 2 rfl) ?_
  refine lv_iconst (v := 0) hx hb dX5_plough_15 (by decide) ?_
  refine lv_aload_n hx hb dX5_plough_16 rfl (lv_at hl 0 rfl) ?_
  refine q_get (v := .ref (yA Y (kq + 4))) M hw (sh_ob hh_kq) rfl inq_5 3 (by decide) tw_196 rfl dX5_plough_17 ?_
  refine lv_iload_n hx hb dX5_plough_20 rfl (lv_at hl 2 rfl) ?_
  have c4 := h.1
  have h := h.2
  refine q_ild M hw (sh_a4 hh_kq) c4 dX5_plough_21 ?_
  refine lv_iload hx hb dX5_plough_22 (lv_at hl 4 rfl) ?_
  refine lv_isub hx hb dX5_plough_24 ?_
  refine va_mmax hx hb (by rw [hl.1]; exact hml) hown (hT _ tw_447) (hT _ tw_448) (hT _ tw_57) (hT _ tw_449) (Nat.le_of_ble_eq_true rfl) (Nat.le_of_ble_eq_true rfl) (Nat.le_refl _) (Nat.le_refl _) dX5_plough_25 ?_
  refine lv_topi (fun x5 ex5 => ?_)
  have h := h x5 ex5
  have c6 := h.1
  refine q_ist M hw (sh_a4 hh_kq) c6 dX5_plough_28 (fun σ7 H locs es hw => ?_)
  have h := h.2 σ7 es
  refine lv_aload_n hx hb dX5_plough_29 rfl (lv_at hl 0 rfl) ?_
  refine lv_dup hx hb dX5_plough_30 rfl ?_
  refine q_get (v := .int (σ7.1 kq 6)) M hw (sh_ob hh_kq) rfl inq_5 6 (by decide) tw_202 rfl dX5_plough_31 ?_
  refine lv_iconst (v := 1) hx hb dX5_plough_34 (by decide) ?_
  refine lv_iload_n hx hb dX5_plough_35 rfl (lv_at hl 1 rfl) ?_
  refine lv_ishl hx hb dX5_plough_36 ?_
  refine lv_ior hx hb dX5_plough_37 ?_
  refine q_put (v := ((σ7.1 kq 6) ||| (1 <<< (a0 &&& 31)))) M hw (sh_ob hh_kq) rfl inq_5 tyX5 tyX5_ok nmX5 6 (by decide) tw_202 rfl rfl rfl (Nat.le_of_ble_eq_true rfl) (by simp [up, upd, f0]) dX5_plough_38 (fun σ8 H locs es hw => ?_)
  have h := h σ8 es
  exact q_vret M hw h dX5_plough_41
set_option maxRecDepth 100000 in
theorem ctX5_plough (l : Launch) {Y : LY} {kq : Nat} (hB : YB Y) (hh_kq : SH Y kq) (a0 : Int32) (a1 : Int32) (a2 : Int32) (a3 : Int32) (σ : St) (Q : St → Prop) (h : wX5_plough kq a0 a1 a2 a3 σ Q) : CT l yX5_plough (Cond.code yX5_plough cX5_plough 5 none) { frames := 1, cells := 0, slots := 0, locals := 21 } Y [.ref (yA Y kq), .int a0, .int a1, .int a2, .int a3] σ (QV Y Q) :=
  q_ent hB (by decide +kernel) (Nat.le_of_ble_eq_true rfl) (fun p e s m below meth c ls M hw hl => tX5_plough_E M hh_kq a0 a1 a2 a3 σ _ _ ls hw hl h)
theorem mbX5_plough : MB RX5 yX5_plough cX5_plough 4 5 none := ⟨tw_444, tw_445, tw_53, tw_446, by decide +kernel⟩
end
section
variable {p : Program} {l : Launch} {e : Env} {s : State} {m : MethodId} {args : Array Value} {below : List Frame} {meth : Method} {c : Code} {Y : LY}
theorem dX5_bequeath_0 : decode cX5_bequeath 0 = .ok (.aload_n 0, 1) := by decide +kernel
theorem dX5_bequeath_1 : decode cX5_bequeath 1 = .ok (.getfield 9, 3) := by decide +kernel
theorem dX5_bequeath_4 : decode cX5_bequeath 4 = .ok (.iload_n 1, 1) := by decide +kernel
theorem dX5_bequeath_5 : decode cX5_bequeath 5 = .ok (.sipush 999, 3) := by decide +kernel
theorem dX5_bequeath_8 : decode cX5_bequeath 8 = .ok (.aload_n 0, 1) := by decide +kernel
theorem dX5_bequeath_9 : decode cX5_bequeath 9 = .ok (.getfield 9, 3) := by decide +kernel
theorem dX5_bequeath_12 : decode cX5_bequeath 12 = .ok (.iload_n 1, 1) := by decide +kernel
theorem dX5_bequeath_13 : decode cX5_bequeath 13 = .ok (.iaload, 1) := by decide +kernel
theorem dX5_bequeath_14 : decode cX5_bequeath 14 = .ok (.iload_n 2, 1) := by decide +kernel
theorem dX5_bequeath_15 : decode cX5_bequeath 15 = .ok (.iadd, 1) := by decide +kernel
theorem dX5_bequeath_16 : decode cX5_bequeath 16 = .ok (.invokestatic 61, 3) := by decide +kernel
theorem dX5_bequeath_19 : decode cX5_bequeath 19 = .ok (.iastore, 1) := by decide +kernel
theorem dX5_bequeath_20 : decode cX5_bequeath 20 = .ok (.return_, 1) := by decide +kernel
def wX5_bequeath (kq : Nat) (a0 : Int32) (a1 : Int32) (σ : St) (Q : St → Prop) : Prop :=
  (vp_in a0 5 ∧ (∀ x2 : Int32, x2 = (if ((σ.1 (kq + 1) a0.toNatClampNeg) + a1) < 999 then ((σ.1 (kq + 1) a0.toNatClampNeg) + a1) else 999) → (vp_in a0 5 ∧ ∀ σ4 : St, σ4 = up σ (kq + 1) a0.toNatClampNeg x2 → Q σ4)))
set_option maxHeartbeats 4000000 in
set_option maxRecDepth 100000 in
theorem tX5_bequeath_E {kq : Nat} {Q : St → Prop} (M : MC p s m args meth c cX5_bequeath 3 none RX5 Y) (hh_kq : SH Y kq) (a0 : Int32) (a1 : Int32) (σ : St) (H : Heap) (locs : List Loc) (ls : Array Slot) (hw : WS Y (AD Y) s.heap σ H locs) (hl : lv_has ls 3 [(0, .ref (yA Y kq)), (1, .int a0), (2, .int a1)]) (h : wX5_bequeath kq a0 a1 σ Q) : W p l e { frames := 1, cells := 0, slots := 0, locals := 21 } s m args below meth c H locs 0 0 (MQ below (QV Y Q) args s 0 0 (AD Y)) (F0 m 0 ls []) := by
  obtain ⟨hx, hb, hr, hml, hown, hlk, hT, hK, hB⟩ := id M
  unfold wX5_bequeath at h
  refine lv_aload_n hx hb dX5_bequeath_0 rfl (lv_at hl 0 rfl) ?_
  refine q_get (v := .ref (yA Y (kq + 1))) M hw (sh_ob hh_kq) rfl inq_5 0 (by decide) tw_190 rfl dX5_bequeath_1 ?_
  refine lv_iload_n hx hb dX5_bequeath_4 rfl (lv_at hl 1 rfl) ?_
  refine lv_sipush (v := 999) hx hb dX5_bequeath_5 (by decide) ?_
  refine lv_aload_n hx hb dX5_bequeath_8 rfl (lv_at hl 0 rfl) ?_
  refine q_get (v := .ref (yA Y (kq + 1))) M hw (sh_ob hh_kq) rfl inq_5 0 (by decide) tw_190 rfl dX5_bequeath_9 ?_
  refine lv_iload_n hx hb dX5_bequeath_12 rfl (lv_at hl 1 rfl) ?_
  have c1 := h.1
  have h := h.2
  refine q_ild M hw (sh_a1 hh_kq) c1 dX5_bequeath_13 ?_
  refine lv_iload_n hx hb dX5_bequeath_14 rfl (lv_at hl 2 rfl) ?_
  refine lv_iadd hx hb dX5_bequeath_15 ?_
  refine va_mmin hx hb (by rw [hl.1]; exact hml) hown (hT _ tw_486) (hT _ tw_441) (hT _ tw_57) (hT _ tw_442) (Nat.le_of_ble_eq_true rfl) (Nat.le_of_ble_eq_true rfl) (Nat.le_refl _) (Nat.le_refl _) dX5_bequeath_16 ?_
  refine lv_topi (fun x2 ex2 => ?_)
  have h := h x2 ex2
  have c3 := h.1
  refine q_ist M hw (sh_a1 hh_kq) c3 dX5_bequeath_19 (fun σ4 H locs es hw => ?_)
  have h := h.2 σ4 es
  exact q_vret M hw h dX5_bequeath_20
set_option maxRecDepth 100000 in
theorem ctX5_bequeath (l : Launch) {Y : LY} {kq : Nat} (hB : YB Y) (hh_kq : SH Y kq) (a0 : Int32) (a1 : Int32) (σ : St) (Q : St → Prop) (h : wX5_bequeath kq a0 a1 σ Q) : CT l yX5_bequeath (Cond.code yX5_bequeath cX5_bequeath 3 none) { frames := 1, cells := 0, slots := 0, locals := 21 } Y [.ref (yA Y kq), .int a0, .int a1] σ (QV Y Q) :=
  q_ent hB (by decide +kernel) (Nat.le_of_ble_eq_true rfl) (fun p e s m below meth c ls M hw hl => tX5_bequeath_E M hh_kq a0 a1 σ _ _ ls hw hl h)
theorem mbX5_bequeath : MB RX5 yX5_bequeath cX5_bequeath 2 3 none := ⟨tw_484, tw_16, tw_53, tw_485, by decide +kernel⟩
end
section
variable {p : Program} {l : Launch} {e : Env} {s : State} {m : MethodId} {args : Array Value} {below : List Frame} {meth : Method} {c : Code} {Y : LY}
theorem dX5_bury_0 : decode cX5_bury 0 = .ok (.aload_n 0, 1) := by decide +kernel
theorem dX5_bury_1 : decode cX5_bury 1 = .ok (.getfield 9, 3) := by decide +kernel
theorem dX5_bury_4 : decode cX5_bury 4 = .ok (.iload_n 1, 1) := by decide +kernel
theorem dX5_bury_5 : decode cX5_bury 5 = .ok (.iaload, 1) := by decide +kernel
theorem dX5_bury_6 : decode cX5_bury 6 = .ok (.iconst 2, 1) := by decide +kernel
theorem dX5_bury_7 : decode cX5_bury 7 = .ok (.idiv, 1) := by decide +kernel
theorem dX5_bury_8 : decode cX5_bury 8 = .ok (.istore 4, 2) := by decide +kernel
theorem dX5_bury_10 : decode cX5_bury 10 = .ok (.aload_n 0, 1) := by decide +kernel
theorem dX5_bury_11 : decode cX5_bury 11 = .ok (.iload_n 2, 1) := by decide +kernel
theorem dX5_bury_12 : decode cX5_bury 12 = .ok (.iload 4, 2) := by decide +kernel
theorem dX5_bury_14 : decode cX5_bury 14 = .ok (.invokevirtual 57, 3) := by decide +kernel
theorem dX5_bury_17 : decode cX5_bury 17 = .ok (.aload_n 0, 1) := by decide +kernel
theorem dX5_bury_18 : decode cX5_bury 18 = .ok (.iload_n 3, 1) := by decide +kernel
theorem dX5_bury_19 : decode cX5_bury 19 = .ok (.aload_n 0, 1) := by decide +kernel
theorem dX5_bury_20 : decode cX5_bury 20 = .ok (.getfield 9, 3) := by decide +kernel
theorem dX5_bury_23 : decode cX5_bury 23 = .ok (.iload_n 1, 1) := by decide +kernel
theorem dX5_bury_24 : decode cX5_bury 24 = .ok (.iaload, 1) := by decide +kernel
theorem dX5_bury_25 : decode cX5_bury 25 = .ok (.iload 4, 2) := by decide +kernel
theorem dX5_bury_27 : decode cX5_bury 27 = .ok (.isub, 1) := by decide +kernel
theorem dX5_bury_28 : decode cX5_bury 28 = .ok (.invokevirtual 57, 3) := by decide +kernel
theorem dX5_bury_31 : decode cX5_bury 31 = .ok (.aload_n 0, 1) := by decide +kernel
theorem dX5_bury_32 : decode cX5_bury 32 = .ok (.getfield 9, 3) := by decide +kernel
theorem dX5_bury_35 : decode cX5_bury 35 = .ok (.iload_n 1, 1) := by decide +kernel
theorem dX5_bury_36 : decode cX5_bury 36 = .ok (.iconst 0, 1) := by decide +kernel
theorem dX5_bury_37 : decode cX5_bury 37 = .ok (.iastore, 1) := by decide +kernel
theorem dX5_bury_38 : decode cX5_bury 38 = .ok (.iconst 0, 1) := by decide +kernel
theorem dX5_bury_39 : decode cX5_bury 39 = .ok (.istore 5, 2) := by decide +kernel
theorem dX5_bury_41 : decode cX5_bury 41 = .ok (.iload 5, 2) := by decide +kernel
theorem dX5_bury_43 : decode cX5_bury 43 = .ok (.bipush 7, 2) := by decide +kernel
theorem dX5_bury_45 : decode cX5_bury 45 = .ok (.if_icmp .ge 28, 3) := by decide +kernel
theorem dX5_bury_48 : decode cX5_bury 48 = .ok (.aload_n 0, 1) := by decide +kernel
theorem dX5_bury_49 : decode cX5_bury 49 = .ok (.getfield 18, 3) := by decide +kernel
theorem dX5_bury_52 : decode cX5_bury 52 = .ok (.iload 5, 2) := by decide +kernel
theorem dX5_bury_54 : decode cX5_bury 54 = .ok (.iaload, 1) := by decide +kernel
theorem dX5_bury_55 : decode cX5_bury 55 = .ok (.iload_n 1, 1) := by decide +kernel
theorem dX5_bury_56 : decode cX5_bury 56 = .ok (.if_icmp .ne 11, 3) := by decide +kernel
theorem dX5_bury_59 : decode cX5_bury 59 = .ok (.aload_n 0, 1) := by decide +kernel
theorem dX5_bury_60 : decode cX5_bury 60 = .ok (.getfield 18, 3) := by decide +kernel
theorem dX5_bury_63 : decode cX5_bury 63 = .ok (.iload 5, 2) := by decide +kernel
theorem dX5_bury_65 : decode cX5_bury 65 = .ok (.iload_n 3, 1) := by decide +kernel
theorem dX5_bury_66 : decode cX5_bury 66 = .ok (.iastore, 1) := by decide +kernel
theorem dX5_bury_67 : decode cX5_bury 67 = .ok (.iinc 5 1, 3) := by decide +kernel
theorem dX5_bury_70 : decode cX5_bury 70 = .ok (.goto (-29), 3) := by decide +kernel
theorem dX5_bury_73 : decode cX5_bury 73 = .ok (.aload_n 0, 1) := by decide +kernel
theorem dX5_bury_74 : decode cX5_bury 74 = .ok (.getfield 15, 3) := by decide +kernel
theorem dX5_bury_77 : decode cX5_bury 77 = .ok (.iload_n 1, 1) := by decide +kernel
theorem dX5_bury_78 : decode cX5_bury 78 = .ok (.iaload, 1) := by decide +kernel
theorem dX5_bury_79 : decode cX5_bury 79 = .ok (.bipush (-9), 2) := by decide +kernel
theorem dX5_bury_81 : decode cX5_bury 81 = .ok (.if_icmp .eq 19, 3) := by decide +kernel
theorem dX5_bury_84 : decode cX5_bury 84 = .ok (.aload_n 0, 1) := by decide +kernel
theorem dX5_bury_85 : decode cX5_bury 85 = .ok (.getfield 15, 3) := by decide +kernel
theorem dX5_bury_88 : decode cX5_bury 88 = .ok (.iload_n 3, 1) := by decide +kernel
theorem dX5_bury_89 : decode cX5_bury 89 = .ok (.bipush (-9), 2) := by decide +kernel
theorem dX5_bury_91 : decode cX5_bury 91 = .ok (.iastore, 1) := by decide +kernel
theorem dX5_bury_92 : decode cX5_bury 92 = .ok (.aload_n 0, 1) := by decide +kernel
theorem dX5_bury_93 : decode cX5_bury 93 = .ok (.getfield 15, 3) := by decide +kernel
theorem dX5_bury_96 : decode cX5_bury 96 = .ok (.iload_n 1, 1) := by decide +kernel
theorem dX5_bury_97 : decode cX5_bury 97 = .ok (.bipush (-9), 2) := by decide +kernel
theorem dX5_bury_99 : decode cX5_bury 99 = .ok (.iastore, 1) := by decide +kernel
theorem dX5_bury_100 : decode cX5_bury 100 = .ok (.aload_n 0, 1) := by decide +kernel
theorem dX5_bury_101 : decode cX5_bury 101 = .ok (.dup, 1) := by decide +kernel
theorem dX5_bury_102 : decode cX5_bury 102 = .ok (.getfield 33, 3) := by decide +kernel
theorem dX5_bury_105 : decode cX5_bury 105 = .ok (.iconst 1, 1) := by decide +kernel
theorem dX5_bury_106 : decode cX5_bury 106 = .ok (.iload_n 1, 1) := by decide +kernel
theorem dX5_bury_107 : decode cX5_bury 107 = .ok (.ishl, 1) := by decide +kernel
theorem dX5_bury_108 : decode cX5_bury 108 = .ok (.iconst (-1), 1) := by decide +kernel
theorem dX5_bury_109 : decode cX5_bury 109 = .ok (.ixor, 1) := by decide +kernel
theorem dX5_bury_110 : decode cX5_bury 110 = .ok (.iand, 1) := by decide +kernel
theorem dX5_bury_111 : decode cX5_bury 111 = .ok (.putfield 33, 3) := by decide +kernel
theorem dX5_bury_114 : decode cX5_bury 114 = .ok (.return_, 1) := by decide +kernel
def bX5_bury_67 (R_41 : Int32 × Int32 × Int32 × St → Prop) (kq : Nat) (y1 : Int32) (y3 : Int32) (y5 : Int32) (σ : St) (Q : St → Prop) : Prop :=
  (∀ x1 : Int32, x1 = y5 + 1 → R_41 (y1, y3, x1, σ))
set_option maxHeartbeats 4000000 in
set_option maxRecDepth 100000 in
theorem tX5_bury_67 {R_41 : Int32 × Int32 × Int32 × St → Prop} {kq : Nat} {Q : St → Prop} (M : MC p s m args meth c cX5_bury 6 none RX5 Y) (hh_kq : SH Y kq) (hR_41 : ∀ (y1 y3 y5 : Int32) (σ : St) (H : Heap) (locs : List Loc) (ls : Array Slot), WS Y (AD Y) s.heap σ H locs → lv_has ls 6 [(0, .ref (yA Y kq)), (1, .int y1), (3, .int y3), (5, .int y5)] → R_41 (y1, y3, y5, σ) → W p l e { frames := 2, cells := 0, slots := 0, locals := 43 } s m args below meth c H locs 0 0 (MQ below (QV Y Q) args s 0 0 (AD Y)) (F0 m 41 ls [])) (y1 : Int32) (y3 : Int32) (y5 : Int32) (σ : St) (H : Heap) (locs : List Loc) (ls : Array Slot) (hw : WS Y (AD Y) s.heap σ H locs) (hl : lv_has ls 6 [(0, .ref (yA Y kq)), (1, .int y1), (3, .int y3), (5, .int y5)]) (h : bX5_bury_67 R_41 kq y1 y3 y5 σ Q) : W p l e { frames := 2, cells := 0, slots := 0, locals := 43 } s m args below meth c H locs 0 0 (MQ below (QV Y Q) args s 0 0 (AD Y)) (F0 m 67 ls []) := by
  obtain ⟨hx, hb, hr, hml, hown, hlk, hT, hK, hB⟩ := id M
  unfold bX5_bury_67 at h
  obtain ⟨x1, ex1⟩ : ∃ y : Int32, y = y5 + 1 := ⟨_, rfl⟩
  have h := h x1 ex1
  refine lv_iinc (v := x1) (lv' := [(5, .int x1), (0, .ref (yA Y kq)), (1, .int y1), (3, .int y3)]) hx hb dX5_bury_67 hl (k := 3) rfl (by rw [ex1]; rfl) (by decide) rfl (fun ls hl => ?_)
  refine lv_goto (tgt := 41) hx hb dX5_bury_70 (by decide) ?_
  exact hR_41 y1 y3 x1 σ _ _ _ hw (lv_sub hl [1, 2, 3, 0] rfl) h
def bX5_bury_100 (kq : Nat) (y1 : Int32) (σ : St) (Q : St → Prop) : Prop :=
  (∀ σ1 : St, σ1 = up σ kq 5 ((σ.1 kq 5) &&& ((1 <<< (y1 &&& 31)) ^^^ (-1))) → Q σ1)
set_option maxHeartbeats 4000000 in
set_option maxRecDepth 100000 in
theorem tX5_bury_100 {kq : Nat} {Q : St → Prop} (M : MC p s m args meth c cX5_bury 6 none RX5 Y) (hh_kq : SH Y kq) (y1 : Int32) (σ : St) (H : Heap) (locs : List Loc) (ls : Array Slot) (hw : WS Y (AD Y) s.heap σ H locs) (hl : lv_has ls 6 [(0, .ref (yA Y kq)), (1, .int y1)]) (h : bX5_bury_100 kq y1 σ Q) : W p l e { frames := 2, cells := 0, slots := 0, locals := 43 } s m args below meth c H locs 0 0 (MQ below (QV Y Q) args s 0 0 (AD Y)) (F0 m 100 ls []) := by
  obtain ⟨hx, hb, hr, hml, hown, hlk, hT, hK, hB⟩ := id M
  unfold bX5_bury_100 at h
  refine lv_aload_n hx hb dX5_bury_100 rfl (lv_at hl 0 rfl) ?_
  refine lv_dup hx hb dX5_bury_101 rfl ?_
  refine q_get (v := .int (σ.1 kq 5)) M hw (sh_ob hh_kq) rfl inq_5 5 (by decide) tw_200 rfl dX5_bury_102 ?_
  refine lv_iconst (v := 1) hx hb dX5_bury_105 (by decide) ?_
  refine lv_iload_n hx hb dX5_bury_106 rfl (lv_at hl 1 rfl) ?_
  refine lv_ishl hx hb dX5_bury_107 ?_
  refine lv_iconst (v := (-1)) hx hb dX5_bury_108 (by decide) ?_
  refine lv_ixor hx hb dX5_bury_109 ?_
  refine lv_iand hx hb dX5_bury_110 ?_
  refine q_put (v := ((σ.1 kq 5) &&& ((1 <<< (y1 &&& 31)) ^^^ (-1)))) M hw (sh_ob hh_kq) rfl inq_5 tyX5 tyX5_ok nmX5 5 (by decide) tw_200 rfl rfl rfl (Nat.le_of_ble_eq_true rfl) (by simp [up, upd, f0]) dX5_bury_111 (fun σ1 H locs es hw => ?_)
  have h := h σ1 es
  exact q_vret M hw h dX5_bury_114
def bX5_bury_41 (R_41 : Int32 × Int32 × Int32 × St → Prop) (kq : Nat) (y1 : Int32) (y3 : Int32) (y5 : Int32) (σ : St) (Q : St → Prop) : Prop :=
  ((7 ≤ y5 → (vp_in y1 5 ∧ (((σ.1 (kq + 2) y1.toNatClampNeg) = (-9) → bX5_bury_100 kq y1 σ Q) ∧ (¬ (σ.1 (kq + 2) y1.toNatClampNeg) = (-9) → (vp_in y3 5 ∧ ∀ σ5 : St, σ5 = up σ (kq + 2) y3.toNatClampNeg (-9) → (vp_in y1 5 ∧ ∀ σ7 : St, σ7 = up σ5 (kq + 2) y1.toNatClampNeg (-9) → bX5_bury_100 kq y1 σ7 Q)))))) ∧ (¬ 7 ≤ y5 → (vp_in y5 7 ∧ (((σ.1 (kq + 3) y5.toNatClampNeg) = y1 → (vp_in y5 7 ∧ ∀ σ11 : St, σ11 = up σ (kq + 3) y5.toNatClampNeg y3 → bX5_bury_67 R_41 kq y1 y3 y5 σ11 Q)) ∧ (¬ (σ.1 (kq + 3) y5.toNatClampNeg) = y1 → bX5_bury_67 R_41 kq y1 y3 y5 σ Q)))))
set_option maxHeartbeats 4000000 in
set_option maxRecDepth 100000 in
theorem tX5_bury_41 {R_41 : Int32 × Int32 × Int32 × St → Prop} {kq : Nat} {Q : St → Prop} (M : MC p s m args meth c cX5_bury 6 none RX5 Y) (hh_kq : SH Y kq) (hR_41 : ∀ (y1 y3 y5 : Int32) (σ : St) (H : Heap) (locs : List Loc) (ls : Array Slot), WS Y (AD Y) s.heap σ H locs → lv_has ls 6 [(0, .ref (yA Y kq)), (1, .int y1), (3, .int y3), (5, .int y5)] → R_41 (y1, y3, y5, σ) → W p l e { frames := 2, cells := 0, slots := 0, locals := 43 } s m args below meth c H locs 0 0 (MQ below (QV Y Q) args s 0 0 (AD Y)) (F0 m 41 ls [])) (y1 : Int32) (y3 : Int32) (y5 : Int32) (σ : St) (H : Heap) (locs : List Loc) (ls : Array Slot) (hw : WS Y (AD Y) s.heap σ H locs) (hl : lv_has ls 6 [(0, .ref (yA Y kq)), (1, .int y1), (3, .int y3), (5, .int y5)]) (h : bX5_bury_41 R_41 kq y1 y3 y5 σ Q) : W p l e { frames := 2, cells := 0, slots := 0, locals := 43 } s m args below meth c H locs 0 0 (MQ below (QV Y Q) args s 0 0 (AD Y)) (F0 m 41 ls []) := by
  obtain ⟨hx, hb, hr, hml, hown, hlk, hT, hK, hB⟩ := id M
  unfold bX5_bury_41 at h
  refine lv_iload hx hb dX5_bury_41 (lv_at hl 3 rfl) ?_
  refine lv_bipush (v := 7) hx hb dX5_bury_43 (by decide) ?_
  refine lv_icmp_ge (tgt := 73) hx hb dX5_bury_45 (by decide) (fun c1 => ?_) (fun c1 => ?_)
  · have h := h.1 c1
    refine lv_aload_n hx hb dX5_bury_73 rfl (lv_at hl 0 rfl) ?_
    refine q_get (v := .ref (yA Y (kq + 2))) M hw (sh_ob hh_kq) rfl inq_5 1 (by decide) tw_192 rfl dX5_bury_74 ?_
    refine lv_iload_n hx hb dX5_bury_77 rfl (lv_at hl 1 rfl) ?_
    have c2 := h.1
    have h := h.2
    refine q_ild M hw (sh_a2 hh_kq) c2 dX5_bury_78 ?_
    refine lv_bipush (v := (-9)) hx hb dX5_bury_79 (by decide) ?_
    refine lv_icmp_eq (tgt := 100) hx hb dX5_bury_81 (by decide) (fun c3 => ?_) (fun c3 => ?_)
    · have h := h.1 c3
      exact tX5_bury_100 M hh_kq y1 σ _ _ _ hw (lv_sub hl [0, 1] rfl) h
    · have h := h.2 c3
      refine lv_aload_n hx hb dX5_bury_84 rfl (lv_at hl 0 rfl) ?_
      refine q_get (v := .ref (yA Y (kq + 2))) M hw (sh_ob hh_kq) rfl inq_5 1 (by decide) tw_192 rfl dX5_bury_85 ?_
      refine lv_iload_n hx hb dX5_bury_88 rfl (lv_at hl 2 rfl) ?_
      refine lv_bipush (v := (-9)) hx hb dX5_bury_89 (by decide) ?_
      have c4 := h.1
      refine q_ist M hw (sh_a2 hh_kq) c4 dX5_bury_91 (fun σ5 H locs es hw => ?_)
      have h := h.2 σ5 es
      refine lv_aload_n hx hb dX5_bury_92 rfl (lv_at hl 0 rfl) ?_
      refine q_get (v := .ref (yA Y (kq + 2))) M hw (sh_ob hh_kq) rfl inq_5 1 (by decide) tw_192 rfl dX5_bury_93 ?_
      refine lv_iload_n hx hb dX5_bury_96 rfl (lv_at hl 1 rfl) ?_
      refine lv_bipush (v := (-9)) hx hb dX5_bury_97 (by decide) ?_
      have c6 := h.1
      refine q_ist M hw (sh_a2 hh_kq) c6 dX5_bury_99 (fun σ7 H locs es hw => ?_)
      have h := h.2 σ7 es
      exact tX5_bury_100 M hh_kq y1 σ7 _ _ _ hw (lv_sub hl [0, 1] rfl) h
  · have h := h.2 c1
    refine lv_aload_n hx hb dX5_bury_48 rfl (lv_at hl 0 rfl) ?_
    refine q_get (v := .ref (yA Y (kq + 3))) M hw (sh_ob hh_kq) rfl inq_5 2 (by decide) tw_194 rfl dX5_bury_49 ?_
    refine lv_iload hx hb dX5_bury_52 (lv_at hl 3 rfl) ?_
    have c8 := h.1
    have h := h.2
    refine q_ild M hw (sh_a3 hh_kq) c8 dX5_bury_54 ?_
    refine lv_iload_n hx hb dX5_bury_55 rfl (lv_at hl 1 rfl) ?_
    refine lv_icmp_ne (tgt := 67) hx hb dX5_bury_56 (by decide) (fun c9 => ?_) (fun c9 => ?_)
    · have h := h.2 c9
      exact tX5_bury_67 M hh_kq hR_41 y1 y3 y5 σ _ _ _ hw (lv_sub hl [0, 1, 2, 3] rfl) h
    · have h := h.1 c9
      refine lv_aload_n hx hb dX5_bury_59 rfl (lv_at hl 0 rfl) ?_
      refine q_get (v := .ref (yA Y (kq + 3))) M hw (sh_ob hh_kq) rfl inq_5 2 (by decide) tw_194 rfl dX5_bury_60 ?_
      refine lv_iload hx hb dX5_bury_63 (lv_at hl 3 rfl) ?_
      refine lv_iload_n hx hb dX5_bury_65 rfl (lv_at hl 2 rfl) ?_
      have c10 := h.1
      refine q_ist M hw (sh_a3 hh_kq) c10 dX5_bury_66 (fun σ11 H locs es hw => ?_)
      have h := h.2 σ11 es
      exact tX5_bury_67 M hh_kq hR_41 y1 y3 y5 σ11 _ _ _ hw (lv_sub hl [0, 1, 2, 3] rfl) h
def lX5_bury_41 (kq : Nat) (Q : St → Prop) : (Int32 × Int32 × Int32 × St → Prop) → Int32 × Int32 × Int32 × St → Prop := fun R a => bX5_bury_41 R kq a.1 a.2.1 a.2.2.1 a.2.2.2 Q
theorem tlX5_bury_41 {kq : Nat} {Q : St → Prop} (M : MC p s m args meth c cX5_bury 6 none RX5 Y) (hh_kq : SH Y kq) (n : Nat) : ∀ (y1 : Int32) (y3 : Int32) (y5 : Int32) (σ : St) (H : Heap) (locs : List Loc) (ls : Array Slot) (hw : WS Y (AD Y) s.heap σ H locs) (hl : lv_has ls 6 [(0, .ref (yA Y kq)), (1, .int y1), (3, .int y3), (5, .int y5)]) (h : Lp (lX5_bury_41 kq Q) n (y1, y3, y5, σ)), W p l e { frames := 2, cells := 0, slots := 0, locals := 43 } s m args below meth c H locs 0 0 (MQ below (QV Y Q) args s 0 0 (AD Y)) (F0 m 41 ls []) := by
  induction n with
  | zero => intro y1 y3 y5 σ H locs ls hw hl h; exact h.elim
  | succ n ih =>
    intro y1 y3 y5 σ H locs ls hw hl h
    exact tX5_bury_41 M hh_kq ih y1 y3 y5 σ H locs ls hw hl h
def wX5_bury (kq : Nat) (a0 : Int32) (a1 : Int32) (a2 : Int32) (σ : St) (Q : St → Prop) : Prop :=
  (vp_in a0 5 ∧ (∀ x2 : Int32, x2 = ((σ.1 (kq + 1) a0.toNatClampNeg) / 2) → wX5_bequeath kq a1 x2 σ (fun σ3 => (vp_in a0 5 ∧ wX5_bequeath kq a2 ((σ3.1 (kq + 1) a0.toNatClampNeg) - x2) σ3 (fun σ5 => (vp_in a0 5 ∧ ∀ σ7 : St, σ7 = up σ5 (kq + 1) a0.toNatClampNeg 0 → ∃ n : Nat, Lp (lX5_bury_41 kq Q) n (a0, a2, 0, σ7)))))))
set_option maxHeartbeats 4000000 in
set_option maxRecDepth 100000 in
theorem tX5_bury_E {kq : Nat} {Q : St → Prop} (M : MC p s m args meth c cX5_bury 6 none RX5 Y) (hh_kq : SH Y kq) (a0 : Int32) (a1 : Int32) (a2 : Int32) (σ : St) (H : Heap) (locs : List Loc) (ls : Array Slot) (hw : WS Y (AD Y) s.heap σ H locs) (hl : lv_has ls 6 [(0, .ref (yA Y kq)), (1, .int a0), (2, .int a1), (3, .int a2)]) (h : wX5_bury kq a0 a1 a2 σ Q) : W p l e { frames := 2, cells := 0, slots := 0, locals := 43 } s m args below meth c H locs 0 0 (MQ below (QV Y Q) args s 0 0 (AD Y)) (F0 m 0 ls []) := by
  obtain ⟨hx, hb, hr, hml, hown, hlk, hT, hK, hB⟩ := id M
  unfold wX5_bury at h
  refine lv_aload_n hx hb dX5_bury_0 rfl (lv_at hl 0 rfl) ?_
  refine q_get (v := .ref (yA Y (kq + 1))) M hw (sh_ob hh_kq) rfl inq_5 0 (by decide) tw_190 rfl dX5_bury_1 ?_
  refine lv_iload_n hx hb dX5_bury_4 rfl (lv_at hl 1 rfl) ?_
  have c1 := h.1
  have h := h.2
  refine q_ild M hw (sh_a1 hh_kq) c1 dX5_bury_5 ?_
  refine lv_iconst (v := 2) hx hb dX5_bury_6 (by decide) ?_
  refine lv_idiv hx hb dX5_bury_7 (by decide) ?_
  refine lv_topi (fun x2 ex2 => ?_)
  have h := h x2 ex2
  refine lv_istore (lv' := [(4, .int x2), (0, .ref (yA Y kq)), (1, .int a0), (2, .int a1), (3, .int a2)]) hx hb dX5_bury_8 hl (by decide) rfl (fun ls hl => ?_)
  refine lv_aload_n hx hb dX5_bury_10 rfl (lv_at hl 1 rfl) ?_
  refine lv_iload_n hx hb dX5_bury_11 rfl (lv_at hl 3 rfl) ?_
  refine lv_iload hx hb dX5_bury_12 (lv_at hl 0 rfl) ?_
  refine q_goV hw (q_runV (rest := []) M hw (ctX5_bequeath l hB hh_kq a1 x2 σ _ h) mbX5_bequeath (sh_ob hh_kq) rfl tw_482 rfl hl.1 rfl (Nat.le_of_ble_eq_true rfl) ⟨Nat.le_of_ble_eq_true rfl, Nat.le_of_ble_eq_true rfl⟩ ⟨Nat.le_refl _, Nat.le_refl _⟩ dX5_bury_14) (fun σ3 H locs h hw => ?_)
  refine lv_aload_n hx hb dX5_bury_17 rfl (lv_at hl 1 rfl) ?_
  refine lv_iload_n hx hb dX5_bury_18 rfl (lv_at hl 4 rfl) ?_
  refine lv_aload_n hx hb dX5_bury_19 rfl (lv_at hl 1 rfl) ?_
  refine q_get (v := .ref (yA Y (kq + 1))) M hw (sh_ob hh_kq) rfl inq_5 0 (by decide) tw_190 rfl dX5_bury_20 ?_
  refine lv_iload_n hx hb dX5_bury_23 rfl (lv_at hl 2 rfl) ?_
  have c4 := h.1
  have h := h.2
  refine q_ild M hw (sh_a1 hh_kq) c4 dX5_bury_24 ?_
  refine lv_iload hx hb dX5_bury_25 (lv_at hl 0 rfl) ?_
  refine lv_isub hx hb dX5_bury_27 ?_
  refine q_goV hw (q_runV (rest := []) M hw (ctX5_bequeath l hB hh_kq a2 ((σ3.1 (kq + 1) a0.toNatClampNeg) - x2) σ3 _ h) mbX5_bequeath (sh_ob hh_kq) rfl tw_482 rfl hl.1 rfl (Nat.le_of_ble_eq_true rfl) ⟨Nat.le_of_ble_eq_true rfl, Nat.le_of_ble_eq_true rfl⟩ ⟨Nat.le_refl _, Nat.le_refl _⟩ dX5_bury_28) (fun σ5 H locs h hw => ?_)
  refine lv_aload_n hx hb dX5_bury_31 rfl (lv_at hl 1 rfl) ?_
  refine q_get (v := .ref (yA Y (kq + 1))) M hw (sh_ob hh_kq) rfl inq_5 0 (by decide) tw_190 rfl dX5_bury_32 ?_
  refine lv_iload_n hx hb dX5_bury_35 rfl (lv_at hl 2 rfl) ?_
  refine lv_iconst (v := 0) hx hb dX5_bury_36 (by decide) ?_
  have c6 := h.1
  refine q_ist M hw (sh_a1 hh_kq) c6 dX5_bury_37 (fun σ7 H locs es hw => ?_)
  have h := h.2 σ7 es
  refine lv_iconst (v := 0) hx hb dX5_bury_38 (by decide) ?_
  refine lv_istore (lv' := [(5, .int 0), (4, .int x2), (0, .ref (yA Y kq)), (1, .int a0), (2, .int a1), (3, .int a2)]) hx hb dX5_bury_39 hl (by decide) rfl (fun ls hl => ?_)
  obtain ⟨n, h⟩ := h
  exact tlX5_bury_41 M hh_kq n a0 a2 0 σ7 _ _ _ hw (lv_sub hl [2, 3, 5, 0] rfl) h
set_option maxRecDepth 100000 in
theorem ctX5_bury (l : Launch) {Y : LY} {kq : Nat} (hB : YB Y) (hh_kq : SH Y kq) (a0 : Int32) (a1 : Int32) (a2 : Int32) (σ : St) (Q : St → Prop) (h : wX5_bury kq a0 a1 a2 σ Q) : CT l yX5_bury (Cond.code yX5_bury cX5_bury 6 none) { frames := 2, cells := 0, slots := 0, locals := 43 } Y [.ref (yA Y kq), .int a0, .int a1, .int a2] σ (QV Y Q) :=
  q_ent hB (by decide +kernel) (Nat.le_of_ble_eq_true rfl) (fun p e s m below meth c ls M hw hl => tX5_bury_E M hh_kq a0 a1 a2 σ _ _ ls hw hl h)
theorem mbX5_bury : MB RX5 yX5_bury cX5_bury 3 6 none := ⟨tw_479, tw_480, tw_53, tw_481, by decide +kernel⟩
end
end
