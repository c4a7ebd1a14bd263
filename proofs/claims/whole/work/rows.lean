section
-- ===== PART A: goes FIRST, ahead of the names: the tables' words, and 'selects' of the private methods out of them =====
/-- a private method of a class that the tables say can be made, by its rows of tables_1 -/
def lw_okq (q : MethodName × Nat) : Prop := (q.1.cls ≠ "java/lang/invoke/MethodHandle" ∧ q.1.cls ≠ "java/lang/invoke/VarHandle") ∧ Cond.instantiable q.1.cls q.2 ∈ tables_1 ∧ Cond.privateMethod q.1 ∈ tables_1 ∧ Cond.instanceMethod q.1 ∈ tables_1
theorem lw_p0 : lw_okq (⟨"FloodCity$Reader", "nextToken", "()V"⟩, 10) := ⟨⟨by decide +kernel, by decide +kernel⟩, List.mem_of_getElem? (i := 181) (by decide +kernel), List.mem_of_getElem? (i := 313) (by decide +kernel), List.mem_of_getElem? (i := 314) (by decide +kernel)⟩
theorem lw_p1 : lw_okq (⟨"FloodCity$Reader", "takeWord", "()V"⟩, 10) := ⟨⟨by decide +kernel, by decide +kernel⟩, List.mem_of_getElem? (i := 181) (by decide +kernel), List.mem_of_getElem? (i := 320) (by decide +kernel), List.mem_of_getElem? (i := 321) (by decide +kernel)⟩
theorem lw_p2 : lw_okq (⟨"FloodCity$Reader", "spells", "(Ljava/lang/String;)Z"⟩, 10) := ⟨⟨by decide +kernel, by decide +kernel⟩, List.mem_of_getElem? (i := 181) (by decide +kernel), List.mem_of_getElem? (i := 325) (by decide +kernel), List.mem_of_getElem? (i := 326) (by decide +kernel)⟩
theorem lw_p3 : lw_okq (⟨"FloodCity$Reader", "takeNumber", "()V"⟩, 10) := ⟨⟨by decide +kernel, by decide +kernel⟩, List.mem_of_getElem? (i := 181) (by decide +kernel), List.mem_of_getElem? (i := 344) (by decide +kernel), List.mem_of_getElem? (i := 345) (by decide +kernel)⟩
theorem lw_p4 : lw_okq (⟨"FloodCity$Reader", "expect", "(I)V"⟩, 10) := ⟨⟨by decide +kernel, by decide +kernel⟩, List.mem_of_getElem? (i := 181) (by decide +kernel), List.mem_of_getElem? (i := 351) (by decide +kernel), List.mem_of_getElem? (i := 352) (by decide +kernel)⟩
theorem lw_p5 : lw_okq (⟨"FloodCity$Reader", "fail", "()V"⟩, 10) := ⟨⟨by decide +kernel, by decide +kernel⟩, List.mem_of_getElem? (i := 181) (by decide +kernel), List.mem_of_getElem? (i := 355) (by decide +kernel), List.mem_of_getElem? (i := 356) (by decide +kernel)⟩
theorem lw_p6 : lw_okq (⟨"FloodCity$Reader", "readLevel", "(II)V"⟩, 10) := ⟨⟨by decide +kernel, by decide +kernel⟩, List.mem_of_getElem? (i := 181) (by decide +kernel), List.mem_of_getElem? (i := 359) (by decide +kernel), List.mem_of_getElem? (i := 360) (by decide +kernel)⟩
theorem lw_p7 : lw_okq (⟨"FloodCity$Reader", "readOpened", "(II)V"⟩, 10) := ⟨⟨by decide +kernel, by decide +kernel⟩, List.mem_of_getElem? (i := 181) (by decide +kernel), List.mem_of_getElem? (i := 363) (by decide +kernel), List.mem_of_getElem? (i := 364) (by decide +kernel)⟩
theorem lw_p8 : lw_okq (⟨"FloodCity$Reader", "put", "(I)V"⟩, 10) := ⟨⟨by decide +kernel, by decide +kernel⟩, List.mem_of_getElem? (i := 181) (by decide +kernel), List.mem_of_getElem? (i := 367) (by decide +kernel), List.mem_of_getElem? (i := 368) (by decide +kernel)⟩
theorem lw_p9 : lw_okq (⟨"FloodCity$Reader", "readLeaf", "()V"⟩, 10) := ⟨⟨by decide +kernel, by decide +kernel⟩, List.mem_of_getElem? (i := 181) (by decide +kernel), List.mem_of_getElem? (i := 371) (by decide +kernel), List.mem_of_getElem? (i := 372) (by decide +kernel)⟩
theorem lw_p10 : lw_okq (⟨"FloodCity", "isNoZone", "(I)Z"⟩, 9) := ⟨⟨by decide +kernel, by decide +kernel⟩, List.mem_of_getElem? (i := 22) (by decide +kernel), List.mem_of_getElem? (i := 568) (by decide +kernel), List.mem_of_getElem? (i := 569) (by decide +kernel)⟩
theorem lw_p11 : lw_okq (⟨"FloodCity", "isNoGoal", "(I)Z"⟩, 9) := ⟨⟨by decide +kernel, by decide +kernel⟩, List.mem_of_getElem? (i := 22) (by decide +kernel), List.mem_of_getElem? (i := 572) (by decide +kernel), List.mem_of_getElem? (i := 573) (by decide +kernel)⟩
theorem lw_p12 : lw_okq (⟨"FloodCity", "isNoRoad", "(I)Z"⟩, 9) := ⟨⟨by decide +kernel, by decide +kernel⟩, List.mem_of_getElem? (i := 22) (by decide +kernel), List.mem_of_getElem? (i := 584) (by decide +kernel), List.mem_of_getElem? (i := 585) (by decide +kernel)⟩
theorem lw_p13 : lw_okq (⟨"FloodCity", "isNoShelter", "(I)Z"⟩, 9) := ⟨⟨by decide +kernel, by decide +kernel⟩, List.mem_of_getElem? (i := 22) (by decide +kernel), List.mem_of_getElem? (i := 596) (by decide +kernel), List.mem_of_getElem? (i := 597) (by decide +kernel)⟩
theorem lw_p14 : lw_okq (⟨"FloodCity$Storm", "teller", "(III)I"⟩, 12) := ⟨⟨by decide +kernel, by decide +kernel⟩, List.mem_of_getElem? (i := 121) (by decide +kernel), List.mem_of_getElem? (i := 666) (by decide +kernel), List.mem_of_getElem? (i := 667) (by decide +kernel)⟩
theorem lw_p15 : lw_okq (⟨"FloodCity$Hours", "setOut", "(LFloodCity$Folk;I)V"⟩, 7) := ⟨⟨by decide +kernel, by decide +kernel⟩, List.mem_of_getElem? (i := 438) (by decide +kernel), List.mem_of_getElem? (i := 734) (by decide +kernel), List.mem_of_getElem? (i := 735) (by decide +kernel)⟩
def lw_privs_1 : List (MethodName × Nat) := [(⟨"FloodCity$Reader", "nextToken", "()V"⟩, 10), (⟨"FloodCity$Reader", "takeWord", "()V"⟩, 10), (⟨"FloodCity$Reader", "spells", "(Ljava/lang/String;)Z"⟩, 10), (⟨"FloodCity$Reader", "takeNumber", "()V"⟩, 10), (⟨"FloodCity$Reader", "expect", "(I)V"⟩, 10), (⟨"FloodCity$Reader", "fail", "()V"⟩, 10), (⟨"FloodCity$Reader", "readLevel", "(II)V"⟩, 10), (⟨"FloodCity$Reader", "readOpened", "(II)V"⟩, 10), (⟨"FloodCity$Reader", "put", "(I)V"⟩, 10), (⟨"FloodCity$Reader", "readLeaf", "()V"⟩, 10), (⟨"FloodCity", "isNoZone", "(I)Z"⟩, 9), (⟨"FloodCity", "isNoGoal", "(I)Z"⟩, 9), (⟨"FloodCity", "isNoRoad", "(I)Z"⟩, 9), (⟨"FloodCity", "isNoShelter", "(I)Z"⟩, 9), (⟨"FloodCity$Storm", "teller", "(III)I"⟩, 12), (⟨"FloodCity$Hours", "setOut", "(LFloodCity$Folk;I)V"⟩, 7)]
theorem lw_r1 : ∀ q ∈ lw_privs_1, lw_okq q := List.forall_mem_cons.mpr ⟨lw_p0, List.forall_mem_cons.mpr ⟨lw_p1, List.forall_mem_cons.mpr ⟨lw_p2, List.forall_mem_cons.mpr ⟨lw_p3, List.forall_mem_cons.mpr ⟨lw_p4, List.forall_mem_cons.mpr ⟨lw_p5, List.forall_mem_cons.mpr ⟨lw_p6, List.forall_mem_cons.mpr ⟨lw_p7, List.forall_mem_cons.mpr ⟨lw_p8, List.forall_mem_cons.mpr ⟨lw_p9, List.forall_mem_cons.mpr ⟨lw_p10, List.forall_mem_cons.mpr ⟨lw_p11, List.forall_mem_cons.mpr ⟨lw_p12, List.forall_mem_cons.mpr ⟨lw_p13, List.forall_mem_cons.mpr ⟨lw_p14, List.forall_mem_cons.mpr ⟨lw_p15, fun _ h => absurd h List.not_mem_nil⟩⟩⟩⟩⟩⟩⟩⟩⟩⟩⟩⟩⟩⟩⟩⟩
theorem lw_p16 : lw_okq (⟨"FloodCity$Hours", "chooseMoving", "(LFloodCity$Folk;I)V"⟩, 7) := ⟨⟨by decide +kernel, by decide +kernel⟩, List.mem_of_getElem? (i := 438) (by decide +kernel), List.mem_of_getElem? (i := 744) (by decide +kernel), List.mem_of_getElem? (i := 745) (by decide +kernel)⟩
theorem lw_p17 : lw_okq (⟨"FloodCity$Hours", "move", "(LFloodCity$Folk;)V"⟩, 7) := ⟨⟨by decide +kernel, by decide +kernel⟩, List.mem_of_getElem? (i := 438) (by decide +kernel), List.mem_of_getElem? (i := 750) (by decide +kernel), List.mem_of_getElem? (i := 751) (by decide +kernel)⟩
theorem lw_p18 : lw_okq (⟨"FloodCity$Hours", "board", "(LFloodCity$Folk;I)V"⟩, 7) := ⟨⟨by decide +kernel, by decide +kernel⟩, List.mem_of_getElem? (i := 438) (by decide +kernel), List.mem_of_getElem? (i := 754) (by decide +kernel), List.mem_of_getElem? (i := 755) (by decide +kernel)⟩
theorem lw_p19 : lw_okq (⟨"FloodCity$Hours", "freeBuses", "(LFloodCity$Folk;)V"⟩, 7) := ⟨⟨by decide +kernel, by decide +kernel⟩, List.mem_of_getElem? (i := 438) (by decide +kernel), List.mem_of_getElem? (i := 758) (by decide +kernel), List.mem_of_getElem? (i := 759) (by decide +kernel)⟩
theorem lw_p20 : lw_okq (⟨"FloodCity$Forecast", "settled", "(I)I"⟩, 8) := ⟨⟨by decide +kernel, by decide +kernel⟩, List.mem_of_getElem? (i := 467) (by decide +kernel), List.mem_of_getElem? (i := 786) (by decide +kernel), List.mem_of_getElem? (i := 787) (by decide +kernel)⟩
theorem lw_p21 : lw_okq (⟨"FloodCity$Forecast", "plan", "(II)I"⟩, 8) := ⟨⟨by decide +kernel, by decide +kernel⟩, List.mem_of_getElem? (i := 467) (by decide +kernel), List.mem_of_getElem? (i := 809) (by decide +kernel), List.mem_of_getElem? (i := 810) (by decide +kernel)⟩
theorem lw_p22 : lw_okq (⟨"FloodCity$Forecast", "worst", "(I)I"⟩, 8) := ⟨⟨by decide +kernel, by decide +kernel⟩, List.mem_of_getElem? (i := 467) (by decide +kernel), List.mem_of_getElem? (i := 813) (by decide +kernel), List.mem_of_getElem? (i := 814) (by decide +kernel)⟩
theorem lw_p23 : lw_okq (⟨"FloodCityModel", "isZone", "(I)Z"⟩, 75) := ⟨⟨by decide +kernel, by decide +kernel⟩, List.mem_of_getElem? (i := 893) (by decide +kernel), List.mem_of_getElem? (i := 891) (by decide +kernel), List.mem_of_getElem? (i := 892) (by decide +kernel)⟩
theorem lw_p24 : lw_okq (⟨"FloodCityModel", "isGoal", "(I)Z"⟩, 75) := ⟨⟨by decide +kernel, by decide +kernel⟩, List.mem_of_getElem? (i := 893) (by decide +kernel), List.mem_of_getElem? (i := 896) (by decide +kernel), List.mem_of_getElem? (i := 897) (by decide +kernel)⟩
theorem lw_p25 : lw_okq (⟨"FloodCityModel", "isShelter", "(I)Z"⟩, 75) := ⟨⟨by decide +kernel, by decide +kernel⟩, List.mem_of_getElem? (i := 893) (by decide +kernel), List.mem_of_getElem? (i := 900) (by decide +kernel), List.mem_of_getElem? (i := 901) (by decide +kernel)⟩
theorem lw_p26 : lw_okq (⟨"FloodCityModel", "isRoad", "(I)Z"⟩, 75) := ⟨⟨by decide +kernel, by decide +kernel⟩, List.mem_of_getElem? (i := 893) (by decide +kernel), List.mem_of_getElem? (i := 909) (by decide +kernel), List.mem_of_getElem? (i := 910) (by decide +kernel)⟩
theorem lw_p27 : lw_okq (⟨"FloodCityModel", "isWet", "(III)Z"⟩, 75) := ⟨⟨by decide +kernel, by decide +kernel⟩, List.mem_of_getElem? (i := 893) (by decide +kernel), List.mem_of_getElem? (i := 927) (by decide +kernel), List.mem_of_getElem? (i := 928) (by decide +kernel)⟩
theorem lw_p28 : lw_okq (⟨"FloodCityModel", "roomLeft", "(I)I"⟩, 75) := ⟨⟨by decide +kernel, by decide +kernel⟩, List.mem_of_getElem? (i := 893) (by decide +kernel), List.mem_of_getElem? (i := 935) (by decide +kernel), List.mem_of_getElem? (i := 936) (by decide +kernel)⟩
theorem lw_p29 : lw_okq (⟨"FloodCityModel", "canTake", "(III)I"⟩, 75) := ⟨⟨by decide +kernel, by decide +kernel⟩, List.mem_of_getElem? (i := 893) (by decide +kernel), List.mem_of_getElem? (i := 943) (by decide +kernel), List.mem_of_getElem? (i := 944) (by decide +kernel)⟩
theorem lw_p30 : lw_okq (⟨"FloodCityModel", "isBus", "(I)Z"⟩, 75) := ⟨⟨by decide +kernel, by decide +kernel⟩, List.mem_of_getElem? (i := 893) (by decide +kernel), List.mem_of_getElem? (i := 951) (by decide +kernel), List.mem_of_getElem? (i := 952) (by decide +kernel)⟩
theorem lw_p31 : lw_okq (⟨"FloodCityModel", "knownOf", "(IIIZ)I"⟩, 75) := ⟨⟨by decide +kernel, by decide +kernel⟩, List.mem_of_getElem? (i := 893) (by decide +kernel), List.mem_of_getElem? (i := 981) (by decide +kernel), List.mem_of_getElem? (i := 982) (by decide +kernel)⟩
def lw_privs_2 : List (MethodName × Nat) := [(⟨"FloodCity$Hours", "chooseMoving", "(LFloodCity$Folk;I)V"⟩, 7), (⟨"FloodCity$Hours", "move", "(LFloodCity$Folk;)V"⟩, 7), (⟨"FloodCity$Hours", "board", "(LFloodCity$Folk;I)V"⟩, 7), (⟨"FloodCity$Hours", "freeBuses", "(LFloodCity$Folk;)V"⟩, 7), (⟨"FloodCity$Forecast", "settled", "(I)I"⟩, 8), (⟨"FloodCity$Forecast", "plan", "(II)I"⟩, 8), (⟨"FloodCity$Forecast", "worst", "(I)I"⟩, 8), (⟨"FloodCityModel", "isZone", "(I)Z"⟩, 75), (⟨"FloodCityModel", "isGoal", "(I)Z"⟩, 75), (⟨"FloodCityModel", "isShelter", "(I)Z"⟩, 75), (⟨"FloodCityModel", "isRoad", "(I)Z"⟩, 75), (⟨"FloodCityModel", "isWet", "(III)Z"⟩, 75), (⟨"FloodCityModel", "roomLeft", "(I)I"⟩, 75), (⟨"FloodCityModel", "canTake", "(III)I"⟩, 75), (⟨"FloodCityModel", "isBus", "(I)Z"⟩, 75), (⟨"FloodCityModel", "knownOf", "(IIIZ)I"⟩, 75)]
theorem lw_r2 : ∀ q ∈ lw_privs_2, lw_okq q := List.forall_mem_cons.mpr ⟨lw_p16, List.forall_mem_cons.mpr ⟨lw_p17, List.forall_mem_cons.mpr ⟨lw_p18, List.forall_mem_cons.mpr ⟨lw_p19, List.forall_mem_cons.mpr ⟨lw_p20, List.forall_mem_cons.mpr ⟨lw_p21, List.forall_mem_cons.mpr ⟨lw_p22, List.forall_mem_cons.mpr ⟨lw_p23, List.forall_mem_cons.mpr ⟨lw_p24, List.forall_mem_cons.mpr ⟨lw_p25, List.forall_mem_cons.mpr ⟨lw_p26, List.forall_mem_cons.mpr ⟨lw_p27, List.forall_mem_cons.mpr ⟨lw_p28, List.forall_mem_cons.mpr ⟨lw_p29, List.forall_mem_cons.mpr ⟨lw_p30, List.forall_mem_cons.mpr ⟨lw_p31, fun _ h => absurd h List.not_mem_nil⟩⟩⟩⟩⟩⟩⟩⟩⟩⟩⟩⟩⟩⟩⟩⟩
theorem lw_p32 : lw_okq (⟨"FloodCityModel", "readAll", "(I)I"⟩, 75) := ⟨⟨by decide +kernel, by decide +kernel⟩, List.mem_of_getElem? (i := 893) (by decide +kernel), List.mem_of_getElem? (i := 994) (by decide +kernel), List.mem_of_getElem? (i := 995) (by decide +kernel)⟩
theorem lw_p33 : lw_okq (⟨"FloodCityModel", "next", "()V"⟩, 75) := ⟨⟨by decide +kernel, by decide +kernel⟩, List.mem_of_getElem? (i := 893) (by decide +kernel), List.mem_of_getElem? (i := 998) (by decide +kernel), List.mem_of_getElem? (i := 999) (by decide +kernel)⟩
theorem lw_p34 : lw_okq (⟨"FloodCityModel", "isLetter", "(I)Z"⟩, 75) := ⟨⟨by decide +kernel, by decide +kernel⟩, List.mem_of_getElem? (i := 893) (by decide +kernel), List.mem_of_getElem? (i := 1002) (by decide +kernel), List.mem_of_getElem? (i := 1003) (by decide +kernel)⟩
theorem lw_p35 : lw_okq (⟨"FloodCityModel", "readWord", "()V"⟩, 75) := ⟨⟨by decide +kernel, by decide +kernel⟩, List.mem_of_getElem? (i := 893) (by decide +kernel), List.mem_of_getElem? (i := 1006) (by decide +kernel), List.mem_of_getElem? (i := 1007) (by decide +kernel)⟩
theorem lw_p36 : lw_okq (⟨"FloodCityModel", "isDigit", "(I)Z"⟩, 75) := ⟨⟨by decide +kernel, by decide +kernel⟩, List.mem_of_getElem? (i := 893) (by decide +kernel), List.mem_of_getElem? (i := 1010) (by decide +kernel), List.mem_of_getElem? (i := 1011) (by decide +kernel)⟩
theorem lw_p37 : lw_okq (⟨"FloodCityModel", "readNumber", "()V"⟩, 75) := ⟨⟨by decide +kernel, by decide +kernel⟩, List.mem_of_getElem? (i := 893) (by decide +kernel), List.mem_of_getElem? (i := 1014) (by decide +kernel), List.mem_of_getElem? (i := 1015) (by decide +kernel)⟩
theorem lw_p38 : lw_okq (⟨"FloodCityModel", "isKey", "(I)Z"⟩, 75) := ⟨⟨by decide +kernel, by decide +kernel⟩, List.mem_of_getElem? (i := 893) (by decide +kernel), List.mem_of_getElem? (i := 1018) (by decide +kernel), List.mem_of_getElem? (i := 1019) (by decide +kernel)⟩
theorem lw_p39 : lw_okq (⟨"FloodCityModel", "readE", "(I)Z"⟩, 75) := ⟨⟨by decide +kernel, by decide +kernel⟩, List.mem_of_getElem? (i := 893) (by decide +kernel), List.mem_of_getElem? (i := 1022) (by decide +kernel), List.mem_of_getElem? (i := 1023) (by decide +kernel)⟩
theorem lw_p40 : lw_okq (⟨"FloodCityModel", "emit", "(I)V"⟩, 75) := ⟨⟨by decide +kernel, by decide +kernel⟩, List.mem_of_getElem? (i := 893) (by decide +kernel), List.mem_of_getElem? (i := 1026) (by decide +kernel), List.mem_of_getElem? (i := 1027) (by decide +kernel)⟩
theorem lw_p41 : lw_okq (⟨"FloodCityModel", "doAll", "(I)V"⟩, 75) := ⟨⟨by decide +kernel, by decide +kernel⟩, List.mem_of_getElem? (i := 893) (by decide +kernel), List.mem_of_getElem? (i := 1030) (by decide +kernel), List.mem_of_getElem? (i := 1031) (by decide +kernel)⟩
theorem lw_p42 : lw_okq (⟨"FloodCityModel", "isSign", "(I)Z"⟩, 75) := ⟨⟨by decide +kernel, by decide +kernel⟩, List.mem_of_getElem? (i := 893) (by decide +kernel), List.mem_of_getElem? (i := 1037) (by decide +kernel), List.mem_of_getElem? (i := 1038) (by decide +kernel)⟩
theorem lw_p43 : lw_okq (⟨"FloodCityModel", "ahead", "(Z)Z"⟩, 75) := ⟨⟨by decide +kernel, by decide +kernel⟩, List.mem_of_getElem? (i := 893) (by decide +kernel), List.mem_of_getElem? (i := 1041) (by decide +kernel), List.mem_of_getElem? (i := 1042) (by decide +kernel)⟩
theorem lw_p44 : lw_okq (⟨"FloodCityModel", "await", "(I)V"⟩, 75) := ⟨⟨by decide +kernel, by decide +kernel⟩, List.mem_of_getElem? (i := 893) (by decide +kernel), List.mem_of_getElem? (i := 1045) (by decide +kernel), List.mem_of_getElem? (i := 1046) (by decide +kernel)⟩
theorem lw_p45 : lw_okq (⟨"FloodCityModel", "between", "()Z"⟩, 75) := ⟨⟨by decide +kernel, by decide +kernel⟩, List.mem_of_getElem? (i := 893) (by decide +kernel), List.mem_of_getElem? (i := 1049) (by decide +kernel), List.mem_of_getElem? (i := 1050) (by decide +kernel)⟩
theorem lw_p46 : lw_okq (⟨"FloodCityModel", "closes", "()Z"⟩, 75) := ⟨⟨by decide +kernel, by decide +kernel⟩, List.mem_of_getElem? (i := 893) (by decide +kernel), List.mem_of_getElem? (i := 1053) (by decide +kernel), List.mem_of_getElem? (i := 1054) (by decide +kernel)⟩
theorem lw_p47 : lw_okq (⟨"FloodCityModel", "worthOf", "(IIII)I"⟩, 75) := ⟨⟨by decide +kernel, by decide +kernel⟩, List.mem_of_getElem? (i := 893) (by decide +kernel), List.mem_of_getElem? (i := 1065) (by decide +kernel), List.mem_of_getElem? (i := 1066) (by decide +kernel)⟩
def lw_privs_3 : List (MethodName × Nat) := [(⟨"FloodCityModel", "readAll", "(I)I"⟩, 75), (⟨"FloodCityModel", "next", "()V"⟩, 75), (⟨"FloodCityModel", "isLetter", "(I)Z"⟩, 75), (⟨"FloodCityModel", "readWord", "()V"⟩, 75), (⟨"FloodCityModel", "isDigit", "(I)Z"⟩, 75), (⟨"FloodCityModel", "readNumber", "()V"⟩, 75), (⟨"FloodCityModel", "isKey", "(I)Z"⟩, 75), (⟨"FloodCityModel", "readE", "(I)Z"⟩, 75), (⟨"FloodCityModel", "emit", "(I)V"⟩, 75), (⟨"FloodCityModel", "doAll", "(I)V"⟩, 75), (⟨"FloodCityModel", "isSign", "(I)Z"⟩, 75), (⟨"FloodCityModel", "ahead", "(Z)Z"⟩, 75), (⟨"FloodCityModel", "await", "(I)V"⟩, 75), (⟨"FloodCityModel", "between", "()Z"⟩, 75), (⟨"FloodCityModel", "closes", "()Z"⟩, 75), (⟨"FloodCityModel", "worthOf", "(IIII)I"⟩, 75)]
theorem lw_r3 : ∀ q ∈ lw_privs_3, lw_okq q := List.forall_mem_cons.mpr ⟨lw_p32, List.forall_mem_cons.mpr ⟨lw_p33, List.forall_mem_cons.mpr ⟨lw_p34, List.forall_mem_cons.mpr ⟨lw_p35, List.forall_mem_cons.mpr ⟨lw_p36, List.forall_mem_cons.mpr ⟨lw_p37, List.forall_mem_cons.mpr ⟨lw_p38, List.forall_mem_cons.mpr ⟨lw_p39, List.forall_mem_cons.mpr ⟨lw_p40, List.forall_mem_cons.mpr ⟨lw_p41, List.forall_mem_cons.mpr ⟨lw_p42, List.forall_mem_cons.mpr ⟨lw_p43, List.forall_mem_cons.mpr ⟨lw_p44, List.forall_mem_cons.mpr ⟨lw_p45, List.forall_mem_cons.mpr ⟨lw_p46, List.forall_mem_cons.mpr ⟨lw_p47, fun _ h => absurd h List.not_mem_nil⟩⟩⟩⟩⟩⟩⟩⟩⟩⟩⟩⟩⟩⟩⟩⟩
theorem lw_p48 : lw_okq (⟨"FloodCityModel", "nameOf", "(IIII)I"⟩, 75) := ⟨⟨by decide +kernel, by decide +kernel⟩, List.mem_of_getElem? (i := 893) (by decide +kernel), List.mem_of_getElem? (i := 1069) (by decide +kernel), List.mem_of_getElem? (i := 1070) (by decide +kernel)⟩
theorem lw_p49 : lw_okq (⟨"FloodCityModel", "wasWet", "(III)Z"⟩, 75) := ⟨⟨by decide +kernel, by decide +kernel⟩, List.mem_of_getElem? (i := 893) (by decide +kernel), List.mem_of_getElem? (i := 1317) (by decide +kernel), List.mem_of_getElem? (i := 1318) (by decide +kernel)⟩
theorem lw_p50 : lw_okq (⟨"FloodCityModel", "step", "(I)V"⟩, 75) := ⟨⟨by decide +kernel, by decide +kernel⟩, List.mem_of_getElem? (i := 893) (by decide +kernel), List.mem_of_getElem? (i := 1325) (by decide +kernel), List.mem_of_getElem? (i := 1326) (by decide +kernel)⟩
theorem lw_p51 : lw_okq (⟨"FloodCityModel", "leave", "(I)V"⟩, 75) := ⟨⟨by decide +kernel, by decide +kernel⟩, List.mem_of_getElem? (i := 893) (by decide +kernel), List.mem_of_getElem? (i := 1329) (by decide +kernel), List.mem_of_getElem? (i := 1330) (by decide +kernel)⟩
theorem lw_p52 : lw_okq (⟨"FloodCityModel", "move", "(I)V"⟩, 75) := ⟨⟨by decide +kernel, by decide +kernel⟩, List.mem_of_getElem? (i := 893) (by decide +kernel), List.mem_of_getElem? (i := 1335) (by decide +kernel), List.mem_of_getElem? (i := 1336) (by decide +kernel)⟩
theorem lw_p53 : lw_okq (⟨"FloodCityModel", "ride", "(I)V"⟩, 75) := ⟨⟨by decide +kernel, by decide +kernel⟩, List.mem_of_getElem? (i := 893) (by decide +kernel), List.mem_of_getElem? (i := 1339) (by decide +kernel), List.mem_of_getElem? (i := 1340) (by decide +kernel)⟩
theorem lw_p54 : lw_okq (⟨"FloodCityModel", "inWaterOf", "(I)I"⟩, 75) := ⟨⟨by decide +kernel, by decide +kernel⟩, List.mem_of_getElem? (i := 893) (by decide +kernel), List.mem_of_getElem? (i := 1347) (by decide +kernel), List.mem_of_getElem? (i := 1348) (by decide +kernel)⟩
theorem lw_p55 : lw_okq (⟨"FloodCityModel", "takeCalls", "(J)Z"⟩, 75) := ⟨⟨by decide +kernel, by decide +kernel⟩, List.mem_of_getElem? (i := 893) (by decide +kernel), List.mem_of_getElem? (i := 1355) (by decide +kernel), List.mem_of_getElem? (i := 1356) (by decide +kernel)⟩
theorem lw_p56 : lw_okq (⟨"FloodCityModel", "played", "(I)I"⟩, 75) := ⟨⟨by decide +kernel, by decide +kernel⟩, List.mem_of_getElem? (i := 893) (by decide +kernel), List.mem_of_getElem? (i := 1360) (by decide +kernel), List.mem_of_getElem? (i := 1361) (by decide +kernel)⟩
theorem lw_p57 : lw_okq (⟨"FloodCityModel", "keepAll", "()V"⟩, 75) := ⟨⟨by decide +kernel, by decide +kernel⟩, List.mem_of_getElem? (i := 893) (by decide +kernel), List.mem_of_getElem? (i := 1364) (by decide +kernel), List.mem_of_getElem? (i := 1365) (by decide +kernel)⟩
theorem lw_p58 : lw_okq (⟨"FloodCityModel", "bringBack", "()V"⟩, 75) := ⟨⟨by decide +kernel, by decide +kernel⟩, List.mem_of_getElem? (i := 893) (by decide +kernel), List.mem_of_getElem? (i := 1368) (by decide +kernel), List.mem_of_getElem? (i := 1369) (by decide +kernel)⟩
theorem lw_p59 : lw_okq (⟨"FloodCityModel", "mayAsk", "(I)Z"⟩, 75) := ⟨⟨by decide +kernel, by decide +kernel⟩, List.mem_of_getElem? (i := 893) (by decide +kernel), List.mem_of_getElem? (i := 1376) (by decide +kernel), List.mem_of_getElem? (i := 1377) (by decide +kernel)⟩
theorem lw_p60 : lw_okq (⟨"FloodCityModel", "choose", "(III)I"⟩, 75) := ⟨⟨by decide +kernel, by decide +kernel⟩, List.mem_of_getElem? (i := 893) (by decide +kernel), List.mem_of_getElem? (i := 1383) (by decide +kernel), List.mem_of_getElem? (i := 1384) (by decide +kernel)⟩
theorem lw_p61 : lw_okq (⟨"FloodCityModel", "worst", "()I"⟩, 75) := ⟨⟨by decide +kernel, by decide +kernel⟩, List.mem_of_getElem? (i := 893) (by decide +kernel), List.mem_of_getElem? (i := 1387) (by decide +kernel), List.mem_of_getElem? (i := 1388) (by decide +kernel)⟩
def lw_privs_4 : List (MethodName × Nat) := [(⟨"FloodCityModel", "nameOf", "(IIII)I"⟩, 75), (⟨"FloodCityModel", "wasWet", "(III)Z"⟩, 75), (⟨"FloodCityModel", "step", "(I)V"⟩, 75), (⟨"FloodCityModel", "leave", "(I)V"⟩, 75), (⟨"FloodCityModel", "move", "(I)V"⟩, 75), (⟨"FloodCityModel", "ride", "(I)V"⟩, 75), (⟨"FloodCityModel", "inWaterOf", "(I)I"⟩, 75), (⟨"FloodCityModel", "takeCalls", "(J)Z"⟩, 75), (⟨"FloodCityModel", "played", "(I)I"⟩, 75), (⟨"FloodCityModel", "keepAll", "()V"⟩, 75), (⟨"FloodCityModel", "bringBack", "()V"⟩, 75), (⟨"FloodCityModel", "mayAsk", "(I)Z"⟩, 75), (⟨"FloodCityModel", "choose", "(III)I"⟩, 75), (⟨"FloodCityModel", "worst", "()I"⟩, 75)]
theorem lw_r4 : ∀ q ∈ lw_privs_4, lw_okq q := List.forall_mem_cons.mpr ⟨lw_p48, List.forall_mem_cons.mpr ⟨lw_p49, List.forall_mem_cons.mpr ⟨lw_p50, List.forall_mem_cons.mpr ⟨lw_p51, List.forall_mem_cons.mpr ⟨lw_p52, List.forall_mem_cons.mpr ⟨lw_p53, List.forall_mem_cons.mpr ⟨lw_p54, List.forall_mem_cons.mpr ⟨lw_p55, List.forall_mem_cons.mpr ⟨lw_p56, List.forall_mem_cons.mpr ⟨lw_p57, List.forall_mem_cons.mpr ⟨lw_p58, List.forall_mem_cons.mpr ⟨lw_p59, List.forall_mem_cons.mpr ⟨lw_p60, List.forall_mem_cons.mpr ⟨lw_p61, fun _ h => absurd h List.not_mem_nil⟩⟩⟩⟩⟩⟩⟩⟩⟩⟩⟩⟩⟩⟩
def lw_privs : List (MethodName × Nat) := lw_privs_1 ++ (lw_privs_2 ++ (lw_privs_3 ++ (lw_privs_4)))
def lw_tbl : List Cond := k2_sels lw_privs ++ tables_1
theorem lw_privs_ok : ∀ q ∈ lw_privs, lw_okq q := by
  show ∀ q ∈ lw_privs_1 ++ (lw_privs_2 ++ (lw_privs_3 ++ (lw_privs_4))), lw_okq q
  exact List.forall_mem_append.mpr ⟨lw_r1, List.forall_mem_append.mpr ⟨lw_r2, List.forall_mem_append.mpr ⟨lw_r3, lw_r4⟩⟩⟩
end
section
def va_AOA (ty : FieldType) (U : State) : Prop := (Cond.arrayOver (.array ty)).before #[] U = true
theorem va_AOA.use {ty : FieldType} {A : Array Value} {U : State} (h : va_AOA ty U) : (Cond.arrayOver (.array ty)).before A U = true := h
/-! ===== BEGIN words of one list among another's, by their places ===== -/
theorem goodIn_r {big : List Cond} (ws : List Cond) (ps : List Nat) (hp : ws = ps.filterMap (fun i => big[i]?)) (h : ws.all goodWord = true) : GoodIn big ws := by
  intro w hw
  have h1 := List.all_eq_true.mp h w hw
  rw [hp] at hw
  obtain ⟨i, -, hi⟩ := List.mem_filterMap.mp hw
  have hm : w ∈ big := by first | exact List.mem_of_getElem? hi | exact List.getElem?_mem hi
  exact ⟨hm, good_of_word h1⟩
theorem goodIn_app {big a b : List Cond} (ha : GoodIn big a) (hb : GoodIn big b) : GoodIn big (a ++ b) := fun w h => (List.mem_append.mp h).elim (ha w) (hb w)
theorem goodIn_ca {big a b : List Cond} {c : Cond} (ha : GoodIn big (c :: a)) (hb : GoodIn big b) : GoodIn big (c :: (a ++ b)) := fun w h => (List.mem_cons.mp h).elim (fun e => ha w (List.mem_cons.mpr (Or.inl e))) (fun h => (List.mem_append.mp h).elim (fun h => ha w (List.mem_cons.mpr (Or.inr h))) (hb w))
theorem goodIn_sub {big ws : List Cond} (hm : ∀ w ∈ ws, w ∈ big) (h : ws.all goodWord = true) : GoodIn big ws := fun w hw => ⟨hm w hw, good_of_word (List.all_eq_true.mp h w hw)⟩
/-! ===== END ===== -/

/-! ===== BEGIN new T[n][m]: the outer array a place, the inner ones among the pooled ===== -/
/-- f, but v at every address of l -/
def vr_up {α : Type} (f : Nat → α) (l : List Nat) (v : α) : Nat → α := fun a => if a ∈ l then v else f a
theorem vr_up_in {α : Type} {f : Nat → α} {l : List Nat} {v : α} {a : Nat} (h : a ∈ l) : vr_up f l v a = v := if_pos h
theorem vr_up_ne {α : Type} {f : Nat → α} {l : List Nat} {v : α} {a : Nat} (h : a ∉ l) : vr_up f l v a = f a := if_neg h
theorem vr_rows {L l : List Nat} {f : Nat → va_E} {e : va_E} (h : ∀ a, a ∈ l → a ∉ L) : va_pl L f ++ l.map (fun a => (a, e)) = va_pl (L ++ l) (vr_up f l e) := by
  unfold va_pl
  rw [List.map_append]
  congr 1
  · apply List.map_congr_left
    intro a ha
    rw [vr_up_ne (fun q => h a q ha)]
  · apply List.map_congr_left
    intro a ha
    rw [vr_up_in ha]
theorem vr_lay {X rows : va_W} {x : Nat × va_E} {pl : va_W} {D : va_G} {cl : List vw_C} {H : Heap} (hP : va_P D cl (((X ++ pl) ++ [x]) ++ rows) H) : va_P D cl ((X ++ [x]) ++ (pl ++ rows)) H := by
  rw [List.append_assoc (X ++ pl)] at hP
  have h := va_P.swap hP
  rw [← List.append_assoc X] at h
  have h2 := va_P.swap h
  rw [List.append_assoc (X ++ [x])] at h2
  exact h2
theorem vr_layD {X rows : va_W} {x : Nat × va_E} {pl : va_W} {A : Nat → Prop} (hD : va_D A (((X ++ pl) ++ [x]) ++ rows)) : va_D A ((X ++ [x]) ++ (pl ++ rows)) := by
  rw [List.append_assoc (X ++ pl)] at hD
  have h := va_D.swap hD
  rw [← List.append_assoc X] at h
  have h2 := va_D.swap h
  rw [List.append_assoc (X ++ [x])] at h2
  exact h2
theorem vr_outer (c : ClassId) (N h0 : Nat) : ∀ i : Nat, Jvm.Free.Multi.outerC c N h0 i = arrV c N (fun j => va_rf (if j < i then some (h0 + 1 + j) else none))
  | 0 => by
    show ({ cls := c, slots := Array.replicate N .null, vm := .none } : Cell) = _
    rw [arrV_new]
    refine congrArg (arrV c N) (funext fun j => ?_)
    simp [va_rf]
  | i + 1 => by
    show (Jvm.Free.Multi.outerC c N h0 i).setSlot i (.ref (h0 + 1 + i)) = _
    rw [vr_outer c N h0 i, arrV_store]
    refine congrArg (arrV c N) (funext fun j => ?_)
    by_cases e : j = i
    · subst e
      simp [updV, va_rf]
    · by_cases h : j < i
      · simp [updV, e, h, Nat.lt_succ_of_lt h]
      · simp [updV, e, h, show ¬ j < i + 1 by omega]
section VGM
variable {p : Program} {l : Launch} {e : Env} {R : Room} {s : State} {m : MethodId} {args : Array Value} {below : List Frame} {meth : Method} {c : Code} {H : Heap} {locs : List Loc} {cells slots : Nat} {Q : State → Prop}
variable {cc : ByteArray} {pc : Nat} {ls : Array Slot} {rest : List Value} {D : va_G} {cl : List vw_C} {A : Nat → Prop} {a : Nat} {tys : List (ClassId × FieldType)} {ws : va_W} {H0 : Heap}
theorem va_mna {X : va_W} {L : List Nat} {f : Nat → va_E} {cc : ByteArray} (hexec : p.tables.exec = Jvm.exec) (hb : c.code = cc) {own : String} {index : Nat} {ty : FieldType} {cy : ClassId} (hown : s.vm.findClass own = some m.cls) (hclink : (Cond.classLink own index ("[" ++ (FieldType.array ty).toString)).before args s = true) (hover : va_AOA ty s) (harr : (Cond.arrayClass ty).before args s = true) (hcy : s.vm.findClass (FieldType.array ty).toString = some cy)
    (hK : va_K D cl tys s) (hP : va_P D cl (X ++ va_pl L f) H) (hD : va_D A (X ++ va_pl L f)) (hS : va_S A H0 H locs) (hA : ∀ q, H0.size ≤ q → A q) {n k : Int32} {N' K' : Nat} {z : vp_A} (hn : ¬ n < 0) (hk : ¬ k < 0) (hN : n.toNatClampNeg = N') (hM : k.toNatClampNeg = K')
    (hb1 : N' * 4 ≤ 536870912) (hb2 : K' * componentBytes ty ≤ 536870912) (hb3 : K' ≤ 536870912) (hdf : fits ty (defaultValue ty) = true) (hdd : (defaultValue ty).isDefault = true) (hcells : cells + (1 + N') ≤ R.cells) (hslots : slots + (N' + N' * K') ≤ R.slots) (hz : ∀ c : ClassId, Jvm.Free.Multi.innerC c K' (defaultValue ty) = vp_cell c z) (hdg : decode cc pc = .ok (.multianewarray index 2, 4))
    (kk : ∀ (q : Nat) (r : Nat → Nat) (cA : ClassId) (H1 : Heap), (∀ i j : Nat, i < N' → j < N' → r i = r j → i = j) → (∀ i : Nat, i < N' → r i ∉ L) → va_K D cl (tys ++ [(cA, .array ty)]) s →
      va_P D cl ((X ++ [(q, .inl (cA, N', .inr (.inr (.inr (.inr (fun i => if i < N' then some (r i) else none))))))]) ++ va_pl (L ++ (List.range N').map r) (vr_up f ((List.range N').map r) (.inl (cy, z)))) H1 → va_D A ((X ++ [(q, .inl (cA, N', .inr (.inr (.inr (.inr (fun i => if i < N' then some (r i) else none))))))]) ++ va_pl (L ++ (List.range N').map r) (vr_up f ((List.range N').map r) (.inl (cy, z)))) → va_S A H0 H1 locs →
      W p l e R s m args below meth c H1 locs (cells + 1 + N') (slots + N' + N' * K') Q (F0 m (pc + 4) ls (.ref q :: rest))) : W p l e R s m args below meth c H locs cells slots Q (F0 m pc ls (.int k :: .int n :: rest)) := by
  subst hN
  subst hM
  intro T hT Xs
  obtain ⟨vm₁, cA, comp, -, fA, fC, hO, -, X', step⟩ := Xs.multianewarray2F hexec hown hclink (va_AOA.use hover) harr (g := F0 m pc ls (.int k :: .int n :: rest)) rfl (by rw [hb]; exact hdg) rfl hn hk hb1 hb2 hb3 hdf hdd hcells hslots
  have ec : some cy = some comp := hcy.symm.trans fC
  cases ec
  generalize hF : Jvm.Free.Multi.fill (T.setVm vm₁) cA cy n.toNatClampNeg k.toNatClampNeg (defaultValue ty) n.toNatClampNeg = F at X' step
  have hTh : (T.setVm vm₁).heap = H := hT
  obtain ⟨f1, f2, -, -⟩ := Jvm.Free.Multi.fill_facts (T.setVm vm₁) cA cy n.toNatClampNeg k.toNatClampNeg (defaultValue ty) n.toNatClampNeg
  rw [hF, hTh] at f1 f2
  have hold : ∀ x : Nat, x < H.size → F.heap[x]? = H[x]? := fun x hx => by
    have := Jvm.Free.Multi.fill_old (T.setVm vm₁) cA cy n.toNatClampNeg k.toNatClampNeg (defaultValue ty) (a := x) (by rw [hTh]; exact hx) n.toNatClampNeg
    rw [hF, hTh] at this
    exact this
  have hrow : ∀ j : Nat, j < n.toNatClampNeg → F.heap[H.size + 1 + j]? = some (vp_cell cy z) := fun j hj => by
    have := Jvm.Free.Multi.fill_inner (T.setVm vm₁) cA cy n.toNatClampNeg k.toNatClampNeg (defaultValue ty) n.toNatClampNeg j hj
    rw [hF, hTh, hz] at this
    exact this
  have hout : Jvm.Free.Multi.outerC cA n.toNatClampNeg H.size n.toNatClampNeg = vp_cell cA (n.toNatClampNeg, .inr (.inr (.inr (.inr (fun i => if i < n.toNatClampNeg then some (H.size + 1 + i) else none))))) := by
    rw [vp_cell_q]
    exact vr_outer cA n.toNatClampNeg H.size n.toNatClampNeg
  rw [hout] at f2
  have hlt : ∀ a, a ∈ L → a < H.size := fun a ha => by
    obtain ⟨k9, hk9⟩ := va_pl_get (X := X) (f := f) ha
    exact (hP k9 _ hk9).lt
  have hnl : ∀ i : Nat, i < n.toNatClampNeg → H.size + 1 + i ∉ L := fun i _ h => by
    have := hlt _ h
    omega
  have hnm : ∀ a, a ∈ (List.range n.toNatClampNeg).map (fun i => H.size + 1 + i) → a ∉ L := fun a ha h => by
    obtain ⟨i, -, rfl⟩ := List.mem_map.mp ha
    have := hlt _ h
    omega
  have hP0 : va_P D cl (X ++ va_pl L f) F.heap := hP.kept (fun k9 x hx => hold x.1 ((hP k9 x hx).lt))
  have hP1 : va_P D cl ((X ++ va_pl L f) ++ [(H.size, .inl (cA, n.toNatClampNeg, .inr (.inr (.inr (.inr (fun i => if i < n.toNatClampNeg then some (H.size + 1 + i) else none))))))]) F.heap := hP0.app (fun k9 x hx => by
    have h0 : k9 < 1 := (List.getElem?_eq_some_iff.mp hx).1
    rw [show k9 = 0 by omega] at hx
    cases hx
    exact f2)
  have hP2 : va_P D cl (((X ++ va_pl L f) ++ [(H.size, .inl (cA, n.toNatClampNeg, .inr (.inr (.inr (.inr (fun i => if i < n.toNatClampNeg then some (H.size + 1 + i) else none))))))]) ++ ((List.range n.toNatClampNeg).map (fun i => H.size + 1 + i)).map (fun a => (a, .inl (cy, z)))) F.heap := hP1.app (fun k9 x hx => by
    obtain ⟨a, ha, rfl⟩ := List.mem_map.mp (List.mem_of_getElem? hx)
    obtain ⟨i, hi, rfl⟩ := List.mem_map.mp ha
    exact hrow i (List.mem_range.mp hi))
  have hD2 : va_D A (((X ++ va_pl L f) ++ [(H.size, .inl (cA, n.toNatClampNeg, .inr (.inr (.inr (.inr (fun i => if i < n.toNatClampNeg then some (H.size + 1 + i) else none))))))]) ++ ((List.range n.toNatClampNeg).map (fun i => H.size + 1 + i)).map (fun a => (a, .inl (cy, z)))) := by
    have hD1 := hD.push (e := .inl (cA, n.toNatClampNeg, .inr (.inr (.inr (.inr (fun i => if i < n.toNatClampNeg then some (H.size + 1 + i) else none)))))) hP rfl (hA _ hS.1)
    generalize hW1 : (X ++ va_pl L f) ++ [(H.size, .inl (cA, n.toNatClampNeg, .inr (.inr (.inr (.inr (fun i => if i < n.toNatClampNeg then some (H.size + 1 + i) else none))))))] = W1 at hD1 hP1 ⊢
    have hle : ∀ (k9 : Nat) (x : Nat × va_E), W1[k9]? = some x → x.1 ≤ H.size := fun k9 x hx => by
      rw [← hW1] at hx
      by_cases hl : k9 < (X ++ va_pl L f).length
      · rw [List.getElem?_append_left hl] at hx
        exact Nat.le_of_lt ((hP k9 x hx).lt)
      · rw [List.getElem?_append_right (by omega)] at hx
        have h0 : k9 - (X ++ va_pl L f).length < 1 := (List.getElem?_eq_some_iff.mp hx).1
        rw [show k9 - (X ++ va_pl L f).length = 0 by omega] at hx
        cases hx
        exact Nat.le_refl _
    have hr : ∀ (k9 : Nat) (x : Nat × va_E), (((List.range n.toNatClampNeg).map (fun i => H.size + 1 + i)).map (fun a => ((a, .inl (cy, z)) : Nat × va_E)))[k9]? = some x → x.1 = H.size + 1 + k9 := fun k9 x hx => by
      rw [List.getElem?_map, List.getElem?_map] at hx
      by_cases h9 : k9 < n.toNatClampNeg
      · rw [List.getElem?_range h9] at hx
        cases hx
        rfl
      · have hn0 : (List.range n.toNatClampNeg)[k9]? = none := List.getElem?_eq_none (by rw [List.length_range]; omega)
        rw [hn0] at hx
        cases hx
    refine ⟨fun i j x y hi hj hxy => ?_, fun k9 x hx => ?_⟩
    · by_cases h1 : i < W1.length <;> by_cases h2 : j < W1.length
      · rw [List.getElem?_append_left h1] at hi
        rw [List.getElem?_append_left h2] at hj
        exact hD1.1 i j x y hi hj hxy
      · rw [List.getElem?_append_left h1] at hi
        rw [List.getElem?_append_right (by omega)] at hj
        have := hle _ _ hi
        have := hr _ _ hj
        omega
      · rw [List.getElem?_append_right (by omega)] at hi
        rw [List.getElem?_append_left h2] at hj
        have := hle _ _ hj
        have := hr _ _ hi
        omega
      · rw [List.getElem?_append_right (by omega)] at hi hj
        have := hr _ _ hi
        have := hr _ _ hj
        omega
    · by_cases h1 : k9 < W1.length
      · rw [List.getElem?_append_left h1] at hx
        exact hD1.2 k9 x hx
      · rw [List.getElem?_append_right (by omega)] at hx
        have := hr _ _ hx
        exact hA _ (by have := hS.1; omega)
  have hAr : ArrOfT s cA (.array ty) := fun N9 z9 => by
    obtain ⟨-, k9, hk9, cm9, hkk9⟩ := (hO 0 0 0).1
    exact ⟨(fun q hq => by cases hq), k9, hk9, cm9, hkk9⟩
  have hK2 : va_K D cl (tys ++ [(cA, .array ty)]) s := ⟨hK.1, fun k9 x hx => by
    by_cases hl : k9 < tys.length
    · rw [List.getElem?_append_left hl] at hx
      exact hK.2 k9 x hx
    · rw [List.getElem?_append_right (by omega)] at hx
      have h0 : k9 - tys.length < 1 := (List.getElem?_eq_some_iff.mp hx).1
      rw [show k9 - tys.length = 0 by omega] at hx
      cases hx
      exact ⟨hAr, fA⟩⟩
  obtain ⟨t, a1, b1⟩ := kk H.size (fun i => H.size + 1 + i) cA F.heap (fun i j _ _ h => by have h9 : H.size + 1 + i = H.size + 1 + j := h; omega) hnl hK2 (by rw [← vr_rows hnm]; exact vr_lay hP2) (by rw [← vr_rows hnm]; exact vr_layD hD2) ⟨by rw [f1]; have := hS.1; omega, fun x h1 h2 => (hold x (Nat.lt_of_lt_of_le h1 hS.1)).trans (hS.2.1 x h1 h2), hS.2.2⟩ F rfl X'
  refine ⟨t, step t ?_, b1⟩
  have e : T.heap.size = H.size := by rw [hT]
  rw [e]
  exact a1
end VGM
/-! ===== END ===== -/

def RX0 : String := "FloodCity$Book"
def TX0 : u_T := fun k => match k with
  | 0 => ("FloodCity$Book", "tape", "[B", true)
  | 1 => ("FloodCity$Book", "codes", "[[I", true)
  | 2 => ("FloodCity$Book", "heedEnd", "[I", true)
  | 3 => ("FloodCity$Book", "stopEnd", "[I", true)
  | 4 => ("FloodCity$Book", "stack", "[I", true)
  | 5 => ("FloodCity$Book", "reader", "LFloodCity$Reader;", true)
  | 6 => ("FloodCity$Book", "tapeSize", "I", false)
  | 7 => ("FloodCity$Book", "count", "I", false)
  | _ => ("FloodCity$Book", "rule", "I", false)
def tyX0 : Nat → FieldType := fun k => match k with
  | 0 => .array .byte
  | 1 => .array (.array .int)
  | 2 => .array .int
  | 3 => .array .int
  | 4 => .array .int
  | 5 => .object "FloodCity$Reader"
  | 6 => .int
  | 7 => .int
  | _ => .int
theorem nmX0 : ∀ a, a < 9 → ∀ b, b < 9 → a ≠ b → (TX0 a).2.1 ≠ (TX0 b).2.1 := by decide +kernel
theorem tyX0_ok : ∀ k, k < 9 → parseFieldDescriptor (TX0 k).2.2.1 = some (tyX0 k) := by decide +kernel
abbrev cX0_init : ByteArray := prog_2_method_1_code
def yX0_init : MethodName := ⟨RX0, "<init>", "()V"⟩
abbrev cX0_write : ByteArray := prog_2_method_2_code
def yX0_write : MethodName := ⟨RX0, "write", "(Ljava/lang/String;)V"⟩
abbrev cX0_append : ByteArray := prog_2_method_3_code
def yX0_append : MethodName := ⟨RX0, "append", "(IJ)I"⟩
abbrev cX0_learn : ByteArray := prog_2_method_4_code
def yX0_learn : MethodName := ⟨RX0, "learn", "()I"⟩
abbrev cX0_worth : ByteArray := prog_2_method_5_code
def yX0_worth : MethodName := ⟨RX0, "worth", "(I[I)I"⟩
abbrev cX0_joined : ByteArray := prog_2_method_6_code
def yX0_joined : MethodName := ⟨RX0, "joined", "(III)I"⟩
def RX1 : String := "FloodCity$Buses"
def TX1 : u_T := fun k => match k with
  | 0 => ("FloodCity$Buses", "zone", "[I", true)
  | 1 => ("FloodCity$Buses", "shelter", "[I", true)
  | 2 => ("FloodCity$Buses", "seats", "[I", true)
  | 3 => ("FloodCity$Buses", "trip", "[I", true)
  | _ => ("FloodCity$Buses", "count", "I", false)
def tyX1 : Nat → FieldType := fun k => match k with
  | 0 => .array .int
  | 1 => .array .int
  | 2 => .array .int
  | 3 => .array .int
  | _ => .int
theorem nmX1 : ∀ a, a < 5 → ∀ b, b < 5 → a ≠ b → (TX1 a).2.1 ≠ (TX1 b).2.1 := by decide +kernel
theorem tyX1_ok : ∀ k, k < 5 → parseFieldDescriptor (TX1 k).2.2.1 = some (tyX1 k) := by decide +kernel
abbrev cX1_init : ByteArray := prog_3_method_1_code
def yX1_init : MethodName := ⟨RX1, "<init>", "()V"⟩
abbrev cX1_hire : ByteArray := prog_3_method_2_code
def yX1_hire : MethodName := ⟨RX1, "hire", "(IIII)I"⟩
def RX2 : String := "FloodCity$Folk"
def TX2 : u_T := fun k => match k with
  | 0 => ("FloodCity$Folk", "home", "[I", true)
  | 1 => ("FloodCity$Folk", "crowd", "[I", true)
  | 2 => ("FloodCity$Folk", "ill", "[I", true)
  | 3 => ("FloodCity$Folk", "call", "[I", true)
  | 4 => ("FloodCity$Folk", "room", "[I", true)
  | 5 => ("FloodCity$Folk", "sheltered", "[I", true)
  | 6 => ("FloodCity$Folk", "riders", "[I", true)
  | 7 => ("FloodCity$Folk", "tripOver", "[I", true)
  | 8 => ("FloodCity$Folk", "out", "I", false)
  | _ => ("FloodCity$Folk", "now", "I", false)
def tyX2 : Nat → FieldType := fun k => match k with
  | 0 => .array .int
  | 1 => .array .int
  | 2 => .array .int
  | 3 => .array .int
  | 4 => .array .int
  | 5 => .array .int
  | 6 => .array .int
  | 7 => .array .int
  | 8 => .int
  | _ => .int
theorem nmX2 : ∀ a, a < 10 → ∀ b, b < 10 → a ≠ b → (TX2 a).2.1 ≠ (TX2 b).2.1 := by decide +kernel
theorem tyX2_ok : ∀ k, k < 10 → parseFieldDescriptor (TX2 k).2.2.1 = some (tyX2 k) := by decide +kernel
abbrev cX2_init : ByteArray := prog_4_method_1_code
def yX2_init : MethodName := ⟨RX2, "<init>", "()V"⟩
abbrev cX2_become : ByteArray := prog_4_method_2_code
def yX2_become : MethodName := ⟨RX2, "become", "(LFloodCity$Folk;)V"⟩
abbrev cX2_isCalled : ByteArray := prog_4_method_3_code
def yX2_isCalled : MethodName := ⟨RX2, "isCalled", "(I)Z"⟩
def RX3 : String := "FloodCity$Forecast"
def TX3 : u_T := fun k => match k with
  | 0 => ("FloodCity$Forecast", "town", "LFloodCity$Town;", true)
  | 1 => ("FloodCity$Forecast", "storm", "LFloodCity$Storm;", true)
  | 2 => ("FloodCity$Forecast", "folk", "LFloodCity$Folk;", true)
  | 3 => ("FloodCity$Forecast", "hours", "LFloodCity$Hours;", true)
  | 4 => ("FloodCity$Forecast", "trial", "LFloodCity$Folk;", true)
  | 5 => ("FloodCity$Forecast", "delay", "[I", true)
  | 6 => ("FloodCity$Forecast", "bestDelay", "[I", true)
  | _ => ("FloodCity$Forecast", "sought", "[I", true)
def tyX3 : Nat → FieldType := fun k => match k with
  | 0 => .object "FloodCity$Town"
  | 1 => .object "FloodCity$Storm"
  | 2 => .object "FloodCity$Folk"
  | 3 => .object "FloodCity$Hours"
  | 4 => .object "FloodCity$Folk"
  | 5 => .array .int
  | 6 => .array .int
  | _ => .array .int
theorem nmX3 : ∀ a, a < 8 → ∀ b, b < 8 → a ≠ b → (TX3 a).2.1 ≠ (TX3 b).2.1 := by decide +kernel
theorem tyX3_ok : ∀ k, k < 8 → parseFieldDescriptor (TX3 k).2.2.1 = some (tyX3 k) := by decide +kernel
abbrev cX3_init : ByteArray := prog_5_method_1_code
def yX3_init : MethodName := ⟨RX3, "<init>", "(LFloodCity$Town;LFloodCity$Storm;LFloodCity$Folk;LFloodCity$Hours;)V"⟩
abbrev cX3_foreseen : ByteArray := prog_5_method_2_code
def yX3_foreseen : MethodName := ⟨RX3, "foreseen", "(I)I"⟩
abbrev cX3_settled : ByteArray := prog_5_method_3_code
def yX3_settled : MethodName := ⟨RX3, "settled", "(I)I"⟩
abbrev cX3_search : ByteArray := prog_5_method_4_code
def yX3_search : MethodName := ⟨RX3, "search", "(I)J"⟩
abbrev cX3_plan : ByteArray := prog_5_method_5_code
def yX3_plan : MethodName := ⟨RX3, "plan", "(II)I"⟩
abbrev cX3_worst : ByteArray := prog_5_method_6_code
def yX3_worst : MethodName := ⟨RX3, "worst", "(I)I"⟩
def RX4 : String := "FloodCity$Hours"
def TX4 : u_T := fun k => match k with
  | 0 => ("FloodCity$Hours", "town", "LFloodCity$Town;", true)
  | 1 => ("FloodCity$Hours", "roads", "LFloodCity$Roads;", true)
  | 2 => ("FloodCity$Hours", "buses", "LFloodCity$Buses;", true)
  | 3 => ("FloodCity$Hours", "storm", "LFloodCity$Storm;", true)
  | 4 => ("FloodCity$Hours", "book", "LFloodCity$Book;", true)
  | 5 => ("FloodCity$Hours", "facts", "[I", true)
  | _ => ("FloodCity$Hours", "moving", "[I", true)
def tyX4 : Nat → FieldType := fun k => match k with
  | 0 => .object "FloodCity$Town"
  | 1 => .object "FloodCity$Roads"
  | 2 => .object "FloodCity$Buses"
  | 3 => .object "FloodCity$Storm"
  | 4 => .object "FloodCity$Book"
  | 5 => .array .int
  | _ => .array .int
theorem nmX4 : ∀ a, a < 7 → ∀ b, b < 7 → a ≠ b → (TX4 a).2.1 ≠ (TX4 b).2.1 := by decide +kernel
theorem tyX4_ok : ∀ k, k < 7 → parseFieldDescriptor (TX4 k).2.2.1 = some (tyX4 k) := by decide +kernel
abbrev cX4_init : ByteArray := prog_6_method_1_code
def yX4_init : MethodName := ⟨RX4, "<init>", "(LFloodCity$Town;LFloodCity$Roads;LFloodCity$Buses;LFloodCity$Storm;LFloodCity$Book;)V"⟩
abbrev cX4_isWet : ByteArray := prog_6_method_2_code
def yX4_isWet : MethodName := ⟨RX4, "isWet", "(III)Z"⟩
abbrev cX4_openFlow : ByteArray := prog_6_method_3_code
def yX4_openFlow : MethodName := ⟨RX4, "openFlow", "(III)I"⟩
abbrev cX4_standInWater : ByteArray := prog_6_method_4_code
def yX4_standInWater : MethodName := ⟨RX4, "standInWater", "(LFloodCity$Folk;II)I"⟩
abbrev cX4_gather : ByteArray := prog_6_method_5_code
def yX4_gather : MethodName := ⟨RX4, "gather", "(LFloodCity$Folk;II)V"⟩
abbrev cX4_goBy : ByteArray := prog_6_method_6_code
def yX4_goBy : MethodName := ⟨RX4, "goBy", "(LFloodCity$Folk;I)V"⟩
abbrev cX4_setOut : ByteArray := prog_6_method_7_code
def yX4_setOut : MethodName := ⟨RX4, "setOut", "(LFloodCity$Folk;I)V"⟩
abbrev cX4_chooseMoving : ByteArray := prog_6_method_8_code
def yX4_chooseMoving : MethodName := ⟨RX4, "chooseMoving", "(LFloodCity$Folk;I)V"⟩
abbrev cX4_move : ByteArray := prog_6_method_9_code
def yX4_move : MethodName := ⟨RX4, "move", "(LFloodCity$Folk;)V"⟩
abbrev cX4_board : ByteArray := prog_6_method_10_code
def yX4_board : MethodName := ⟨RX4, "board", "(LFloodCity$Folk;I)V"⟩
abbrev cX4_freeBuses : ByteArray := prog_6_method_11_code
def yX4_freeBuses : MethodName := ⟨RX4, "freeBuses", "(LFloodCity$Folk;)V"⟩
def RX5 : String := "FloodCity$Reader"
def TX5 : u_T := fun k => match k with
  | 0 => ("FloodCity$Reader", "tape", "[B", true)
  | 1 => ("FloodCity$Reader", "codes", "[I", false)
  | 2 => ("FloodCity$Reader", "length", "I", false)
  | 3 => ("FloodCity$Reader", "heedEnd", "I", false)
  | 4 => ("FloodCity$Reader", "size", "I", false)
  | 5 => ("FloodCity$Reader", "place", "I", false)
  | 6 => ("FloodCity$Reader", "behind", "I", false)
  | 7 => ("FloodCity$Reader", "token", "I", false)
  | 8 => ("FloodCity$Reader", "value", "I", false)
  | _ => ("FloodCity$Reader", "fault", "I", false)
def tyX5 : Nat → FieldType := fun k => match k with
  | 0 => .array .byte
  | 1 => .array .int
  | 2 => .int
  | 3 => .int
  | 4 => .int
  | 5 => .int
  | 6 => .int
  | 7 => .int
  | 8 => .int
  | _ => .int
theorem nmX5 : ∀ a, a < 10 → ∀ b, b < 10 → a ≠ b → (TX5 a).2.1 ≠ (TX5 b).2.1 := by decide +kernel
theorem tyX5_ok : ∀ k, k < 10 → parseFieldDescriptor (TX5 k).2.2.1 = some (tyX5 k) := by decide +kernel
abbrev cX5_init : ByteArray := prog_7_method_1_code
def yX5_init : MethodName := ⟨RX5, "<init>", "([B)V"⟩
abbrev cX5_read : ByteArray := prog_7_method_2_code
def yX5_read : MethodName := ⟨RX5, "read", "(I[I)I"⟩
abbrev cX5_expect : ByteArray := prog_7_method_3_code
def yX5_expect : MethodName := ⟨RX5, "expect", "(I)V"⟩
abbrev cX5_fail : ByteArray := prog_7_method_4_code
def yX5_fail : MethodName := ⟨RX5, "fail", "()V"⟩
abbrev cX5_put : ByteArray := prog_7_method_5_code
def yX5_put : MethodName := ⟨RX5, "put", "(I)V"⟩
abbrev cX5_readLevel : ByteArray := prog_7_method_6_code
def yX5_readLevel : MethodName := ⟨RX5, "readLevel", "(II)V"⟩
abbrev cX5_readOpened : ByteArray := prog_7_method_7_code
def yX5_readOpened : MethodName := ⟨RX5, "readOpened", "(II)V"⟩
abbrev cX5_readLeaf : ByteArray := prog_7_method_8_code
def yX5_readLeaf : MethodName := ⟨RX5, "readLeaf", "()V"⟩
abbrev cX5_joinLevel : ByteArray := prog_7_method_9_code
def yX5_joinLevel : MethodName := ⟨RX5, "joinLevel", "(I)I"⟩
abbrev cX5_nextToken : ByteArray := prog_7_method_10_code
def yX5_nextToken : MethodName := ⟨RX5, "nextToken", "()V"⟩
abbrev cX5_takeWord : ByteArray := prog_7_method_11_code
def yX5_takeWord : MethodName := ⟨RX5, "takeWord", "()V"⟩
abbrev cX5_spells : ByteArray := prog_7_method_12_code
def yX5_spells : MethodName := ⟨RX5, "spells", "(Ljava/lang/String;)Z"⟩
abbrev cX5_takeNumber : ByteArray := prog_7_method_13_code
def yX5_takeNumber : MethodName := ⟨RX5, "takeNumber", "()V"⟩
abbrev cX5_isLetter : ByteArray := prog_7_method_14_code
def yX5_isLetter : MethodName := ⟨RX5, "isLetter", "(I)Z"⟩
abbrev cX5_isDigit : ByteArray := prog_7_method_15_code
def yX5_isDigit : MethodName := ⟨RX5, "isDigit", "(I)Z"⟩
abbrev cX5_isSign : ByteArray := prog_7_method_16_code
def yX5_isSign : MethodName := ⟨RX5, "isSign", "(I)Z"⟩
def RX6 : String := "FloodCity$Roads"
def TX6 : u_T := fun k => match k with
  | 0 => ("FloodCity$Roads", "kind", "[I", true)
  | 1 => ("FloodCity$Roads", "from", "[I", true)
  | 2 => ("FloodCity$Roads", "to", "[I", true)
  | 3 => ("FloodCity$Roads", "flow", "[I", true)
  | 4 => ("FloodCity$Roads", "turned", "[I", true)
  | _ => ("FloodCity$Roads", "count", "I", false)
def tyX6 : Nat → FieldType := fun k => match k with
  | 0 => .array .int
  | 1 => .array .int
  | 2 => .array .int
  | 3 => .array .int
  | 4 => .array .int
  | _ => .int
theorem nmX6 : ∀ a, a < 6 → ∀ b, b < 6 → a ≠ b → (TX6 a).2.1 ≠ (TX6 b).2.1 := by decide +kernel
theorem tyX6_ok : ∀ k, k < 6 → parseFieldDescriptor (TX6 k).2.2.1 = some (tyX6 k) := by decide +kernel
abbrev cX6_init : ByteArray := prog_8_method_1_code
def yX6_init : MethodName := ⟨RX6, "<init>", "()V"⟩
abbrev cX6_build : ByteArray := prog_8_method_2_code
def yX6_build : MethodName := ⟨RX6, "build", "(IIII)I"⟩
abbrev cX6_isOfKind : ByteArray := prog_8_method_3_code
def yX6_isOfKind : MethodName := ⟨RX6, "isOfKind", "(II)Z"⟩
abbrev cX6_canTake : ByteArray := prog_8_method_4_code
def yX6_canTake : MethodName := ⟨RX6, "canTake", "(III)I"⟩
def RX7 : String := "FloodCity$Sheets"
def TX7 : u_T := fun k => match k with
  | 0 => ("FloodCity$Sheets", "items", "[[I", true)
  | 1 => ("FloodCity$Sheets", "sort", "[I", true)
  | _ => ("FloodCity$Sheets", "size", "[I", true)
def tyX7 : Nat → FieldType := fun k => match k with
  | 0 => .array (.array .int)
  | 1 => .array .int
  | _ => .array .int
theorem nmX7 : ∀ a, a < 3 → ∀ b, b < 3 → a ≠ b → (TX7 a).2.1 ≠ (TX7 b).2.1 := by decide +kernel
theorem tyX7_ok : ∀ k, k < 3 → parseFieldDescriptor (TX7 k).2.2.1 = some (tyX7 k) := by decide +kernel
abbrev cX7_init : ByteArray := prog_9_method_1_code
def yX7_init : MethodName := ⟨RX7, "<init>", "()V"⟩
abbrev cX7_lay : ByteArray := prog_9_method_2_code
def yX7_lay : MethodName := ⟨RX7, "lay", "(III)V"⟩
abbrev cX7_write : ByteArray := prog_9_method_3_code
def yX7_write : MethodName := ⟨RX7, "write", "(III)V"⟩
abbrev cX7_holds : ByteArray := prog_9_method_4_code
def yX7_holds : MethodName := ⟨RX7, "holds", "(III)Z"⟩
def RX8 : String := "FloodCity$Storm"
def TX8 : u_T := fun k => match k with
  | 0 => ("FloodCity$Storm", "isLikely", "[Z", true)
  | 1 => ("FloodCity$Storm", "water", "[[I", true)
  | 2 => ("FloodCity$Storm", "wind", "[[I", true)
  | 3 => ("FloodCity$Storm", "newsTrack", "[I", true)
  | 4 => ("FloodCity$Storm", "newsFrom", "[I", true)
  | 5 => ("FloodCity$Storm", "newsTo", "[I", true)
  | 6 => ("FloodCity$Storm", "newsWater", "[I", true)
  | 7 => ("FloodCity$Storm", "newsWind", "[I", true)
  | 8 => ("FloodCity$Storm", "newsHour", "[I", true)
  | 9 => ("FloodCity$Storm", "count", "I", false)
  | 10 => ("FloodCity$Storm", "truth", "I", false)
  | _ => ("FloodCity$Storm", "lastHour", "I", false)
def tyX8 : Nat → FieldType := fun k => match k with
  | 0 => .array .boolean
  | 1 => .array (.array .int)
  | 2 => .array (.array .int)
  | 3 => .array .int
  | 4 => .array .int
  | 5 => .array .int
  | 6 => .array .int
  | 7 => .array .int
  | 8 => .array .int
  | 9 => .int
  | 10 => .int
  | _ => .int
theorem nmX8 : ∀ a, a < 12 → ∀ b, b < 12 → a ≠ b → (TX8 a).2.1 ≠ (TX8 b).2.1 := by decide +kernel
theorem tyX8_ok : ∀ k, k < 12 → parseFieldDescriptor (TX8 k).2.2.1 = some (tyX8 k) := by decide +kernel
abbrev cX8_init : ByteArray := prog_10_method_1_code
def yX8_init : MethodName := ⟨RX8, "<init>", "()V"⟩
abbrev cX8_hear : ByteArray := prog_10_method_2_code
def yX8_hear : MethodName := ⟨RX8, "hear", "(IIIIII)I"⟩
abbrev cX8_waterKnown : ByteArray := prog_10_method_3_code
def yX8_waterKnown : MethodName := ⟨RX8, "waterKnown", "(III)I"⟩
abbrev cX8_windKnown : ByteArray := prog_10_method_4_code
def yX8_windKnown : MethodName := ⟨RX8, "windKnown", "(III)I"⟩
abbrev cX8_wasDanger : ByteArray := prog_10_method_5_code
def yX8_wasDanger : MethodName := ⟨RX8, "wasDanger", "(II)Z"⟩
abbrev cX8_teller : ByteArray := prog_10_method_6_code
def yX8_teller : MethodName := ⟨RX8, "teller", "(III)I"⟩
def RX9 : String := "FloodCity$Town"
def TX9 : u_T := fun k => match k with
  | 0 => ("FloodCity$Town", "height", "[I", true)
  | 1 => ("FloodCity$Town", "way", "[I", true)
  | 2 => ("FloodCity$Town", "zones", "I", false)
  | _ => ("FloodCity$Town", "shelters", "I", false)
def tyX9 : Nat → FieldType := fun k => match k with
  | 0 => .array .int
  | 1 => .array .int
  | 2 => .int
  | _ => .int
theorem nmX9 : ∀ a, a < 4 → ∀ b, b < 4 → a ≠ b → (TX9 a).2.1 ≠ (TX9 b).2.1 := by decide +kernel
theorem tyX9_ok : ∀ k, k < 4 → parseFieldDescriptor (TX9 k).2.2.1 = some (tyX9 k) := by decide +kernel
abbrev cX9_init : ByteArray := prog_11_method_1_code
def yX9_init : MethodName := ⟨RX9, "<init>", "()V"⟩
def RX10 : String := "FloodCity"
def TX10 : u_T := fun k => match k with
  | 0 => ("FloodCity", "town", "LFloodCity$Town;", true)
  | 1 => ("FloodCity", "roads", "LFloodCity$Roads;", true)
  | 2 => ("FloodCity", "buses", "LFloodCity$Buses;", true)
  | 3 => ("FloodCity", "storm", "LFloodCity$Storm;", true)
  | 4 => ("FloodCity", "book", "LFloodCity$Book;", true)
  | 5 => ("FloodCity", "folk", "LFloodCity$Folk;", true)
  | 6 => ("FloodCity", "hours", "LFloodCity$Hours;", true)
  | 7 => ("FloodCity", "forecast", "LFloodCity$Forecast;", true)
  | _ => ("FloodCity", "sheets", "LFloodCity$Sheets;", true)
def tyX10 : Nat → FieldType := fun k => match k with
  | 0 => .object "FloodCity$Town"
  | 1 => .object "FloodCity$Roads"
  | 2 => .object "FloodCity$Buses"
  | 3 => .object "FloodCity$Storm"
  | 4 => .object "FloodCity$Book"
  | 5 => .object "FloodCity$Folk"
  | 6 => .object "FloodCity$Hours"
  | 7 => .object "FloodCity$Forecast"
  | _ => .object "FloodCity$Sheets"
theorem nmX10 : ∀ a, a < 9 → ∀ b, b < 9 → a ≠ b → (TX10 a).2.1 ≠ (TX10 b).2.1 := by decide +kernel
theorem tyX10_ok : ∀ k, k < 9 → parseFieldDescriptor (TX10 k).2.2.1 = some (tyX10 k) := by decide +kernel
abbrev cX10_init : ByteArray := prog_1_method_1_code
def yX10_init : MethodName := ⟨RX10, "<init>", "()V"⟩
abbrev cX10_zone : ByteArray := prog_1_method_2_code
def yX10_zone : MethodName := ⟨RX10, "zone", "(III)I"⟩
abbrev cX10_shelter : ByteArray := prog_1_method_3_code
def yX10_shelter : MethodName := ⟨RX10, "shelter", "(I)I"⟩
abbrev cX10_road : ByteArray := prog_1_method_4_code
def yX10_road : MethodName := ⟨RX10, "road", "(IIII)I"⟩
abbrev cX10_use : ByteArray := prog_1_method_5_code
def yX10_use : MethodName := ⟨RX10, "use", "(I)I"⟩
abbrev cX10_turn : ByteArray := prog_1_method_6_code
def yX10_turn : MethodName := ⟨RX10, "turn", "(I)I"⟩
abbrev cX10_bus : ByteArray := prog_1_method_7_code
def yX10_bus : MethodName := ⟨RX10, "bus", "(IIII)I"⟩
abbrev cX10_zoneTold : ByteArray := prog_1_method_8_code
def yX10_zoneTold : MethodName := ⟨RX10, "zoneTold", "(II)I"⟩
abbrev cX10_shelterTold : ByteArray := prog_1_method_9_code
def yX10_shelterTold : MethodName := ⟨RX10, "shelterTold", "(II)I"⟩
abbrev cX10_roadTold : ByteArray := prog_1_method_10_code
def yX10_roadTold : MethodName := ⟨RX10, "roadTold", "(II)I"⟩
abbrev cX10_busTold : ByteArray := prog_1_method_11_code
def yX10_busTold : MethodName := ⟨RX10, "busTold", "(II)I"⟩
abbrev cX10_end : ByteArray := prog_1_method_12_code
def yX10_end : MethodName := ⟨RX10, "end", "(I)I"⟩
abbrev cX10_likely : ByteArray := prog_1_method_13_code
def yX10_likely : MethodName := ⟨RX10, "likely", "(II)I"⟩
abbrev cX10_truth : ByteArray := prog_1_method_14_code
def yX10_truth : MethodName := ⟨RX10, "truth", "(I)I"⟩
abbrev cX10_news : ByteArray := prog_1_method_15_code
def yX10_news : MethodName := ⟨RX10, "news", "(IIIII)I"⟩
abbrev cX10_known : ByteArray := prog_1_method_16_code
def yX10_known : MethodName := ⟨RX10, "known", "(IIII)I"⟩
abbrev cX10_feed : ByteArray := prog_1_method_17_code
def yX10_feed : MethodName := ⟨RX10, "feed", "(IJ)I"⟩
abbrev cX10_text : ByteArray := prog_1_method_18_code
def yX10_text : MethodName := ⟨RX10, "text", "()I"⟩
abbrev cX10_force : ByteArray := prog_1_method_19_code
def yX10_force : MethodName := ⟨RX10, "force", "(I)I"⟩
abbrev cX10_says : ByteArray := prog_1_method_20_code
def yX10_says : MethodName := ⟨RX10, "says", "(II)J"⟩
abbrev cX10_call : ByteArray := prog_1_method_21_code
def yX10_call : MethodName := ⟨RX10, "call", "(I)I"⟩
abbrev cX10_good : ByteArray := prog_1_method_22_code
def yX10_good : MethodName := ⟨RX10, "good", "(I)I"⟩
abbrev cX10_pass : ByteArray := prog_1_method_23_code
def yX10_pass : MethodName := ⟨RX10, "pass", "(I)I"⟩
abbrev cX10_inWater : ByteArray := prog_1_method_24_code
def yX10_inWater : MethodName := ⟨RX10, "inWater", "()I"⟩
abbrev cX10_foresee : ByteArray := prog_1_method_25_code
def yX10_foresee : MethodName := ⟨RX10, "foresee", "(IJ)J"⟩
abbrev cX10_best : ByteArray := prog_1_method_26_code
def yX10_best : MethodName := ⟨RX10, "best", "(I)J"⟩
abbrev cX10_bestCall : ByteArray := prog_1_method_27_code
def yX10_bestCall : MethodName := ⟨RX10, "bestCall", "(I)I"⟩
abbrev cX10_count : ByteArray := prog_1_method_28_code
def yX10_count : MethodName := ⟨RX10, "count", "(I)I"⟩
abbrev cX10_sheet : ByteArray := prog_1_method_29_code
def yX10_sheet : MethodName := ⟨RX10, "sheet", "(III)I"⟩
abbrev cX10_cell : ByteArray := prog_1_method_30_code
def yX10_cell : MethodName := ⟨RX10, "cell", "(III)I"⟩
abbrev cX10_copy : ByteArray := prog_1_method_31_code
def yX10_copy : MethodName := ⟨RX10, "copy", "(IIIII)I"⟩
abbrev cX10_newsRow : ByteArray := prog_1_method_32_code
def yX10_newsRow : MethodName := ⟨RX10, "newsRow", "(IIIII)I"⟩
abbrev cX10_taken : ByteArray := prog_1_method_33_code
def yX10_taken : MethodName := ⟨RX10, "taken", "(II)I"⟩
abbrev cX10_isOutside : ByteArray := prog_1_method_34_code
def yX10_isOutside : MethodName := ⟨RX10, "isOutside", "(III)Z"⟩
abbrev cX10_isNoTrack : ByteArray := prog_1_method_35_code
def yX10_isNoTrack : MethodName := ⟨RX10, "isNoTrack", "(I)Z"⟩
abbrev cX10_isNoSheet : ByteArray := prog_1_method_36_code
def yX10_isNoSheet : MethodName := ⟨RX10, "isNoSheet", "(I)Z"⟩
abbrev cX10_isNoZone : ByteArray := prog_1_method_37_code
def yX10_isNoZone : MethodName := ⟨RX10, "isNoZone", "(I)Z"⟩
abbrev cX10_isNoShelter : ByteArray := prog_1_method_38_code
def yX10_isNoShelter : MethodName := ⟨RX10, "isNoShelter", "(I)Z"⟩
abbrev cX10_isNoRoad : ByteArray := prog_1_method_39_code
def yX10_isNoRoad : MethodName := ⟨RX10, "isNoRoad", "(I)Z"⟩
abbrev cX10_isNoGoal : ByteArray := prog_1_method_40_code
def yX10_isNoGoal : MethodName := ⟨RX10, "isNoGoal", "(I)Z"⟩
abbrev cX10_sum : ByteArray := prog_1_method_41_code
def yX10_sum : MethodName := ⟨RX10, "sum", "([I)I"⟩
def RX11 : String := "FloodCityModel"
def TX11 : u_T := fun k => match k with
  | 0 => ("FloodCityModel", "now", "I", false)
  | 1 => ("FloodCityModel", "end", "I", false)
  | 2 => ("FloodCityModel", "zones", "I", false)
  | 3 => ("FloodCityModel", "height", "[I", true)
  | 4 => ("FloodCityModel", "home", "[I", true)
  | 5 => ("FloodCityModel", "onWay", "[I", true)
  | 6 => ("FloodCityModel", "ill", "[I", true)
  | 7 => ("FloodCityModel", "called", "[I", true)
  | 8 => ("FloodCityModel", "wayOf", "[I", true)
  | 9 => ("FloodCityModel", "shelters", "I", false)
  | 10 => ("FloodCityModel", "room", "[I", true)
  | 11 => ("FloodCityModel", "inside", "[I", true)
  | 12 => ("FloodCityModel", "keptFor", "[I", true)
  | 13 => ("FloodCityModel", "roads", "I", false)
  | 14 => ("FloodCityModel", "kindOf", "[I", true)
  | 15 => ("FloodCityModel", "from", "[I", true)
  | 16 => ("FloodCityModel", "to", "[I", true)
  | 17 => ("FloodCityModel", "flow", "[I", true)
  | 18 => ("FloodCityModel", "turned", "[I", true)
  | 19 => ("FloodCityModel", "buses", "I", false)
  | 20 => ("FloodCityModel", "busZone", "[I", true)
  | 21 => ("FloodCityModel", "busShelter", "[I", true)
  | 22 => ("FloodCityModel", "seats", "[I", true)
  | 23 => ("FloodCityModel", "trip", "[I", true)
  | 24 => ("FloodCityModel", "over", "[I", true)
  | 25 => ("FloodCityModel", "riding", "[I", true)
  | 26 => ("FloodCityModel", "out", "I", false)
  | 27 => ("FloodCityModel", "likely", "[I", true)
  | 28 => ("FloodCityModel", "truth", "I", false)
  | 29 => ("FloodCityModel", "newsMany", "I", false)
  | 30 => ("FloodCityModel", "newsTrack", "[I", true)
  | 31 => ("FloodCityModel", "newsFrom", "[I", true)
  | 32 => ("FloodCityModel", "newsTo", "[I", true)
  | 33 => ("FloodCityModel", "newsWater", "[I", true)
  | 34 => ("FloodCityModel", "newsWind", "[I", true)
  | 35 => ("FloodCityModel", "newsIn", "[I", true)
  | 36 => ("FloodCityModel", "water", "[I", true)
  | 37 => ("FloodCityModel", "wind", "[I", true)
  | 38 => ("FloodCityModel", "tape", "[B", true)
  | 39 => ("FloodCityModel", "taped", "I", false)
  | 40 => ("FloodCityModel", "texts", "I", false)
  | 41 => ("FloodCityModel", "rule", "I", false)
  | 42 => ("FloodCityModel", "codes", "[I", true)
  | 43 => ("FloodCityModel", "codeMany", "[I", true)
  | 44 => ("FloodCityModel", "at", "I", false)
  | 45 => ("FloodCityModel", "token", "I", false)
  | 46 => ("FloodCityModel", "worth", "I", false)
  | 47 => ("FloodCityModel", "place", "I", false)
  | 48 => ("FloodCityModel", "letters", "[C", true)
  | 49 => ("FloodCityModel", "begins", "[I", true)
  | 50 => ("FloodCityModel", "waits", "[I", true)
  | 51 => ("FloodCityModel", "waiting", "I", false)
  | 52 => ("FloodCityModel", "open", "I", false)
  | 53 => ("FloodCityModel", "depth", "I", false)
  | 54 => ("FloodCityModel", "compared", "[Z", true)
  | 55 => ("FloodCityModel", "codeAt", "I", false)
  | 56 => ("FloodCityModel", "made", "I", false)
  | 57 => ("FloodCityModel", "stack", "[I", true)
  | 58 => ("FloodCityModel", "coming", "[I", true)
  | 59 => ("FloodCityModel", "homeWas", "[I", true)
  | 60 => ("FloodCityModel", "onWayWas", "[I", true)
  | 61 => ("FloodCityModel", "illWas", "[I", true)
  | 62 => ("FloodCityModel", "calledWas", "[I", true)
  | 63 => ("FloodCityModel", "insideWas", "[I", true)
  | 64 => ("FloodCityModel", "keptWas", "[I", true)
  | 65 => ("FloodCityModel", "overWas", "[I", true)
  | 66 => ("FloodCityModel", "ridingWas", "[I", true)
  | 67 => ("FloodCityModel", "outWas", "I", false)
  | 68 => ("FloodCityModel", "nowWas", "I", false)
  | 69 => ("FloodCityModel", "told", "[I", true)
  | 70 => ("FloodCityModel", "bestTold", "[I", true)
  | 71 => ("FloodCityModel", "sorts", "[I", true)
  | 72 => ("FloodCityModel", "sizes", "[I", true)
  | 73 => ("FloodCityModel", "items", "[I", true)
  | _ => ("FloodCityModel", "moved", "[I", true)
def tyX11 : Nat → FieldType := fun k => match k with
  | 0 => .int
  | 1 => .int
  | 2 => .int
  | 3 => .array .int
  | 4 => .array .int
  | 5 => .array .int
  | 6 => .array .int
  | 7 => .array .int
  | 8 => .array .int
  | 9 => .int
  | 10 => .array .int
  | 11 => .array .int
  | 12 => .array .int
  | 13 => .int
  | 14 => .array .int
  | 15 => .array .int
  | 16 => .array .int
  | 17 => .array .int
  | 18 => .array .int
  | 19 => .int
  | 20 => .array .int
  | 21 => .array .int
  | 22 => .array .int
  | 23 => .array .int
  | 24 => .array .int
  | 25 => .array .int
  | 26 => .int
  | 27 => .array .int
  | 28 => .int
  | 29 => .int
  | 30 => .array .int
  | 31 => .array .int
  | 32 => .array .int
  | 33 => .array .int
  | 34 => .array .int
  | 35 => .array .int
  | 36 => .array .int
  | 37 => .array .int
  | 38 => .array .byte
  | 39 => .int
  | 40 => .int
  | 41 => .int
  | 42 => .array .int
  | 43 => .array .int
  | 44 => .int
  | 45 => .int
  | 46 => .int
  | 47 => .int
  | 48 => .array .char
  | 49 => .array .int
  | 50 => .array .int
  | 51 => .int
  | 52 => .int
  | 53 => .int
  | 54 => .array .boolean
  | 55 => .int
  | 56 => .int
  | 57 => .array .int
  | 58 => .array .int
  | 59 => .array .int
  | 60 => .array .int
  | 61 => .array .int
  | 62 => .array .int
  | 63 => .array .int
  | 64 => .array .int
  | 65 => .array .int
  | 66 => .array .int
  | 67 => .int
  | 68 => .int
  | 69 => .array .int
  | 70 => .array .int
  | 71 => .array .int
  | 72 => .array .int
  | 73 => .array .int
  | _ => .array .int
theorem nmX11 : ∀ a, a < 75 → ∀ b, b < 75 → a ≠ b → (TX11 a).2.1 ≠ (TX11 b).2.1 := by decide +kernel
theorem tyX11_ok : ∀ k, k < 75 → parseFieldDescriptor (TX11 k).2.2.1 = some (tyX11 k) := by decide +kernel
abbrev cX11_isIn : ByteArray := prog_13_method_1_code
def yX11_isIn : MethodName := ⟨RX11, "isIn", "(JJJ)Z"⟩
abbrev cX11_isZone : ByteArray := prog_13_method_2_code
def yX11_isZone : MethodName := ⟨RX11, "isZone", "(I)Z"⟩
abbrev cX11_isShelter : ByteArray := prog_13_method_3_code
def yX11_isShelter : MethodName := ⟨RX11, "isShelter", "(I)Z"⟩
abbrev cX11_isRoad : ByteArray := prog_13_method_4_code
def yX11_isRoad : MethodName := ⟨RX11, "isRoad", "(I)Z"⟩
abbrev cX11_isBus : ByteArray := prog_13_method_5_code
def yX11_isBus : MethodName := ⟨RX11, "isBus", "(I)Z"⟩
abbrev cX11_zone : ByteArray := prog_13_method_6_code
def yX11_zone : MethodName := ⟨RX11, "zone", "(III)I"⟩
abbrev cX11_shelter : ByteArray := prog_13_method_7_code
def yX11_shelter : MethodName := ⟨RX11, "shelter", "(I)I"⟩
abbrev cX11_isGoal : ByteArray := prog_13_method_8_code
def yX11_isGoal : MethodName := ⟨RX11, "isGoal", "(I)Z"⟩
abbrev cX11_road : ByteArray := prog_13_method_9_code
def yX11_road : MethodName := ⟨RX11, "road", "(IIII)I"⟩
abbrev cX11_use : ByteArray := prog_13_method_10_code
def yX11_use : MethodName := ⟨RX11, "use", "(I)I"⟩
abbrev cX11_turn : ByteArray := prog_13_method_11_code
def yX11_turn : MethodName := ⟨RX11, "turn", "(I)I"⟩
abbrev cX11_bus : ByteArray := prog_13_method_12_code
def yX11_bus : MethodName := ⟨RX11, "bus", "(IIII)I"⟩
abbrev cX11_zoneTold : ByteArray := prog_13_method_13_code
def yX11_zoneTold : MethodName := ⟨RX11, "zoneTold", "(II)I"⟩
abbrev cX11_roomLeft : ByteArray := prog_13_method_14_code
def yX11_roomLeft : MethodName := ⟨RX11, "roomLeft", "(I)I"⟩
abbrev cX11_shelterTold : ByteArray := prog_13_method_15_code
def yX11_shelterTold : MethodName := ⟨RX11, "shelterTold", "(II)I"⟩
abbrev cX11_roadTold : ByteArray := prog_13_method_16_code
def yX11_roadTold : MethodName := ⟨RX11, "roadTold", "(II)I"⟩
abbrev cX11_busTold : ByteArray := prog_13_method_17_code
def yX11_busTold : MethodName := ⟨RX11, "busTold", "(II)I"⟩
abbrev cX11_isWet : ByteArray := prog_13_method_18_code
def yX11_isWet : MethodName := ⟨RX11, "isWet", "(III)Z"⟩
abbrev cX11_end : ByteArray := prog_13_method_19_code
def yX11_end : MethodName := ⟨RX11, "end", "(I)I"⟩
abbrev cX11_isTrack : ByteArray := prog_13_method_20_code
def yX11_isTrack : MethodName := ⟨RX11, "isTrack", "(I)Z"⟩
abbrev cX11_likely : ByteArray := prog_13_method_21_code
def yX11_likely : MethodName := ⟨RX11, "likely", "(II)I"⟩
abbrev cX11_truth : ByteArray := prog_13_method_22_code
def yX11_truth : MethodName := ⟨RX11, "truth", "(I)I"⟩
abbrev cX11_news : ByteArray := prog_13_method_23_code
def yX11_news : MethodName := ⟨RX11, "news", "(IIIII)I"⟩
abbrev cX11_knownOf : ByteArray := prog_13_method_24_code
def yX11_knownOf : MethodName := ⟨RX11, "knownOf", "(IIIZ)I"⟩
abbrev cX11_known : ByteArray := prog_13_method_25_code
def yX11_known : MethodName := ⟨RX11, "known", "(IIII)I"⟩
abbrev cX11_feed : ByteArray := prog_13_method_26_code
def yX11_feed : MethodName := ⟨RX11, "feed", "(IJ)I"⟩
abbrev cX11_isLetter : ByteArray := prog_13_method_27_code
def yX11_isLetter : MethodName := ⟨RX11, "isLetter", "(I)Z"⟩
abbrev cX11_isDigit : ByteArray := prog_13_method_28_code
def yX11_isDigit : MethodName := ⟨RX11, "isDigit", "(I)Z"⟩
abbrev cX11_readWord : ByteArray := prog_13_method_29_code
def yX11_readWord : MethodName := ⟨RX11, "readWord", "()V"⟩
abbrev cX11_readNumber : ByteArray := prog_13_method_30_code
def yX11_readNumber : MethodName := ⟨RX11, "readNumber", "()V"⟩
abbrev cX11_next : ByteArray := prog_13_method_31_code
def yX11_next : MethodName := ⟨RX11, "next", "()V"⟩
abbrev cX11_isSign : ByteArray := prog_13_method_32_code
def yX11_isSign : MethodName := ⟨RX11, "isSign", "(I)Z"⟩
abbrev cX11_isKey : ByteArray := prog_13_method_33_code
def yX11_isKey : MethodName := ⟨RX11, "isKey", "(I)Z"⟩
abbrev cX11_emit : ByteArray := prog_13_method_34_code
def yX11_emit : MethodName := ⟨RX11, "emit", "(I)V"⟩
abbrev cX11_rank : ByteArray := prog_13_method_35_code
def yX11_rank : MethodName := ⟨RX11, "rank", "(I)I"⟩
abbrev cX11_doAll : ByteArray := prog_13_method_36_code
def yX11_doAll : MethodName := ⟨RX11, "doAll", "(I)V"⟩
abbrev cX11_await : ByteArray := prog_13_method_37_code
def yX11_await : MethodName := ⟨RX11, "await", "(I)V"⟩
abbrev cX11_between : ByteArray := prog_13_method_38_code
def yX11_between : MethodName := ⟨RX11, "between", "()Z"⟩
abbrev cX11_closes : ByteArray := prog_13_method_39_code
def yX11_closes : MethodName := ⟨RX11, "closes", "()Z"⟩
abbrev cX11_ahead : ByteArray := prog_13_method_40_code
def yX11_ahead : MethodName := ⟨RX11, "ahead", "(Z)Z"⟩
abbrev cX11_readE : ByteArray := prog_13_method_41_code
def yX11_readE : MethodName := ⟨RX11, "readE", "(I)Z"⟩
abbrev cX11_readAll : ByteArray := prog_13_method_42_code
def yX11_readAll : MethodName := ⟨RX11, "readAll", "(I)I"⟩
abbrev cX11_text : ByteArray := prog_13_method_43_code
def yX11_text : MethodName := ⟨RX11, "text", "()I"⟩
abbrev cX11_force : ByteArray := prog_13_method_44_code
def yX11_force : MethodName := ⟨RX11, "force", "(I)I"⟩
abbrev cX11_nameOf : ByteArray := prog_13_method_45_code
def yX11_nameOf : MethodName := ⟨RX11, "nameOf", "(IIII)I"⟩
abbrev cX11_done : ByteArray := prog_13_method_46_code
def yX11_done : MethodName := ⟨RX11, "done", "(III)I"⟩
abbrev cX11_worthOf : ByteArray := prog_13_method_47_code
def yX11_worthOf : MethodName := ⟨RX11, "worthOf", "(IIII)I"⟩
abbrev cX11_says : ByteArray := prog_13_method_48_code
def yX11_says : MethodName := ⟨RX11, "says", "(II)J"⟩
abbrev cX11_init : ByteArray := prog_13_method_49_code
def yX11_init : MethodName := ⟨RX11, "<init>", "()V"⟩
abbrev cX11_call : ByteArray := prog_13_method_50_code
def yX11_call : MethodName := ⟨RX11, "call", "(I)I"⟩
abbrev cX11_wasWet : ByteArray := prog_13_method_51_code
def yX11_wasWet : MethodName := ⟨RX11, "wasWet", "(III)Z"⟩
abbrev cX11_good : ByteArray := prog_13_method_52_code
def yX11_good : MethodName := ⟨RX11, "good", "(I)I"⟩
abbrev cX11_canTake : ByteArray := prog_13_method_53_code
def yX11_canTake : MethodName := ⟨RX11, "canTake", "(III)I"⟩
abbrev cX11_leave : ByteArray := prog_13_method_54_code
def yX11_leave : MethodName := ⟨RX11, "leave", "(I)V"⟩
abbrev cX11_move : ByteArray := prog_13_method_55_code
def yX11_move : MethodName := ⟨RX11, "move", "(I)V"⟩
abbrev cX11_ride : ByteArray := prog_13_method_56_code
def yX11_ride : MethodName := ⟨RX11, "ride", "(I)V"⟩
abbrev cX11_step : ByteArray := prog_13_method_57_code
def yX11_step : MethodName := ⟨RX11, "step", "(I)V"⟩
abbrev cX11_pass : ByteArray := prog_13_method_58_code
def yX11_pass : MethodName := ⟨RX11, "pass", "(I)I"⟩
abbrev cX11_inWaterOf : ByteArray := prog_13_method_59_code
def yX11_inWaterOf : MethodName := ⟨RX11, "inWaterOf", "(I)I"⟩
abbrev cX11_inWater : ByteArray := prog_13_method_60_code
def yX11_inWater : MethodName := ⟨RX11, "inWater", "()I"⟩
abbrev cX11_keepAll : ByteArray := prog_13_method_61_code
def yX11_keepAll : MethodName := ⟨RX11, "keepAll", "()V"⟩
abbrev cX11_bringBack : ByteArray := prog_13_method_62_code
def yX11_bringBack : MethodName := ⟨RX11, "bringBack", "()V"⟩
abbrev cX11_played : ByteArray := prog_13_method_63_code
def yX11_played : MethodName := ⟨RX11, "played", "(I)I"⟩
abbrev cX11_takeCalls : ByteArray := prog_13_method_64_code
def yX11_takeCalls : MethodName := ⟨RX11, "takeCalls", "(J)Z"⟩
abbrev cX11_foresee : ByteArray := prog_13_method_65_code
def yX11_foresee : MethodName := ⟨RX11, "foresee", "(IJ)J"⟩
abbrev cX11_worst : ByteArray := prog_13_method_66_code
def yX11_worst : MethodName := ⟨RX11, "worst", "()I"⟩
abbrev cX11_mayAsk : ByteArray := prog_13_method_67_code
def yX11_mayAsk : MethodName := ⟨RX11, "mayAsk", "(I)Z"⟩
abbrev cX11_choose : ByteArray := prog_13_method_68_code
def yX11_choose : MethodName := ⟨RX11, "choose", "(III)I"⟩
abbrev cX11_countBits : ByteArray := prog_13_method_69_code
def yX11_countBits : MethodName := ⟨RX11, "countBits", "(I)I"⟩
abbrev cX11_best : ByteArray := prog_13_method_70_code
def yX11_best : MethodName := ⟨RX11, "best", "(I)J"⟩
abbrev cX11_bestCall : ByteArray := prog_13_method_71_code
def yX11_bestCall : MethodName := ⟨RX11, "bestCall", "(I)I"⟩
abbrev cX11_sumOf : ByteArray := prog_13_method_72_code
def yX11_sumOf : MethodName := ⟨RX11, "sumOf", "([II)I"⟩
abbrev cX11_count : ByteArray := prog_13_method_73_code
def yX11_count : MethodName := ⟨RX11, "count", "(I)I"⟩
abbrev cX11_isSheet : ByteArray := prog_13_method_74_code
def yX11_isSheet : MethodName := ⟨RX11, "isSheet", "(I)Z"⟩
abbrev cX11_sheet : ByteArray := prog_13_method_75_code
def yX11_sheet : MethodName := ⟨RX11, "sheet", "(III)I"⟩
abbrev cX11_cutTo : ByteArray := prog_13_method_76_code
def yX11_cutTo : MethodName := ⟨RX11, "cutTo", "(II)I"⟩
abbrev cX11_cell : ByteArray := prog_13_method_77_code
def yX11_cell : MethodName := ⟨RX11, "cell", "(III)I"⟩
abbrev cX11_copy : ByteArray := prog_13_method_78_code
def yX11_copy : MethodName := ⟨RX11, "copy", "(IIIII)I"⟩
abbrev cX11_newsRow : ByteArray := prog_13_method_79_code
def yX11_newsRow : MethodName := ⟨RX11, "newsRow", "(IIIII)I"⟩
abbrev cX11_taken : ByteArray := prog_13_method_80_code
def yX11_taken : MethodName := ⟨RX11, "taken", "(II)I"⟩
def RJx145de : String := "java/io/Serializable"
def TJx145de : u_T := fun k => match k with
  | _ => ("", "", "", false)
def tyJx145de : Nat → FieldType := fun k => match k with
  | _ => .int
theorem nmJx145de : ∀ a, a < 0 → ∀ b, b < 0 → a ≠ b → (TJx145de a).2.1 ≠ (TJx145de b).2.1 := by decide +kernel
theorem tyJx145de_ok : ∀ k, k < 0 → parseFieldDescriptor (TJx145de k).2.2.1 = some (tyJx145de k) := by decide +kernel
def RJx9f9b0 : String := "java/lang/CharSequence"
def TJx9f9b0 : u_T := fun k => match k with
  | _ => ("", "", "", false)
def tyJx9f9b0 : Nat → FieldType := fun k => match k with
  | _ => .int
theorem nmJx9f9b0 : ∀ a, a < 0 → ∀ b, b < 0 → a ≠ b → (TJx9f9b0 a).2.1 ≠ (TJx9f9b0 b).2.1 := by decide +kernel
theorem tyJx9f9b0_ok : ∀ k, k < 0 → parseFieldDescriptor (TJx9f9b0 k).2.2.1 = some (tyJx9f9b0 k) := by decide +kernel
def RJxb160c : String := "java/lang/Comparable"
def TJxb160c : u_T := fun k => match k with
  | _ => ("", "", "", false)
def tyJxb160c : Nat → FieldType := fun k => match k with
  | _ => .int
theorem nmJxb160c : ∀ a, a < 0 → ∀ b, b < 0 → a ≠ b → (TJxb160c a).2.1 ≠ (TJxb160c b).2.1 := by decide +kernel
theorem tyJxb160c_ok : ∀ k, k < 0 → parseFieldDescriptor (TJxb160c k).2.2.1 = some (tyJxb160c k) := by decide +kernel
def RJ6 : String := "java/lang/Integer"
def TJ6 : u_T := fun k => match k with
  | _ => ("", "", "", false)
def tyJ6 : Nat → FieldType := fun k => match k with
  | _ => .int
theorem nmJ6 : ∀ a, a < 0 → ∀ b, b < 0 → a ≠ b → (TJ6 a).2.1 ≠ (TJ6 b).2.1 := by decide +kernel
theorem tyJ6_ok : ∀ k, k < 0 → parseFieldDescriptor (TJ6 k).2.2.1 = some (tyJ6 k) := by decide +kernel
abbrev cJ6_bitCount_0f7a4 : ByteArray := prog_14_method_49_code
def yJ6_bitCount_0f7a4 : MethodName := ⟨RJ6, "bitCount", "(I)I"⟩
def RJ9 : String := "java/lang/Math"
def TJ9 : u_T := fun k => match k with
  | _ => ("", "", "", false)
def tyJ9 : Nat → FieldType := fun k => match k with
  | _ => .int
theorem nmJ9 : ∀ a, a < 0 → ∀ b, b < 0 → a ≠ b → (TJ9 a).2.1 ≠ (TJ9 b).2.1 := by decide +kernel
theorem tyJ9_ok : ∀ k, k < 0 → parseFieldDescriptor (TJ9 k).2.2.1 = some (tyJ9 k) := by decide +kernel
abbrev cJ9_max_7cf53 : ByteArray := prog_15_method_65_code
def yJ9_max_7cf53 : MethodName := ⟨RJ9, "max", "(II)I"⟩
abbrev cJ9_min_7cf53 : ByteArray := prog_15_method_69_code
def yJ9_min_7cf53 : MethodName := ⟨RJ9, "min", "(II)I"⟩
def RJ0 : String := "java/lang/String"
def TJ0 : u_T := fun k => match k with
  | _ => ("", "", "", false)
def tyJ0 : Nat → FieldType := fun k => match k with
  | _ => .int
theorem nmJ0 : ∀ a, a < 0 → ∀ b, b < 0 → a ≠ b → (TJ0 a).2.1 ≠ (TJ0 b).2.1 := by decide +kernel
theorem tyJ0_ok : ∀ k, k < 0 → parseFieldDescriptor (TJ0 k).2.2.1 = some (tyJ0 k) := by decide +kernel
abbrev cJ0_length_8abf5 : ByteArray := prog_16_method_54_code
def yJ0_length_8abf5 : MethodName := ⟨RJ0, "length", "()I"⟩
abbrev cJ0_charAt_5068e : ByteArray := prog_16_method_56_code
def yJ0_charAt_5068e : MethodName := ⟨RJ0, "charAt", "(I)C"⟩
abbrev cJ0_coder_7d493 : ByteArray := prog_16_method_152_code
def yJ0_coder_7d493 : MethodName := ⟨RJ0, "coder", "()B"⟩
abbrev cJ0_isLatin1_aae02 : ByteArray := prog_16_method_154_code
def yJ0_isLatin1_aae02 : MethodName := ⟨RJ0, "isLatin1", "()Z"⟩
abbrev cJ0_checkIndex_df160 : ByteArray := prog_16_method_155_code
def yJ0_checkIndex_df160 : MethodName := ⟨RJ0, "checkIndex", "(II)V"⟩
def RJ1 : String := "java/lang/StringLatin1"
def TJ1 : u_T := fun k => match k with
  | _ => ("", "", "", false)
def tyJ1 : Nat → FieldType := fun k => match k with
  | _ => .int
theorem nmJ1 : ∀ a, a < 0 → ∀ b, b < 0 → a ≠ b → (TJ1 a).2.1 ≠ (TJ1 b).2.1 := by decide +kernel
theorem tyJ1_ok : ∀ k, k < 0 → parseFieldDescriptor (TJ1 k).2.2.1 = some (tyJ1 k) := by decide +kernel
abbrev cJ1_charAt_3b067 : ByteArray := prog_17_method_2_code
def yJ1_charAt_3b067 : MethodName := ⟨RJ1, "charAt", "([BI)C"⟩
def RJ2 : String := "java/lang/StringUTF16"
def TJ2 : u_T := fun k => match k with
  | _ => ("", "", "", false)
def tyJ2 : Nat → FieldType := fun k => match k with
  | _ => .int
theorem nmJ2 : ∀ a, a < 0 → ∀ b, b < 0 → a ≠ b → (TJ2 a).2.1 ≠ (TJ2 b).2.1 := by decide +kernel
theorem tyJ2_ok : ∀ k, k < 0 → parseFieldDescriptor (TJ2 k).2.2.1 = some (tyJ2 k) := by decide +kernel
abbrev cJ2_getChar_3b067 : ByteArray := prog_18_method_5_code
def yJ2_getChar_3b067 : MethodName := ⟨RJ2, "getChar", "([BI)C"⟩
abbrev cJ2_length_9d52b : ByteArray := prog_18_method_6_code
def yJ2_length_9d52b : MethodName := ⟨RJ2, "length", "([B)I"⟩
abbrev cJ2_charAt_3b067 : ByteArray := prog_18_method_83_code
def yJ2_charAt_3b067 : MethodName := ⟨RJ2, "charAt", "([BI)C"⟩
abbrev cJ2_checkIndex_2214a : ByteArray := prog_18_method_91_code
def yJ2_checkIndex_2214a : MethodName := ⟨RJ2, "checkIndex", "(I[B)V"⟩
def RJ10 : String := "java/lang/System"
def TJ10 : u_T := fun k => match k with
  | _ => ("", "", "", false)
def tyJ10 : Nat → FieldType := fun k => match k with
  | _ => .int
theorem nmJ10 : ∀ a, a < 0 → ∀ b, b < 0 → a ≠ b → (TJ10 a).2.1 ≠ (TJ10 b).2.1 := by decide +kernel
theorem tyJ10_ok : ∀ k, k < 0 → parseFieldDescriptor (TJ10 k).2.2.1 = some (tyJ10 k) := by decide +kernel
def RJxfd54e : String := "java/lang/constant/Constable"
def TJxfd54e : u_T := fun k => match k with
  | _ => ("", "", "", false)
def tyJxfd54e : Nat → FieldType := fun k => match k with
  | _ => .int
theorem nmJxfd54e : ∀ a, a < 0 → ∀ b, b < 0 → a ≠ b → (TJxfd54e a).2.1 ≠ (TJxfd54e b).2.1 := by decide +kernel
theorem tyJxfd54e_ok : ∀ k, k < 0 → parseFieldDescriptor (TJxfd54e k).2.2.1 = some (tyJxfd54e k) := by decide +kernel
def RJx3cf43 : String := "java/lang/constant/ConstantDesc"
def TJx3cf43 : u_T := fun k => match k with
  | _ => ("", "", "", false)
def tyJx3cf43 : Nat → FieldType := fun k => match k with
  | _ => .int
theorem nmJx3cf43 : ∀ a, a < 0 → ∀ b, b < 0 → a ≠ b → (TJx3cf43 a).2.1 ≠ (TJx3cf43 b).2.1 := by decide +kernel
theorem tyJx3cf43_ok : ∀ k, k < 0 → parseFieldDescriptor (TJx3cf43 k).2.2.1 = some (tyJx3cf43 k) := by decide +kernel
def RJ7 : String := "java/util/Arrays"
def TJ7 : u_T := fun k => match k with
  | _ => ("", "", "", false)
def tyJ7 : Nat → FieldType := fun k => match k with
  | _ => .int
theorem nmJ7 : ∀ a, a < 0 → ∀ b, b < 0 → a ≠ b → (TJ7 a).2.1 ≠ (TJ7 b).2.1 := by decide +kernel
theorem tyJ7_ok : ∀ k, k < 0 → parseFieldDescriptor (TJ7 k).2.2.1 = some (tyJ7 k) := by decide +kernel
abbrev cJ7_fill_53178 : ByteArray := prog_20_method_103_code
def yJ7_fill_53178 : MethodName := ⟨RJ7, "fill", "([II)V"⟩
def RJ3 : String := "jdk/internal/util/Preconditions"
def TJ3 : u_T := fun k => match k with
  | _ => ("", "", "", false)
def tyJ3 : Nat → FieldType := fun k => match k with
  | _ => .int
theorem nmJ3 : ∀ a, a < 0 → ∀ b, b < 0 → a ≠ b → (TJ3 a).2.1 ≠ (TJ3 b).2.1 := by decide +kernel
theorem tyJ3_ok : ∀ k, k < 0 → parseFieldDescriptor (TJ3 k).2.2.1 = some (tyJ3 k) := by decide +kernel
abbrev cJ3_checkIndex_8e157 : ByteArray := prog_21_method_11_code
def yJ3_checkIndex_8e157 : MethodName := ⟨RJ3, "checkIndex", "(IILjava/util/function/BiFunction;)I"⟩
def RL : String := "FloodCityLaw"
abbrev cL_law : ByteArray := code
def yL_law : MethodName := ⟨RL, "law", "([I)Z"⟩
end
section
/-! ===== the T layer: a pure memory (shape, ints, references), and walks over it ===== -/
abbrev fc_MI : Type := MethodName × ByteArray × Nat × Option FieldType × Option (Nat × (Nat → Int32))
abbrev fc_Sh : Type := List (Nat × Nat)
abbrev fc_I : Type := Nat → Nat → Int32
abbrev fc_P : Type := Nat → Nat → Option Nat
def fc_tbl : List Cond := lw_tbl.filter goodWord
theorem fc_good : GoodIn fc_tbl fc_tbl := fun w hw => ⟨hw, good_of_word (List.mem_filter.mp hw).2⟩
theorem fc_mem {w : Cond} (i : Nat) (h : lw_tbl[i]? = some w) (g : goodWord w = true) : w ∈ fc_tbl := List.mem_filter.mpr ⟨List.mem_of_getElem? h, g⟩
abbrev fc_cl : List vw_C := [(RX0, TX0, 9), (RX1, TX1, 5), (RX2, TX2, 10), (RX3, TX3, 8), (RX4, TX4, 7), (RX5, TX5, 10), (RX6, TX6, 6), (RX7, TX7, 3), (RX8, TX8, 12), (RX9, TX9, 4), (RX10, TX10, 9), (RX11, TX11, 75)]
def fc_ty (ci k : Nat) : FieldType := match ci with
  | 0 => tyX0 k
  | 1 => tyX1 k
  | 2 => tyX2 k
  | 3 => tyX3 k
  | 4 => tyX4 k
  | 5 => tyX5 k
  | 6 => tyX6 k
  | 7 => tyX7 k
  | 8 => tyX8 k
  | 9 => tyX9 k
  | 10 => tyX10 k
  | _ => tyX11 k
def fc_isR (t : FieldType) : Bool := match t with
  | .array _ => true
  | .object _ => true
  | _ => false
def fc_fv (as : Nat → Nat) (I : fc_I) (P : fc_P) (c ci k : Nat) : Value := if fc_isR (fc_ty ci k) = true then va_rf ((P c k).map as) else .int (I c k)
def fc_cell (β : Nat → ClassId) (as : Nat → Nat) (I : fc_I) (P : fc_P) (c : Nat) (q : Nat × Nat) : va_E :=
  if q.1 < 4 then .inl (β q.1, q.2, .inl (I c))
  else if q.1 < 10 then .inl (β 4, q.2, .inr (.inr (.inr (.inr (fun j => (P c j).map as)))))
  else .inr (q.1 - 10, (List.range q.2).map (fun k => fc_fv as I P c (q.1 - 10) k))
def fc_w (β : Nat → ClassId) (as : Nat → Nat) (sh : fc_Sh) (I : fc_I) (P : fc_P) : va_W := sh.mapIdx (fun c q => (as c, fc_cell β as I P c q))
abbrev fc_tys (β : Nat → ClassId) : List (ClassId × FieldType) := [(β 0, .int), (β 1, .byte), (β 2, .boolean), (β 3, .char), (β 4, .array .int)]
theorem fc_w_at {β : Nat → ClassId} {as : Nat → Nat} {sh : fc_Sh} {I : fc_I} {P : fc_P} {c : Nat} {q : Nat × Nat} (h : sh[c]? = some q) : (fc_w β as sh I P)[c]? = some (as c, fc_cell β as I P c q) := by
  simp [fc_w, h]
theorem fc_w_len {β : Nat → ClassId} {as : Nat → Nat} {sh : fc_Sh} {I : fc_I} {P : fc_P} : (fc_w β as sh I P).length = sh.length := by simp [fc_w]
theorem fc_w_of {β : Nat → ClassId} {as : Nat → Nat} {sh : fc_Sh} {I : fc_I} {P : fc_P} {c : Nat} {x : Nat × va_E} (h : (fc_w β as sh I P)[c]? = some x) : ∃ q, sh[c]? = some q ∧ x = (as c, fc_cell β as I P c q) := by
  simp only [fc_w, List.getElem?_mapIdx, Option.map_eq_some_iff] at h
  obtain ⟨q, h1, h2⟩ := h
  exact ⟨q, h1, h2.symm⟩
/-- a cell put anew -/
theorem fc_w_set {β : Nat → ClassId} {as : Nat → Nat} {sh : fc_Sh} {I I' : fc_I} {P P' : fc_P} {c : Nat} {q : Nat × Nat} (h : sh[c]? = some q) (hI : ∀ c', c' ≠ c → I' c' = I c') (hP : ∀ c', c' ≠ c → P' c' = P c') : (fc_w β as sh I P).set c (as c, fc_cell β as I' P' c q) = fc_w β as sh I' P' := by
  apply List.ext_getElem?
  intro i
  rw [List.getElem?_set]
  by_cases e : c = i
  · subst e
    have hl : c < sh.length := (List.getElem?_eq_some_iff.mp h).1
    rw [if_pos rfl, if_pos (by rw [fc_w_len]; exact hl), fc_w_at h]
  · rw [if_neg e]
    simp only [fc_w, List.getElem?_mapIdx]
    cases sh[i]? with
    | none => rfl
    | some r => simp [fc_cell, fc_fv, hI i (fun z => e z.symm), hP i (fun z => e z.symm)]
/-- other addresses for cells that aren't there -/
def fc_ext (n n' : Nat) (as as' : Nat → Nat) : Prop := ∀ c, ¬ (n ≤ c ∧ c < n') → as' c = as c
theorem fc_ext.rf {n : Nat} {as : Nat → Nat} : fc_ext n n as as := fun _ _ => rfl
theorem fc_ext.eq {n : Nat} {as as' : Nat → Nat} (h : fc_ext n n as as') : as' = as := funext fun c => h c (by omega)
theorem fc_ext.tr {a b c : Nat} {x y z : Nat → Nat} (h1 : fc_ext a b x y) (h2 : fc_ext b c y z) (hab : a ≤ b) (hbc : b ≤ c) : fc_ext a c x z := fun k hk => by
  rw [h2 k (by omega), h1 k (by omega)]
def fc_cv (as : Nat → Nat) (v : Value) : Value := match v with
  | .ref c => .ref (as c)
  | v => v
/-- few cells, and no reference leads beyond them -/
def fc_ok (sh : fc_Sh) (P : fc_P) : Prop := sh.length ≤ 1000 ∧ ∀ c j v, P c j = some v → v < sh.length
def fc_W (β : Nat → ClassId) (D : va_G) (A : Nat → Prop) (as : Nat → Nat) (sh : fc_Sh) (I : fc_I) (P : fc_P) (U : State) (H : Heap) : Prop :=
  va_P D fc_cl (fc_w β as sh I P) H ∧ va_D A (fc_w β as sh I P) ∧ va_K D fc_cl (fc_tys β) U
/-- the locals that are known -/
def fc_lv (as : Nat → Nat) (ls : List (Option Value)) : List (Nat × Value) := (ls.mapIdx (fun i v => (i, v))).filterMap (fun q => q.2.map (fun v => (q.1, fc_cv as v)))
theorem fc_lv_mem {as : Nat → Nat} {ls : List (Option Value)} {i : Nat} {v : Value} (h : ls[i]? = some (some v)) : (i, fc_cv as v) ∈ fc_lv as ls := by
  refine List.mem_filterMap.mpr ⟨(i, some v), List.mem_of_getElem? (i := i) (by simp [h]), rfl⟩
theorem fc_lv_of {as : Nat → Nat} {ls : List (Option Value)} {x : Nat × Value} (h : x ∈ fc_lv as ls) : ∃ v, ls[x.1]? = some (some v) ∧ x.2 = fc_cv as v := by
  obtain ⟨⟨i, o⟩, h1, h2⟩ := List.mem_filterMap.mp h
  obtain ⟨j, hj⟩ := List.mem_iff_getElem?.mp h1
  simp only [List.getElem?_mapIdx, Option.map_eq_some_iff] at hj
  obtain ⟨w, hw, e⟩ := hj
  cases e
  cases o with
  | none => simp at h2
  | some v =>
    simp at h2
    subst h2
    exact ⟨v, hw, rfl⟩
/-- what is outside the own world: texts, a static row, statics of the library, words of nest mates -/
def fc_strs : List (String × Nat × String × Nat) := [("FloodCity", 44, "heed 20 + since * 10 ; stop 60 < wind ;", 0), ("FloodCity$Reader", 87, "since", 1), ("FloodCity$Reader", 93, "height", 2), ("FloodCity$Reader", 95, "wind", 3), ("FloodCity$Reader", 97, "left", 4), ("FloodCity$Reader", 99, "crowd", 5), ("FloodCity$Reader", 101, "zone", 6), ("FloodCity$Reader", 103, "heed", 7), ("FloodCity$Reader", 105, "stop", 8), ("FloodCity$Reader", 107, "or", 9), ("FloodCity$Reader", 109, "and", 10), ("FloodCity$Reader", 111, "not", 11)]
def fc_byt : List (List Int32) := [[104, 101, 101, 100, 32, 50, 48, 32, 43, 32, 115, 105, 110, 99, 101, 32, 42, 32, 49, 48, 32, 59, 32, 115, 116, 111, 112, 32, 54, 48, 32, 60, 32, 119, 105, 110, 100, 32, 59], [115, 105, 110, 99, 101], [104, 101, 105, 103, 104, 116], [119, 105, 110, 100], [108, 101, 102, 116], [99, 114, 111, 119, 100], [122, 111, 110, 101], [104, 101, 101, 100], [115, 116, 111, 112], [111, 114], [97, 110, 100], [110, 111, 116]]
def fc_len : List Nat := [39, 5, 6, 4, 4, 5, 4, 4, 4, 2, 3, 3]
def fc_kab : List Int32 := [-1, 0, 0, 1, 2, 0]
def fc_nest : List (String × Nat × MethodName × String) := [("FloodCity", 18, ⟨"FloodCity$Roads", "<init>", "()V"⟩, "FloodCity"), ("FloodCity", 25, ⟨"FloodCity$Buses", "<init>", "()V"⟩, "FloodCity"), ("FloodCity", 39, ⟨"FloodCity$Book", "<init>", "()V"⟩, "FloodCity"), ("FloodCity$Storm", 46, ⟨"FloodCity", "isNoTrack", "(I)Z"⟩, "FloodCity"), ("FloodCity$Storm", 50, ⟨"FloodCity", "isOutside", "(III)Z"⟩, "FloodCity"), ("FloodCity$Hours", 138, ⟨"FloodCity", "isOutside", "(III)Z"⟩, "FloodCity")]
def fc_env (ex : Nat → Nat) (A : Nat → Prop) (U : State) (H : Heap) : Prop :=
  vk_S 12 fc_len fc_byt ex (fun k => ex (200 + k)) A U H ∧ (∀ q ∈ fc_strs, vk_R q.1 q.2.1 q.2.2.1 (ex q.2.2.2) U) ∧
  va_Z "FloodCity" "KIND_ABOVE" "[I" (.ref (ex 100)) A U H ∧ va_T .int (ex 100) 6 (fun j => .int (fc_kab.getD j 0)) A U H ∧
  va_Z "java/lang/String" "COMPACT_STRINGS" "Z" (.int 1) A U H ∧ (va_Z "jdk/internal/util/Preconditions" "SIOOBE_FORMATTER" "Ljava/util/function/BiFunction;" .null A U H ∨ va_Z "jdk/internal/util/Preconditions" "SIOOBE_FORMATTER" "Ljava/util/function/BiFunction;" (.ref (ex 300)) A U H) ∧
  (∀ q ∈ fc_nest, va_Nw (.methodLinkNest q.1 q.2.1 q.2.2.1 q.2.2.2) U) ∧ va_Nw (.fieldLinkNest "FloodCity$Roads" 31 "FloodCity" "KIND_ABOVE" "[I" "FloodCity") U
theorem fc_env.to {ex : Nat → Nat} {A B : Nat → Prop} {s U : State} {H : Heap} {locs : List Loc} (h : fc_env ex A s s.heap) (hAB : ∀ q, B q → A q) (hS : va_S A s.heap H locs) (hU : U.heap = H) (hW : s.WarmedH U.vm) : fc_env ex B U U.heap := by
  obtain ⟨h1, h2, h3, h4, h5, h6, h7, h8⟩ := h
  have hvm := hW.alike
  rw [hU]
  exact ⟨((h1.moved hvm).kept hS.2.1).narrow hAB, fun q hq => (h2 q hq).warm hW, ((h3.moved hvm).kept hS.2.1).narrow hAB, ((h4.moved hvm).kept hS.2.1).narrow hAB, ((h5.moved hvm).kept hS.2.1).narrow hAB, h6.imp (fun z => ((z.moved hvm).kept hS.2.1).narrow hAB) (fun z => ((z.moved hvm).kept hS.2.1).narrow hAB), fun q hq => (h7 q hq).warmM hW, h8.warmF hW⟩
theorem fc_env.same {ex : Nat → Nat} {A : Nat → Prop} {u U : State} {H : Heap} (h : fc_env ex A u H) (hv : U.vm = u.vm) : fc_env ex A U H := by
  obtain ⟨h1, h2, h3, h4, h5, h6, h7, h8⟩ := h
  have hvm : u.vm.Alike U.vm := by rw [hv]; exact Vm.Alike.refl _
  exact ⟨h1.moved hvm, fun q hq => (h2 q hq).same hv, h3.moved hvm, h4.moved hvm, h5.moved hvm, h6.imp (fun z => z.moved hvm) (fun z => z.moved hvm), fun q hq => (h7 q hq).same rfl hv.symm, h8.same rfl hv.symm⟩
abbrev fc_ex (as : Nat → Nat) : Nat → Nat := fun k => as (1000 + k)
/-- what stays through a frame -/
def fc_Ctx (m : fc_MI) (d : Nat) (p : Program) (R : Room) (s : State) (mm : MethodId) (args : Array Value) (meth : Method) (c : Code) (A : Nat → Prop) (ex : Nat → Nat) : Prop :=
  p.tables.exec = Jvm.exec ∧ c.code = m.2.1 ∧ c.maxLocals = m.2.2.1 ∧ s.vm.findClass m.1.cls = some mm.cls ∧ (∀ w ∈ fc_tbl, w.before args s = true) ∧ meth.name = m.1.name ∧ d ≤ R.frames ∧ 64 * d ≤ R.locals ∧ (∀ q, s.heap.size ≤ q → A q) ∧ fc_env ex A s s.heap ∧ ∀ (L : Nat) (xs : Nat → Int32), m.2.2.2.2 = some (L, xs) → va_X (ex 400) L xs s s.heap ∧ ex 400 < s.heap.size ∧ ¬ A (ex 400)
/-- v is what the method's return at pc gives -/
def fc_isRet (m : fc_MI) (pc : Nat) (v : Option Value) : Prop :=
  (∃ (x : Int32) (ty : FieldType), v = some (.int x) ∧ m.2.2.2.1 = some ty ∧ narrow ty (.int x) = .int x ∧ decode m.2.1 pc = .ok (.ireturn, 1)) ∨
  (∃ x : Int64, v = some (.long x) ∧ m.2.2.2.1 = some .long ∧ decode m.2.1 pc = .ok (.lreturn, 1)) ∨ (v = none ∧ m.2.2.2.1 = none ∧ decode m.2.1 pc = .ok (.return_, 1))
abbrev fc_Q : Type := Option Value → fc_Sh → fc_I → fc_P → Prop
/-- from here the method comes to a return with Q -/
def fc_T (m : fc_MI) (d nb zb : Nat) (pc : Nat) (ls : List (Option Value)) (st : List Value) (sh : fc_Sh) (I : fc_I) (P : fc_P) (Q : fc_Q) : Prop :=
  ∀ (p : Program) (l : Launch) (e : Env) (R : Room) (s : State) (mm : MethodId) (args : Array Value) (below : List Frame) (meth : Method) (c : Code) (β : Nat → ClassId) (D : va_G) (A : Nat → Prop) (as : Nat → Nat) (H : Heap) (locs : List Loc) (cells slots Nt Zt : Nat) (lsA : Array Slot) (QF : State → Prop),
  fc_Ctx m d p R s mm args meth c A (fc_ex as) → (cells + nb ≤ Nt ∧ slots + zb ≤ Zt ∧ Nt ≤ R.cells ∧ Zt ≤ R.slots) → fc_ok sh P →
  fc_W β D A as sh I P s H → va_S A s.heap H locs → lv_has lsA m.2.2.1 (fc_lv as ls) →
  (∀ (pc' : Nat) (lsA' : Array Slot) (v : Option Value) (sh' : fc_Sh) (I' : fc_I) (P' : fc_P) (as' : Nat → Nat) (H' : Heap) (locs' : List Loc) (cells' slots' : Nat), fc_isRet m pc' v → Q v sh' I' P' → sh.length ≤ sh'.length → fc_ok sh' P' → fc_ext sh.length sh'.length as as' → cells' ≤ Nt → slots' ≤ Zt → fc_W β D A as' sh' I' P' s H' → va_S A s.heap H' locs' →
    W p l e R s mm args below meth c H' locs' cells' slots' QF (F0 mm pc' lsA' (v.toList.map (fc_cv as')))) →
  W p l e R s mm args below meth c H locs cells slots QF (F0 mm pc lsA (st.map (fc_cv as)))
/-- a method's contract -/
def fc_Pc (β : Nat → ClassId) (D : va_G) (as : Nat → Nat) (av : List Value) (sh : fc_Sh) (I : fc_I) (P : fc_P) (sz : Nat) : Array Value → State → Prop := fun v U => v = (av.map (fc_cv as)).toArray ∧ U.heap.size = sz ∧ fc_W β D (fun _ => True) as sh I P U U.heap ∧ fc_env (fc_ex as) (va_A (fc_w β as sh I P) sz) U U.heap
def fc_Qc (β : Nat → ClassId) (D : va_G) (as : Nat → Nat) (n : Nat) (A : Nat → Prop) (Q : fc_Q) : Array Value → State → Outcome → State → Prop := fun _ st o t =>
  (∃ (v : Option Value) (sh' : fc_Sh) (I' : fc_I) (P' : fc_P) (as' : Nat → Nat), o = .returned (v.map (fc_cv as')) ∧ Q v sh' I' P' ∧ n ≤ sh'.length ∧ fc_ok sh' P' ∧ fc_ext n sh'.length as as' ∧ fc_W β D A as' sh' I' P' t t.heap) ∧ va_F A st t
def fc_C (m : fc_MI) (d nb zb : Nat) (av : List Value) (sh : fc_Sh) (I : fc_I) (P : fc_P) (Q : fc_Q) : Prop :=
  fc_ok sh P → ∀ (l : Launch) (β : Nat → ClassId) (D : va_G) (as : Nat → Nat) (sz : Nat), Met l m.1 (Cond.code m.1 m.2.1 m.2.2.1 m.2.2.2.1 :: fc_tbl) { frames := d, cells := nb, slots := zb, locals := 64 * d } (fc_Pc β D as av sh I P sz) (fc_Qc β D as sh.length (va_A (fc_w β as sh I P) sz) Q) nb zb (va_A (fc_w β as sh I P) sz)
theorem fc_W.alike {β : Nat → ClassId} {D : va_G} {A : Nat → Prop} {as : Nat → Nat} {sh : fc_Sh} {I : fc_I} {P : fc_P} {u U : State} {H : Heap} (hvm : u.vm.Alike U.vm) (h : fc_W β D A as sh I P u H) : fc_W β D A as sh I P U H := ⟨h.1, h.2.1, h.2.2.moved hvm⟩
theorem fc_W.weak {β : Nat → ClassId} {D : va_G} {A B : Nat → Prop} {as : Nat → Nat} {sh : fc_Sh} {I : fc_I} {P : fc_P} {U : State} {H : Heap} (h : fc_W β D A as sh I P U H) (hAB : ∀ q, A q → B q) : fc_W β D B as sh I P U H := ⟨h.1, h.2.1.weaken (fun _ q _ hq => hAB q.1 hq), h.2.2⟩
theorem fc_cv_cat (as : Nat → Nat) (v : Value) : (fc_cv as v).category = v.category := by cases v <;> rfl
/-- the locals at the start -/
def fc_arg : List Value → List (Option Value)
  | [] => []
  | v :: r => if v.category = 2 then some v :: none :: fc_arg r else some v :: fc_arg r
theorem fc_arg_lv (as : Nat → Nat) : ∀ (av : List Value) (n j : Nat) (v : Value), (fc_arg av)[j]? = some (some v) → (n + j, fc_cv as v) ∈ lv_args n (av.map (fc_cv as))
  | [], n, j, v, h => by simp [fc_arg] at h
  | w :: r, n, j, v, h => by
    unfold fc_arg at h
    simp only [List.map_cons, lv_args, fc_cv_cat]
    by_cases hc : w.category = 2
    · rw [if_pos hc] at h ⊢
      match j, h with
      | 0, h => simp at h; subst h; simp
      | 1, h => simp at h
      | j + 2, h =>
        have ih := fc_arg_lv as r (n + 2) j v (by simpa using h)
        rw [show n + (j + 2) = n + 2 + j by omega]
        exact List.mem_cons_of_mem _ ih
    · rw [if_neg hc] at h ⊢
      match j, h with
      | 0, h => simp at h; subst h; simp
      | j + 1, h =>
        have ih := fc_arg_lv as r (n + 1) j v (by simpa using h)
        rw [show n + (j + 1) = n + 1 + j by omega]
        exact List.mem_cons_of_mem _ ih
theorem fc_lv_arg {as : Nat → Nat} {av : List Value} {ls : Array Slot} {n k : Nat} (h : lv_has ls n (lv_args 0 (av.map (fc_cv as)))) : lv_has ls n (fc_lv as (fc_arg av ++ List.replicate k none)) := by
  refine ⟨h.1, h.2.1, fun x hx => ?_⟩
  obtain ⟨v, h1, h2⟩ := fc_lv_of hx
  have h1 : (fc_arg av)[x.1]? = some (some v) := by
    rw [List.getElem?_append] at h1
    split at h1
    · exact h1
    · rw [List.getElem?_replicate] at h1
      split at h1 <;> simp at h1
  have h3 := fc_arg_lv as av 0 x.1 v h1
  rw [Nat.zero_add] at h3
  rw [h2]
  exact h.2.2 _ h3
theorem fc_sl_len (as : Nat → Nat) : ∀ av : List Value, (lg_sl (av.map (fc_cv as))).length = (fc_arg av).length
  | [] => rfl
  | v :: r => by
    have ih := fc_sl_len as r
    unfold lg_sl at ih ⊢
    simp only [List.map_cons, List.flatMap_cons, List.length_append, fc_cv_cat, fc_arg]
    by_cases hc : v.category = 2
    · simp only [if_pos hc, List.length_cons, List.length_nil]; omega
    · simp only [if_neg hc, List.length_cons, List.length_nil]; omega
theorem fc_own {β : Nat → ClassId} {as : Nat → Nat} {sh : fc_Sh} {I : fc_I} {P : fc_P} {D : va_G} {A : Nat → Prop} {U : State} {H0 H : Heap} {locs : List Loc} (h : fc_W β D A as sh I P U H) (hS : va_S A H0 H locs) (hA : ∀ q, H0.size ≤ q → A q) : ∀ q, va_A (fc_w β as sh I P) H.size q → A q := by
  intro q hq
  rcases hq with ⟨k, e, hk⟩ | hq
  · exact h.2.1.2 k (q, e) hk
  · exact hA q (Nat.le_trans hS.1 hq)
set_option maxHeartbeats 4000000 in
/-- a contract out of a walk from the entry -/
theorem fc_C.of {m : fc_MI} {d nb zb : Nat} {av : List Value} {sh : fc_Sh} {I : fc_I} {P : fc_P} {Q : fc_Q} (hy : plainName m.1.cls = true ∧ m.2.2.2.2 = none) (hl : (fc_arg av).length ≤ m.2.2.1) {ls : List (Option Value)} (hls : fc_arg av ++ List.replicate (m.2.2.1 - (fc_arg av).length) none = ls) (h : fc_T m d nb zb 0 ls [] sh I P Q) : fc_C m d nb zb av sh I P Q := by
  intro h1000 l β D as sz
  subst hls
  refine Met.ofW (cc := m.2.1) (maxL := m.2.2.1) (ret := m.2.2.2.1) hy.1 rfl ?_
  intro p e s mm args below meth c s₁ B hml hv
  obtain ⟨rfl, hsz, hW, hE⟩ := hv
  subst hsz
  have hts := atoms_spec (ws := Cond.code m.1 m.2.1 m.2.2.1 m.2.2.2.1 :: fc_tbl) B.pre
  have hown : s.vm.findClass m.1.cls = some mm.cls := findClass_of_methodNamed B.named
  have hin : meth.name = m.1.name := (name_of_methodNamed B.named B.method).1
  have hWA : fc_W β D (va_A (fc_w β as sh I P) s.heap.size) as sh I P s s.heap := ⟨hW.1, hW.2.1.self, hW.2.2⟩
  have hlocks := B.notSynchronized
  have hret := B.returns
  have hl2 := lv_entry (av.map (fc_cv as)) (n := m.2.2.1) (by rw [fc_sl_len]; exact hl)
  rw [lg_entry_eq]
  generalize (lg_sl (av.map (fc_cv as)) ++ List.replicate (m.2.2.1 - (lg_sl (av.map (fc_cv as))).length) Slot.unset).toArray = lsA at hl2 ⊢
  refine h p l e _ s mm _ below meth c β D (va_A (fc_w β as sh I P) s.heap.size) as s.heap [] 0 0 nb zb lsA _ ⟨B.exec, B.bytes, hml, hown, fun w hw => hts w (List.mem_cons_of_mem _ hw), hin, Nat.le_refl _, Nat.le_refl _, fun q hq => Or.inr hq, hE, fun L xs h => by rw [hy.2] at h; cases h⟩ ⟨by omega, by omega, Nat.le_refl _, Nat.le_refl _⟩ h1000 hWA va_S.rf (fc_lv_arg hl2) ?_
  intro pc' lsA' v sh' I' P' as' H' locs' cells' slots' hr hQ hn hn2 hx hc hs hW' hS'
  refine W.widen (k := nb) (n := zb) hc hs ?_
  have key : ∀ (o : Outcome) (t : State), o = .returned (v.map (fc_cv as')) → t.heap = H' → s.WarmedH t.vm → fc_Qc β D as sh.length (va_A (fc_w β as sh I P) s.heap.size) Q (av.map (fc_cv as)).toArray s o t := by
    intro o t ho ht hwm
    subst ht
    exact ⟨⟨v, sh', I', P', as', ho, hQ, hn, hn2, hx, hW'.alike hwm.alike⟩, hS'.F rfl⟩
  rcases hr with ⟨x, ty, rfl, h1, h2, h3⟩ | ⟨x, rfl, h1, h3⟩ | ⟨rfl, h1, h3⟩
  · exact W.zret B.exec B.bytes (hret.trans h1) h2 (fun t ht hwm => key _ t rfl ht hwm) hS'.2.2 h3
  · exact W.lret B.exec B.bytes (hret.trans h1) (fun t ht hwm => key _ t rfl ht hwm) hS'.2.2 h3
  · exact W.vret B.exec B.bytes (hret.trans h1) (fun t ht hwm => key _ t rfl ht hwm) hS'.2.2 h3
end
section
section RULES
variable {m : fc_MI} {d nb zb pc : Nat} {ls : List (Option Value)} {st : List Value} {sh : fc_Sh} {I : fc_I} {P : fc_P} {Q : fc_Q}

theorem ft_iadd {x y : Int32} (hd : decode m.2.1 pc = .ok (.iadd, 1)) (k : fc_T m d nb zb (pc + 1) ls (.int (x + y) :: st) sh I P Q) : fc_T m d nb zb pc ls (.int y :: .int x :: st) sh I P Q := fun p l e R s mm args below meth c β D A as H locs cells slots Nt Zt lsA QF C hb h1 hW hS hl hF => lv_iadd C.1 C.2.1 hd (k p l e R s mm args below meth c β D A as H locs cells slots Nt Zt lsA QF C hb h1 hW hS hl hF)
theorem ft_isub {x y : Int32} (hd : decode m.2.1 pc = .ok (.isub, 1)) (k : fc_T m d nb zb (pc + 1) ls (.int (x - y) :: st) sh I P Q) : fc_T m d nb zb pc ls (.int y :: .int x :: st) sh I P Q := fun p l e R s mm args below meth c β D A as H locs cells slots Nt Zt lsA QF C hb h1 hW hS hl hF => lv_isub C.1 C.2.1 hd (k p l e R s mm args below meth c β D A as H locs cells slots Nt Zt lsA QF C hb h1 hW hS hl hF)
theorem ft_imul {x y : Int32} (hd : decode m.2.1 pc = .ok (.imul, 1)) (k : fc_T m d nb zb (pc + 1) ls (.int (x * y) :: st) sh I P Q) : fc_T m d nb zb pc ls (.int y :: .int x :: st) sh I P Q := fun p l e R s mm args below meth c β D A as H locs cells slots Nt Zt lsA QF C hb h1 hW hS hl hF => lv_imul C.1 C.2.1 hd (k p l e R s mm args below meth c β D A as H locs cells slots Nt Zt lsA QF C hb h1 hW hS hl hF)
theorem ft_iand {x y : Int32} (hd : decode m.2.1 pc = .ok (.iand, 1)) (k : fc_T m d nb zb (pc + 1) ls (.int (x &&& y) :: st) sh I P Q) : fc_T m d nb zb pc ls (.int y :: .int x :: st) sh I P Q := fun p l e R s mm args below meth c β D A as H locs cells slots Nt Zt lsA QF C hb h1 hW hS hl hF => lv_iand C.1 C.2.1 hd (k p l e R s mm args below meth c β D A as H locs cells slots Nt Zt lsA QF C hb h1 hW hS hl hF)
theorem ft_ior {x y : Int32} (hd : decode m.2.1 pc = .ok (.ior, 1)) (k : fc_T m d nb zb (pc + 1) ls (.int (x ||| y) :: st) sh I P Q) : fc_T m d nb zb pc ls (.int y :: .int x :: st) sh I P Q := fun p l e R s mm args below meth c β D A as H locs cells slots Nt Zt lsA QF C hb h1 hW hS hl hF => lv_ior C.1 C.2.1 hd (k p l e R s mm args below meth c β D A as H locs cells slots Nt Zt lsA QF C hb h1 hW hS hl hF)
theorem ft_ixor {x y : Int32} (hd : decode m.2.1 pc = .ok (.ixor, 1)) (k : fc_T m d nb zb (pc + 1) ls (.int (x ^^^ y) :: st) sh I P Q) : fc_T m d nb zb pc ls (.int y :: .int x :: st) sh I P Q := fun p l e R s mm args below meth c β D A as H locs cells slots Nt Zt lsA QF C hb h1 hW hS hl hF => lv_ixor C.1 C.2.1 hd (k p l e R s mm args below meth c β D A as H locs cells slots Nt Zt lsA QF C hb h1 hW hS hl hF)
theorem ft_ishl {x y : Int32} (hd : decode m.2.1 pc = .ok (.ishl, 1)) (k : fc_T m d nb zb (pc + 1) ls (.int (x <<< (y &&& 31)) :: st) sh I P Q) : fc_T m d nb zb pc ls (.int y :: .int x :: st) sh I P Q := fun p l e R s mm args below meth c β D A as H locs cells slots Nt Zt lsA QF C hb h1 hW hS hl hF => lv_ishl C.1 C.2.1 hd (k p l e R s mm args below meth c β D A as H locs cells slots Nt Zt lsA QF C hb h1 hW hS hl hF)
theorem ft_ishr {x y : Int32} (hd : decode m.2.1 pc = .ok (.ishr, 1)) (k : fc_T m d nb zb (pc + 1) ls (.int (x >>> (y &&& 31)) :: st) sh I P Q) : fc_T m d nb zb pc ls (.int y :: .int x :: st) sh I P Q := fun p l e R s mm args below meth c β D A as H locs cells slots Nt Zt lsA QF C hb h1 hW hS hl hF => lv_ishr C.1 C.2.1 hd (k p l e R s mm args below meth c β D A as H locs cells slots Nt Zt lsA QF C hb h1 hW hS hl hF)
theorem ft_idiv {x y : Int32} (hd : decode m.2.1 pc = .ok (.idiv, 1)) (hne : ¬ y = 0) (k : fc_T m d nb zb (pc + 1) ls (.int (x / y) :: st) sh I P Q) : fc_T m d nb zb pc ls (.int y :: .int x :: st) sh I P Q := fun p l e R s mm args below meth c β D A as H locs cells slots Nt Zt lsA QF C hb h1 hW hS hl hF => lv_idiv C.1 C.2.1 hd hne (k p l e R s mm args below meth c β D A as H locs cells slots Nt Zt lsA QF C hb h1 hW hS hl hF)
theorem ft_irem {x y : Int32} (hd : decode m.2.1 pc = .ok (.irem, 1)) (hne : ¬ y = 0) (k : fc_T m d nb zb (pc + 1) ls (.int (x - x / y * y) :: st) sh I P Q) : fc_T m d nb zb pc ls (.int y :: .int x :: st) sh I P Q := fun p l e R s mm args below meth c β D A as H locs cells slots Nt Zt lsA QF C hb h1 hW hS hl hF => lv_irem C.1 C.2.1 hd hne (k p l e R s mm args below meth c β D A as H locs cells slots Nt Zt lsA QF C hb h1 hW hS hl hF)
theorem ft_ineg {x : Int32} (hd : decode m.2.1 pc = .ok (.ineg, 1)) (k : fc_T m d nb zb (pc + 1) ls (.int (-x) :: st) sh I P Q) : fc_T m d nb zb pc ls (.int x :: st) sh I P Q := fun p l e R s mm args below meth c β D A as H locs cells slots Nt Zt lsA QF C hb h1 hW hS hl hF => lv_ineg C.1 C.2.1 hd (k p l e R s mm args below meth c β D A as H locs cells slots Nt Zt lsA QF C hb h1 hW hS hl hF)
theorem ft_ladd {x y : Int64} (hd : decode m.2.1 pc = .ok (.ladd, 1)) (k : fc_T m d nb zb (pc + 1) ls (.long (x + y) :: st) sh I P Q) : fc_T m d nb zb pc ls (.long y :: .long x :: st) sh I P Q := fun p l e R s mm args below meth c β D A as H locs cells slots Nt Zt lsA QF C hb h1 hW hS hl hF => lv_ladd C.1 C.2.1 hd (k p l e R s mm args below meth c β D A as H locs cells slots Nt Zt lsA QF C hb h1 hW hS hl hF)
theorem ft_lsub {x y : Int64} (hd : decode m.2.1 pc = .ok (.lsub, 1)) (k : fc_T m d nb zb (pc + 1) ls (.long (x - y) :: st) sh I P Q) : fc_T m d nb zb pc ls (.long y :: .long x :: st) sh I P Q := fun p l e R s mm args below meth c β D A as H locs cells slots Nt Zt lsA QF C hb h1 hW hS hl hF => lv_lsub C.1 C.2.1 hd (k p l e R s mm args below meth c β D A as H locs cells slots Nt Zt lsA QF C hb h1 hW hS hl hF)
theorem ft_lmul {x y : Int64} (hd : decode m.2.1 pc = .ok (.lmul, 1)) (k : fc_T m d nb zb (pc + 1) ls (.long (x * y) :: st) sh I P Q) : fc_T m d nb zb pc ls (.long y :: .long x :: st) sh I P Q := fun p l e R s mm args below meth c β D A as H locs cells slots Nt Zt lsA QF C hb h1 hW hS hl hF => lv_lmul C.1 C.2.1 hd (k p l e R s mm args below meth c β D A as H locs cells slots Nt Zt lsA QF C hb h1 hW hS hl hF)
theorem ft_land {x y : Int64} (hd : decode m.2.1 pc = .ok (.land, 1)) (k : fc_T m d nb zb (pc + 1) ls (.long (x &&& y) :: st) sh I P Q) : fc_T m d nb zb pc ls (.long y :: .long x :: st) sh I P Q := fun p l e R s mm args below meth c β D A as H locs cells slots Nt Zt lsA QF C hb h1 hW hS hl hF => lv_land C.1 C.2.1 hd (k p l e R s mm args below meth c β D A as H locs cells slots Nt Zt lsA QF C hb h1 hW hS hl hF)
theorem ft_lor {x y : Int64} (hd : decode m.2.1 pc = .ok (.lor, 1)) (k : fc_T m d nb zb (pc + 1) ls (.long (x ||| y) :: st) sh I P Q) : fc_T m d nb zb pc ls (.long y :: .long x :: st) sh I P Q := fun p l e R s mm args below meth c β D A as H locs cells slots Nt Zt lsA QF C hb h1 hW hS hl hF => lv_lor C.1 C.2.1 hd (k p l e R s mm args below meth c β D A as H locs cells slots Nt Zt lsA QF C hb h1 hW hS hl hF)
theorem ft_lxor {x y : Int64} (hd : decode m.2.1 pc = .ok (.lxor, 1)) (k : fc_T m d nb zb (pc + 1) ls (.long (x ^^^ y) :: st) sh I P Q) : fc_T m d nb zb pc ls (.long y :: .long x :: st) sh I P Q := fun p l e R s mm args below meth c β D A as H locs cells slots Nt Zt lsA QF C hb h1 hW hS hl hF => lv_lxor C.1 C.2.1 hd (k p l e R s mm args below meth c β D A as H locs cells slots Nt Zt lsA QF C hb h1 hW hS hl hF)
theorem ft_ldiv {x y : Int64} (hd : decode m.2.1 pc = .ok (.ldiv, 1)) (hne : ¬ y = 0) (k : fc_T m d nb zb (pc + 1) ls (.long (x / y) :: st) sh I P Q) : fc_T m d nb zb pc ls (.long y :: .long x :: st) sh I P Q := fun p l e R s mm args below meth c β D A as H locs cells slots Nt Zt lsA QF C hb h1 hW hS hl hF => lv_ldiv C.1 C.2.1 hd hne (k p l e R s mm args below meth c β D A as H locs cells slots Nt Zt lsA QF C hb h1 hW hS hl hF)
theorem ft_lrem {x y : Int64} (hd : decode m.2.1 pc = .ok (.lrem, 1)) (hne : ¬ y = 0) (k : fc_T m d nb zb (pc + 1) ls (.long (x - x / y * y) :: st) sh I P Q) : fc_T m d nb zb pc ls (.long y :: .long x :: st) sh I P Q := fun p l e R s mm args below meth c β D A as H locs cells slots Nt Zt lsA QF C hb h1 hW hS hl hF => lv_lrem C.1 C.2.1 hd hne (k p l e R s mm args below meth c β D A as H locs cells slots Nt Zt lsA QF C hb h1 hW hS hl hF)
theorem ft_lneg {x : Int64} (hd : decode m.2.1 pc = .ok (.lneg, 1)) (k : fc_T m d nb zb (pc + 1) ls (.long (-x) :: st) sh I P Q) : fc_T m d nb zb pc ls (.long x :: st) sh I P Q := fun p l e R s mm args below meth c β D A as H locs cells slots Nt Zt lsA QF C hb h1 hW hS hl hF => lv_lneg C.1 C.2.1 hd (k p l e R s mm args below meth c β D A as H locs cells slots Nt Zt lsA QF C hb h1 hW hS hl hF)
theorem ft_lshl {x : Int64} {y : Int32} (hd : decode m.2.1 pc = .ok (.lshl, 1)) (k : fc_T m d nb zb (pc + 1) ls (.long (x <<< (y.toInt64 &&& 63)) :: st) sh I P Q) : fc_T m d nb zb pc ls (.int y :: .long x :: st) sh I P Q := fun p l e R s mm args below meth c β D A as H locs cells slots Nt Zt lsA QF C hb h1 hW hS hl hF => lv_lshl C.1 C.2.1 hd rfl (k p l e R s mm args below meth c β D A as H locs cells slots Nt Zt lsA QF C hb h1 hW hS hl hF)
theorem ft_lshr {x : Int64} {y : Int32} (hd : decode m.2.1 pc = .ok (.lshr, 1)) (k : fc_T m d nb zb (pc + 1) ls (.long (x >>> (y.toInt64 &&& 63)) :: st) sh I P Q) : fc_T m d nb zb pc ls (.int y :: .long x :: st) sh I P Q := fun p l e R s mm args below meth c β D A as H locs cells slots Nt Zt lsA QF C hb h1 hW hS hl hF => lv_lshr C.1 C.2.1 hd rfl (k p l e R s mm args below meth c β D A as H locs cells slots Nt Zt lsA QF C hb h1 hW hS hl hF)
theorem ft_iushr {x y : Int32} (hd : decode m.2.1 pc = .ok (.iushr, 1)) (k : fc_T m d nb zb (pc + 1) ls (.int (x.toUInt32 >>> (y.toUInt32 &&& Int32.toUInt32 31)).toInt32 :: st) sh I P Q) : fc_T m d nb zb pc ls (.int y :: .int x :: st) sh I P Q := fun p l e R s mm args below meth c β D A as H locs cells slots Nt Zt lsA QF C hb h1 hW hS hl hF => lv_iushr C.1 C.2.1 hd rfl (k p l e R s mm args below meth c β D A as H locs cells slots Nt Zt lsA QF C hb h1 hW hS hl hF)
theorem ft_lcmp {x y : Int64} (hd : decode m.2.1 pc = .ok (.lcmp, 1)) (k : fc_T m d nb zb (pc + 1) ls (.int (lg_cmp x y) :: st) sh I P Q) : fc_T m d nb zb pc ls (.long y :: .long x :: st) sh I P Q := fun p l e R s mm args below meth c β D A as H locs cells slots Nt Zt lsA QF C hb h1 hW hS hl hF => W.lcmp C.1 C.2.1 hd (k p l e R s mm args below meth c β D A as H locs cells slots Nt Zt lsA QF C hb h1 hW hS hl hF)
theorem ft_i2l {x : Int32} (hd : decode m.2.1 pc = .ok (.i2l, 1)) (k : fc_T m d nb zb (pc + 1) ls (.long x.toInt64 :: st) sh I P Q) : fc_T m d nb zb pc ls (.int x :: st) sh I P Q := fun p l e R s mm args below meth c β D A as H locs cells slots Nt Zt lsA QF C hb h1 hW hS hl hF => lv_i2l C.1 C.2.1 hd rfl (k p l e R s mm args below meth c β D A as H locs cells slots Nt Zt lsA QF C hb h1 hW hS hl hF)
theorem ft_l2i {x : Int64} (hd : decode m.2.1 pc = .ok (.l2i, 1)) (k : fc_T m d nb zb (pc + 1) ls (.int x.toInt32 :: st) sh I P Q) : fc_T m d nb zb pc ls (.long x :: st) sh I P Q := fun p l e R s mm args below meth c β D A as H locs cells slots Nt Zt lsA QF C hb h1 hW hS hl hF => lv_l2i C.1 C.2.1 hd rfl (k p l e R s mm args below meth c β D A as H locs cells slots Nt Zt lsA QF C hb h1 hW hS hl hF)
theorem ft_i2b {x : Int32} (hd : decode m.2.1 pc = .ok (.i2b, 1)) (k : fc_T m d nb zb (pc + 1) ls (.int x.toInt8.toInt32 :: st) sh I P Q) : fc_T m d nb zb pc ls (.int x :: st) sh I P Q := fun p l e R s mm args below meth c β D A as H locs cells slots Nt Zt lsA QF C hb h1 hW hS hl hF => lv_i2b C.1 C.2.1 hd rfl (k p l e R s mm args below meth c β D A as H locs cells slots Nt Zt lsA QF C hb h1 hW hS hl hF)
theorem ft_i2s {x : Int32} (hd : decode m.2.1 pc = .ok (.i2s, 1)) (k : fc_T m d nb zb (pc + 1) ls (.int x.toInt16.toInt32 :: st) sh I P Q) : fc_T m d nb zb pc ls (.int x :: st) sh I P Q := fun p l e R s mm args below meth c β D A as H locs cells slots Nt Zt lsA QF C hb h1 hW hS hl hF => lv_i2s C.1 C.2.1 hd rfl (k p l e R s mm args below meth c β D A as H locs cells slots Nt Zt lsA QF C hb h1 hW hS hl hF)
theorem ft_i2c {x : Int32} (hd : decode m.2.1 pc = .ok (.i2c, 1)) (k : fc_T m d nb zb (pc + 1) ls (.int (x.toUInt32 % 65536).toInt32 :: st) sh I P Q) : fc_T m d nb zb pc ls (.int x :: st) sh I P Q := fun p l e R s mm args below meth c β D A as H locs cells slots Nt Zt lsA QF C hb h1 hW hS hl hF => lv_i2c C.1 C.2.1 hd rfl (k p l e R s mm args below meth c β D A as H locs cells slots Nt Zt lsA QF C hb h1 hW hS hl hF)
theorem ft_iconst {n : Int} {v : Int32} (hd : decode m.2.1 pc = .ok (.iconst n, 1)) (hv : Int32.ofInt n = v) (k : fc_T m d nb zb (pc + 1) ls (.int v :: st) sh I P Q) : fc_T m d nb zb pc ls st sh I P Q := fun p l e R s mm args below meth c β D A as H locs cells slots Nt Zt lsA QF C hb h1 hW hS hl hF => lv_iconst C.1 C.2.1 hd hv (k p l e R s mm args below meth c β D A as H locs cells slots Nt Zt lsA QF C hb h1 hW hS hl hF)
theorem ft_bipush {n : Int} {v : Int32} (hd : decode m.2.1 pc = .ok (.bipush n, 2)) (hv : (Int8.ofInt n).toInt32 = v) (k : fc_T m d nb zb (pc + 2) ls (.int v :: st) sh I P Q) : fc_T m d nb zb pc ls st sh I P Q := fun p l e R s mm args below meth c β D A as H locs cells slots Nt Zt lsA QF C hb h1 hW hS hl hF => lv_bipush C.1 C.2.1 hd hv (k p l e R s mm args below meth c β D A as H locs cells slots Nt Zt lsA QF C hb h1 hW hS hl hF)
theorem ft_sipush {n : Int} {v : Int32} (hd : decode m.2.1 pc = .ok (.sipush n, 3)) (hv : (Int16.ofInt n).toInt32 = v) (k : fc_T m d nb zb (pc + 3) ls (.int v :: st) sh I P Q) : fc_T m d nb zb pc ls st sh I P Q := fun p l e R s mm args below meth c β D A as H locs cells slots Nt Zt lsA QF C hb h1 hW hS hl hF => lv_sipush C.1 C.2.1 hd hv (k p l e R s mm args below meth c β D A as H locs cells slots Nt Zt lsA QF C hb h1 hW hS hl hF)
theorem ft_lconst {n : Fin 2} {v : Int64} (hd : decode m.2.1 pc = .ok (.lconst n, 1)) (hv : Int64.ofNat (n : Nat) = v) (k : fc_T m d nb zb (pc + 1) ls (.long v :: st) sh I P Q) : fc_T m d nb zb pc ls st sh I P Q := fun p l e R s mm args below meth c β D A as H locs cells slots Nt Zt lsA QF C hb h1 hW hS hl hF => lv_lconst C.1 C.2.1 hd hv (k p l e R s mm args below meth c β D A as H locs cells slots Nt Zt lsA QF C hb h1 hW hS hl hF)
theorem ft_ldc {i : Nat} {v : Int32} (hd : decode m.2.1 pc = .ok (.ldc i, 2)) (hw : Cond.constant m.1.cls i v ∈ fc_tbl) (k : fc_T m d nb zb (pc + 2) ls (.int v :: st) sh I P Q) : fc_T m d nb zb pc ls st sh I P Q := fun p l e R s mm args below meth c β D A as H locs cells slots Nt Zt lsA QF C hb h1 hW hS hl hF => lv_ldc C.1 C.2.1 C.2.2.2.1 (C.2.2.2.2.1 _ hw) hd (k p l e R s mm args below meth c β D A as H locs cells slots Nt Zt lsA QF C hb h1 hW hS hl hF)
theorem ft_ldc_w {i : Nat} {v : Int32} (hd : decode m.2.1 pc = .ok (.ldc_w i, 3)) (hw : Cond.constant m.1.cls i v ∈ fc_tbl) (k : fc_T m d nb zb (pc + 3) ls (.int v :: st) sh I P Q) : fc_T m d nb zb pc ls st sh I P Q := fun p l e R s mm args below meth c β D A as H locs cells slots Nt Zt lsA QF C hb h1 hW hS hl hF => lv_ldcw C.1 C.2.1 C.2.2.2.1 (C.2.2.2.2.1 _ hw) hd (k p l e R s mm args below meth c β D A as H locs cells slots Nt Zt lsA QF C hb h1 hW hS hl hF)
theorem ft_ldc2 {i : Nat} {v : Int64} (hd : decode m.2.1 pc = .ok (.ldc2_w i, 3)) (hw : Cond.constantLong m.1.cls i v ∈ fc_tbl) (k : fc_T m d nb zb (pc + 3) ls (.long v :: st) sh I P Q) : fc_T m d nb zb pc ls st sh I P Q := fun p l e R s mm args below meth c β D A as H locs cells slots Nt Zt lsA QF C hb h1 hW hS hl hF => lv_ldc2 C.1 C.2.1 C.2.2.2.1 (C.2.2.2.2.1 _ hw) hd (k p l e R s mm args below meth c β D A as H locs cells slots Nt Zt lsA QF C hb h1 hW hS hl hF)
theorem ft_dup {v : Value} (hd : decode m.2.1 pc = .ok (.dup, 1)) (hv : v.category = 1) (k : fc_T m d nb zb (pc + 1) ls (v :: v :: st) sh I P Q) : fc_T m d nb zb pc ls (v :: st) sh I P Q := fun p l e R s mm args below meth c β D A as H locs cells slots Nt Zt lsA QF C hb h1 hW hS hl hF => lv_dup C.1 C.2.1 hd ((fc_cv_cat as v).trans hv) (k p l e R s mm args below meth c β D A as H locs cells slots Nt Zt lsA QF C hb h1 hW hS hl hF)
theorem ft_pop {v : Value} (hd : decode m.2.1 pc = .ok (.pop, 1)) (hv : v.category = 1) (k : fc_T m d nb zb (pc + 1) ls st sh I P Q) : fc_T m d nb zb pc ls (v :: st) sh I P Q := fun p l e R s mm args below meth c β D A as H locs cells slots Nt Zt lsA QF C hb h1 hW hS hl hF => lv_pop C.1 C.2.1 hd ((fc_cv_cat as v).trans hv) (k p l e R s mm args below meth c β D A as H locs cells slots Nt Zt lsA QF C hb h1 hW hS hl hF)
theorem ft_dup_x1 {v w : Value} (hd : decode m.2.1 pc = .ok (.dup_x1, 1)) (hv : v.category = 1) (hw : w.category = 1) (k : fc_T m d nb zb (pc + 1) ls (v :: w :: v :: st) sh I P Q) : fc_T m d nb zb pc ls (v :: w :: st) sh I P Q := fun p l e R s mm args below meth c β D A as H locs cells slots Nt Zt lsA QF C hb h1 hW hS hl hF => lv_dup_x1 C.1 C.2.1 hd ((fc_cv_cat as v).trans hv) ((fc_cv_cat as w).trans hw) (k p l e R s mm args below meth c β D A as H locs cells slots Nt Zt lsA QF C hb h1 hW hS hl hF)
theorem ft_dup2 {v w : Value} (hd : decode m.2.1 pc = .ok (.dup2, 1)) (hv : v.category = 1) (hw : w.category = 1) (k : fc_T m d nb zb (pc + 1) ls (v :: w :: v :: w :: st) sh I P Q) : fc_T m d nb zb pc ls (v :: w :: st) sh I P Q := fun p l e R s mm args below meth c β D A as H locs cells slots Nt Zt lsA QF C hb h1 hW hS hl hF => lv_dup2_11 C.1 C.2.1 hd ((fc_cv_cat as v).trans hv) ((fc_cv_cat as w).trans hw) (k p l e R s mm args below meth c β D A as H locs cells slots Nt Zt lsA QF C hb h1 hW hS hl hF)
theorem ft_iload_n {i : Fin 4} {x : Int32} (hd : decode m.2.1 pc = .ok (.iload_n i, 1)) (h : ls[(i : Nat)]? = some (some (.int x))) (k : fc_T m d nb zb (pc + 1) ls (.int x :: st) sh I P Q) : fc_T m d nb zb pc ls st sh I P Q := fun p l e R s mm args below meth c β D A as H locs cells slots Nt Zt lsA QF C hb h1 hW hS hl hF => lv_iload_n C.1 C.2.1 hd rfl (hl.2.2 _ (fc_lv_mem h)) (k p l e R s mm args below meth c β D A as H locs cells slots Nt Zt lsA QF C hb h1 hW hS hl hF)
theorem ft_iload {i : Nat} {x : Int32} (hd : decode m.2.1 pc = .ok (.iload i, 2)) (h : ls[i]? = some (some (.int x))) (k : fc_T m d nb zb (pc + 2) ls (.int x :: st) sh I P Q) : fc_T m d nb zb pc ls st sh I P Q := fun p l e R s mm args below meth c β D A as H locs cells slots Nt Zt lsA QF C hb h1 hW hS hl hF => lv_iload C.1 C.2.1 hd (hl.2.2 _ (fc_lv_mem h)) (k p l e R s mm args below meth c β D A as H locs cells slots Nt Zt lsA QF C hb h1 hW hS hl hF)
theorem ft_lload_n {i : Fin 4} {x : Int64} (hd : decode m.2.1 pc = .ok (.lload_n i, 1)) (h : ls[(i : Nat)]? = some (some (.long x))) (k : fc_T m d nb zb (pc + 1) ls (.long x :: st) sh I P Q) : fc_T m d nb zb pc ls st sh I P Q := fun p l e R s mm args below meth c β D A as H locs cells slots Nt Zt lsA QF C hb h1 hW hS hl hF => lv_lload_n C.1 C.2.1 hd rfl (hl.2.2 _ (fc_lv_mem h)) (k p l e R s mm args below meth c β D A as H locs cells slots Nt Zt lsA QF C hb h1 hW hS hl hF)
theorem ft_lload {i : Nat} {x : Int64} (hd : decode m.2.1 pc = .ok (.lload i, 2)) (h : ls[i]? = some (some (.long x))) (k : fc_T m d nb zb (pc + 2) ls (.long x :: st) sh I P Q) : fc_T m d nb zb pc ls st sh I P Q := fun p l e R s mm args below meth c β D A as H locs cells slots Nt Zt lsA QF C hb h1 hW hS hl hF => lv_lload C.1 C.2.1 hd (hl.2.2 _ (fc_lv_mem h)) (k p l e R s mm args below meth c β D A as H locs cells slots Nt Zt lsA QF C hb h1 hW hS hl hF)
theorem ft_aload_n {i : Fin 4} {x : Nat} (hd : decode m.2.1 pc = .ok (.aload_n i, 1)) (h : ls[(i : Nat)]? = some (some (.ref x))) (k : fc_T m d nb zb (pc + 1) ls (.ref x :: st) sh I P Q) : fc_T m d nb zb pc ls st sh I P Q := fun p l e R s mm args below meth c β D A as H locs cells slots Nt Zt lsA QF C hb h1 hW hS hl hF => lv_aload_n C.1 C.2.1 hd rfl (hl.2.2 _ (fc_lv_mem h)) (k p l e R s mm args below meth c β D A as H locs cells slots Nt Zt lsA QF C hb h1 hW hS hl hF)
theorem ft_aload {i : Nat} {x : Nat} (hd : decode m.2.1 pc = .ok (.aload i, 2)) (h : ls[i]? = some (some (.ref x))) (k : fc_T m d nb zb (pc + 2) ls (.ref x :: st) sh I P Q) : fc_T m d nb zb pc ls st sh I P Q := fun p l e R s mm args below meth c β D A as H locs cells slots Nt Zt lsA QF C hb h1 hW hS hl hF => lv_aload C.1 C.2.1 hd (hl.2.2 _ (fc_lv_mem h)) (k p l e R s mm args below meth c β D A as H locs cells slots Nt Zt lsA QF C hb h1 hW hS hl hF)
def fc_kill (o : Option Value) : Option Value := match o with
  | some (.long _) => none
  | some (.double _) => none
  | o => o
def fc_st1 : List (Option Value) → Nat → Value → List (Option Value)
  | [], _, _ => []
  | _ :: r, 0, v => some v :: r
  | o :: r, 1, v => fc_kill o :: fc_st1 r 0 v
  | o :: r, n + 2, v => o :: fc_st1 r (n + 1) v
def fc_st2 : List (Option Value) → Nat → Value → List (Option Value)
  | [], _, _ => []
  | _ :: [], 0, v => [some v]
  | _ :: _ :: r, 0, v => some v :: none :: r
  | o :: r, 1, v => fc_kill o :: fc_st2 r 0 v
  | o :: r, n + 2, v => o :: fc_st2 r (n + 1) v
theorem fc_kill_of {o : Option Value} {v : Value} (h : fc_kill o = some v) : o = some v ∧ ¬ v.category = 2 := by
  unfold fc_kill at h
  split at h
  · cases h
  · cases h
  · rename_i h1 h2
    refine ⟨h, fun hc => ?_⟩
    cases v <;> first | exact h1 _ h | exact h2 _ h | simp [Value.category] at hc
theorem fc_st1_of : ∀ (l : List (Option Value)) (i : Nat) (v : Value) (j : Nat) (w : Value), (fc_st1 l i v)[j]? = some (some w) → (j = i ∧ w = v) ∨ (l[j]? = some (some w) ∧ j ≠ i ∧ ¬ (j + 1 = i ∧ w.category = 2))
  | [], i, v, j, w, h => by simp [fc_st1] at h
  | o :: r, 0, v, j, w, h => by
    match j, h with
    | 0, h => simp [fc_st1] at h; exact Or.inl ⟨rfl, h.symm⟩
    | j + 1, h => simp [fc_st1] at h; exact Or.inr ⟨by simpa using h, by omega, by omega⟩
  | o :: r, 1, v, j, w, h => by
    match j, h with
    | 0, h =>
      simp only [fc_st1, List.getElem?_cons_zero, Option.some.injEq] at h
      obtain ⟨h1, h2⟩ := fc_kill_of h
      exact Or.inr ⟨by simp [h1], by omega, fun q => h2 q.2⟩
    | j + 1, h =>
      rcases fc_st1_of r 0 v j w (by simpa [fc_st1] using h) with ⟨h1, h2⟩ | ⟨h1, h2, h3⟩
      · exact Or.inl ⟨by omega, h2⟩
      · exact Or.inr ⟨by simpa using h1, by omega, fun q => by omega⟩
  | o :: r, n + 2, v, j, w, h => by
    match j, h with
    | 0, h =>
      simp [fc_st1] at h
      exact Or.inr ⟨by simp [h], by omega, fun q => by omega⟩
    | j + 1, h =>
      rcases fc_st1_of r (n + 1) v j w (by simpa [fc_st1] using h) with ⟨h1, h2⟩ | ⟨h1, h2, h3⟩
      · exact Or.inl ⟨by omega, h2⟩
      · exact Or.inr ⟨by simpa using h1, by omega, fun q => h3 ⟨by omega, q.2⟩⟩
theorem fc_st2_of : ∀ (l : List (Option Value)) (i : Nat) (v : Value) (j : Nat) (w : Value), (fc_st2 l i v)[j]? = some (some w) → (j = i ∧ w = v) ∨ (l[j]? = some (some w) ∧ j ≠ i ∧ j ≠ i + 1 ∧ ¬ (j + 1 = i ∧ w.category = 2))
  | [], i, v, j, w, h => by simp [fc_st2] at h
  | [o], 0, v, j, w, h => by
    match j, h with
    | 0, h => simp [fc_st2] at h; exact Or.inl ⟨rfl, h.symm⟩
    | j + 1, h => simp [fc_st2] at h
  | o :: o2 :: r, 0, v, j, w, h => by
    match j, h with
    | 0, h => simp [fc_st2] at h; exact Or.inl ⟨rfl, h.symm⟩
    | 1, h => simp [fc_st2] at h
    | j + 2, h => simp [fc_st2] at h; exact Or.inr ⟨by simpa using h, by omega, by omega, by omega⟩
  | o :: r, 1, v, j, w, h => by
    match j, h with
    | 0, h =>
      simp only [fc_st2, List.getElem?_cons_zero, Option.some.injEq] at h
      obtain ⟨h1, h2⟩ := fc_kill_of h
      exact Or.inr ⟨by simp [h1], by omega, by omega, fun q => h2 q.2⟩
    | j + 1, h =>
      rcases fc_st2_of r 0 v j w (by simpa [fc_st2] using h) with ⟨h1, h2⟩ | ⟨h1, h2, h3, h4⟩
      · exact Or.inl ⟨by omega, h2⟩
      · exact Or.inr ⟨by simpa using h1, by omega, by omega, fun q => by omega⟩
  | o :: r, n + 2, v, j, w, h => by
    match j, h with
    | 0, h =>
      simp [fc_st2] at h
      exact Or.inr ⟨by simp [h], by omega, by omega, fun q => by omega⟩
    | j + 1, h =>
      rcases fc_st2_of r (n + 1) v j w (by simpa [fc_st2] using h) with ⟨h1, h2⟩ | ⟨h1, h2, h3, h4⟩
      · exact Or.inl ⟨by omega, h2⟩
      · exact Or.inr ⟨by simpa using h1, by omega, by omega, fun q => h4 ⟨by omega, q.2⟩⟩
theorem fc_has1 {as : Nat → Nat} {a : Array Slot} {n i : Nat} {v : Value} {l : List (Option Value)} (h : lv_has a n ((i, fc_cv as v) :: (fc_lv as l).filter (fun q => !(q.1 == i) && !(q.1 + 1 == i && q.2.category == 2)))) : lv_has a n (fc_lv as (fc_st1 l i v)) := by
  refine ⟨h.1, h.2.1, fun x hx => h.2.2 x ?_⟩
  obtain ⟨w, h1, h2⟩ := fc_lv_of hx
  rcases fc_st1_of l i v x.1 w h1 with ⟨e1, e2⟩ | ⟨e1, e2, e3⟩
  · subst e2
    exact List.mem_cons.mpr (Or.inl (Prod.ext e1 h2))
  · refine List.mem_cons_of_mem _ (List.mem_filter.mpr ⟨?_, ?_⟩)
    · have := fc_lv_mem (as := as) e1
      rw [← h2] at this
      exact this
    · rw [h2, fc_cv_cat]
      simp only [Bool.and_eq_true, Bool.not_eq_true', beq_eq_false_iff_ne, ne_eq, Bool.and_eq_false_iff]
      refine ⟨e2, ?_⟩
      by_cases q : x.1 + 1 = i
      · exact Or.inr (fun z => e3 ⟨q, z⟩)
      · exact Or.inl q
theorem fc_has2 {as : Nat → Nat} {a : Array Slot} {n i : Nat} {v : Value} {l : List (Option Value)} (h : lv_has a n ((i, fc_cv as v) :: (fc_lv as l).filter (fun q => !(q.1 == i) && (!(q.1 == i + 1) && !(q.1 + 1 == i && q.2.category == 2))))) : lv_has a n (fc_lv as (fc_st2 l i v)) := by
  refine ⟨h.1, h.2.1, fun x hx => h.2.2 x ?_⟩
  obtain ⟨w, h1, h2⟩ := fc_lv_of hx
  rcases fc_st2_of l i v x.1 w h1 with ⟨e1, e2⟩ | ⟨e1, e2, e4, e3⟩
  · subst e2
    exact List.mem_cons.mpr (Or.inl (Prod.ext e1 h2))
  · refine List.mem_cons_of_mem _ (List.mem_filter.mpr ⟨?_, ?_⟩)
    · have := fc_lv_mem (as := as) e1
      rw [← h2] at this
      exact this
    · rw [h2, fc_cv_cat]
      simp only [Bool.and_eq_true, Bool.not_eq_true', beq_eq_false_iff_ne, ne_eq, Bool.and_eq_false_iff]
      refine ⟨e2, e4, ?_⟩
      by_cases q : x.1 + 1 = i
      · exact Or.inr (fun z => e3 ⟨q, z⟩)
      · exact Or.inl q

theorem ft_istore_n {i : Fin 4} {x : Int32} (hd : decode m.2.1 pc = .ok (.istore_n i, 1)) (hn : ((i : Nat) : Nat) < m.2.2.1) (k : fc_T m d nb zb (pc + 1) (fc_st1 ls i (.int x)) st sh I P Q) : fc_T m d nb zb pc ls (.int x :: st) sh I P Q := fun p l e R s mm args below meth c β D A as H locs cells slots Nt Zt lsA QF C hb h1 hW hS hl hF => lv_istore_n C.1 C.2.1 hd rfl hl hn rfl (fun lsA hl => k p l e R s mm args below meth c β D A as H locs cells slots Nt Zt lsA QF C hb h1 hW hS (fc_has1 hl) hF)
theorem ft_istore {i : Nat} {x : Int32} (hd : decode m.2.1 pc = .ok (.istore i, 2)) (hn : i < m.2.2.1) (k : fc_T m d nb zb (pc + 2) (fc_st1 ls i (.int x)) st sh I P Q) : fc_T m d nb zb pc ls (.int x :: st) sh I P Q := fun p l e R s mm args below meth c β D A as H locs cells slots Nt Zt lsA QF C hb h1 hW hS hl hF => lv_istore C.1 C.2.1 hd hl hn rfl (fun lsA hl => k p l e R s mm args below meth c β D A as H locs cells slots Nt Zt lsA QF C hb h1 hW hS (fc_has1 hl) hF)
theorem ft_lstore_n {i : Fin 4} {x : Int64} (hd : decode m.2.1 pc = .ok (.lstore_n i, 1)) (hn : ((i : Nat) + 1 : Nat) < m.2.2.1) (k : fc_T m d nb zb (pc + 1) (fc_st2 ls i (.long x)) st sh I P Q) : fc_T m d nb zb pc ls (.long x :: st) sh I P Q := fun p l e R s mm args below meth c β D A as H locs cells slots Nt Zt lsA QF C hb h1 hW hS hl hF => lv_lstore_n C.1 C.2.1 hd rfl hl hn rfl (fun lsA hl => k p l e R s mm args below meth c β D A as H locs cells slots Nt Zt lsA QF C hb h1 hW hS (fc_has2 hl) hF)
theorem ft_lstore {i : Nat} {x : Int64} (hd : decode m.2.1 pc = .ok (.lstore i, 2)) (hn : i + 1 < m.2.2.1) (k : fc_T m d nb zb (pc + 2) (fc_st2 ls i (.long x)) st sh I P Q) : fc_T m d nb zb pc ls (.long x :: st) sh I P Q := fun p l e R s mm args below meth c β D A as H locs cells slots Nt Zt lsA QF C hb h1 hW hS hl hF => lv_lstore C.1 C.2.1 hd hl hn rfl (fun lsA hl => k p l e R s mm args below meth c β D A as H locs cells slots Nt Zt lsA QF C hb h1 hW hS (fc_has2 hl) hF)
theorem ft_astore_n {i : Fin 4} {x : Nat} (hd : decode m.2.1 pc = .ok (.astore_n i, 1)) (hn : ((i : Nat) : Nat) < m.2.2.1) (k : fc_T m d nb zb (pc + 1) (fc_st1 ls i (.ref x)) st sh I P Q) : fc_T m d nb zb pc ls (.ref x :: st) sh I P Q := fun p l e R s mm args below meth c β D A as H locs cells slots Nt Zt lsA QF C hb h1 hW hS hl hF => lv_astore_n C.1 C.2.1 hd rfl hl hn rfl (fun lsA hl => k p l e R s mm args below meth c β D A as H locs cells slots Nt Zt lsA QF C hb h1 hW hS (fc_has1 hl) hF)
theorem ft_astore {i : Nat} {x : Nat} (hd : decode m.2.1 pc = .ok (.astore i, 2)) (hn : i < m.2.2.1) (k : fc_T m d nb zb (pc + 2) (fc_st1 ls i (.ref x)) st sh I P Q) : fc_T m d nb zb pc ls (.ref x :: st) sh I P Q := fun p l e R s mm args below meth c β D A as H locs cells slots Nt Zt lsA QF C hb h1 hW hS hl hF => lv_astore C.1 C.2.1 hd hl hn rfl (fun lsA hl => k p l e R s mm args below meth c β D A as H locs cells slots Nt Zt lsA QF C hb h1 hW hS (fc_has1 hl) hF)
theorem ft_iinc {i : Nat} {n : Int} {x : Int32} (hd : decode m.2.1 pc = .ok (.iinc i n, 3)) (h : ls[i]? = some (some (.int x))) (hn : i < m.2.2.1) (k : fc_T m d nb zb (pc + 3) (fc_st1 ls i (.int (x + Int32.ofInt n))) st sh I P Q) : fc_T m d nb zb pc ls st sh I P Q := fun p l e R s mm args below meth c β D A as H locs cells slots Nt Zt lsA QF C hb h1 hW hS hl hF => by
  obtain ⟨j, hj⟩ := List.mem_iff_getElem?.mp (fc_lv_mem (as := as) h)
  exact lv_iinc C.1 C.2.1 hd hl hj rfl hn rfl (fun lsA hl => k p l e R s mm args below meth c β D A as H locs cells slots Nt Zt lsA QF C hb h1 hW hS (fc_has1 hl) hF)
theorem ft_if_eq {x : Int32} {off : Int} {tgt : Nat} (hd : decode m.2.1 pc = .ok (.ifCond .eq off, 3)) (ht : (pc : Int) + off = (tgt : Int)) (kt : (x = 0) → fc_T m d nb zb tgt ls st sh I P Q) (kf : ¬ (x = 0) → fc_T m d nb zb (pc + 3) ls st sh I P Q) : fc_T m d nb zb pc ls (.int x :: st) sh I P Q := fun p l e R s mm args below meth c β D A as H locs cells slots Nt Zt lsA QF C hb h1 hW hS hl hF => lv_if_eq C.1 C.2.1 hd ht (fun q => kt q p l e R s mm args below meth c β D A as H locs cells slots Nt Zt lsA QF C hb h1 hW hS hl hF) (fun q => kf q p l e R s mm args below meth c β D A as H locs cells slots Nt Zt lsA QF C hb h1 hW hS hl hF)
theorem ft_icmp_eq {x y : Int32} {off : Int} {tgt : Nat} (hd : decode m.2.1 pc = .ok (.if_icmp .eq off, 3)) (ht : (pc : Int) + off = (tgt : Int)) (kt : (x = y) → fc_T m d nb zb tgt ls st sh I P Q) (kf : ¬ (x = y) → fc_T m d nb zb (pc + 3) ls st sh I P Q) : fc_T m d nb zb pc ls (.int y :: .int x :: st) sh I P Q := fun p l e R s mm args below meth c β D A as H locs cells slots Nt Zt lsA QF C hb h1 hW hS hl hF => lv_icmp_eq C.1 C.2.1 hd ht (fun q => kt q p l e R s mm args below meth c β D A as H locs cells slots Nt Zt lsA QF C hb h1 hW hS hl hF) (fun q => kf q p l e R s mm args below meth c β D A as H locs cells slots Nt Zt lsA QF C hb h1 hW hS hl hF)
theorem ft_if_ne {x : Int32} {off : Int} {tgt : Nat} (hd : decode m.2.1 pc = .ok (.ifCond .ne off, 3)) (ht : (pc : Int) + off = (tgt : Int)) (kt : (¬ x = 0) → fc_T m d nb zb tgt ls st sh I P Q) (kf : x = 0 → fc_T m d nb zb (pc + 3) ls st sh I P Q) : fc_T m d nb zb pc ls (.int x :: st) sh I P Q := fun p l e R s mm args below meth c β D A as H locs cells slots Nt Zt lsA QF C hb h1 hW hS hl hF => lv_if_ne C.1 C.2.1 hd ht (fun q => kt q p l e R s mm args below meth c β D A as H locs cells slots Nt Zt lsA QF C hb h1 hW hS hl hF) (fun q => kf q p l e R s mm args below meth c β D A as H locs cells slots Nt Zt lsA QF C hb h1 hW hS hl hF)
theorem ft_icmp_ne {x y : Int32} {off : Int} {tgt : Nat} (hd : decode m.2.1 pc = .ok (.if_icmp .ne off, 3)) (ht : (pc : Int) + off = (tgt : Int)) (kt : (¬ x = y) → fc_T m d nb zb tgt ls st sh I P Q) (kf : x = y → fc_T m d nb zb (pc + 3) ls st sh I P Q) : fc_T m d nb zb pc ls (.int y :: .int x :: st) sh I P Q := fun p l e R s mm args below meth c β D A as H locs cells slots Nt Zt lsA QF C hb h1 hW hS hl hF => lv_icmp_ne C.1 C.2.1 hd ht (fun q => kt q p l e R s mm args below meth c β D A as H locs cells slots Nt Zt lsA QF C hb h1 hW hS hl hF) (fun q => kf q p l e R s mm args below meth c β D A as H locs cells slots Nt Zt lsA QF C hb h1 hW hS hl hF)
theorem ft_if_lt {x : Int32} {off : Int} {tgt : Nat} (hd : decode m.2.1 pc = .ok (.ifCond .lt off, 3)) (ht : (pc : Int) + off = (tgt : Int)) (kt : (x < 0) → fc_T m d nb zb tgt ls st sh I P Q) (kf : ¬ (x < 0) → fc_T m d nb zb (pc + 3) ls st sh I P Q) : fc_T m d nb zb pc ls (.int x :: st) sh I P Q := fun p l e R s mm args below meth c β D A as H locs cells slots Nt Zt lsA QF C hb h1 hW hS hl hF => lv_if_lt C.1 C.2.1 hd ht (fun q => kt q p l e R s mm args below meth c β D A as H locs cells slots Nt Zt lsA QF C hb h1 hW hS hl hF) (fun q => kf q p l e R s mm args below meth c β D A as H locs cells slots Nt Zt lsA QF C hb h1 hW hS hl hF)
theorem ft_icmp_lt {x y : Int32} {off : Int} {tgt : Nat} (hd : decode m.2.1 pc = .ok (.if_icmp .lt off, 3)) (ht : (pc : Int) + off = (tgt : Int)) (kt : (x < y) → fc_T m d nb zb tgt ls st sh I P Q) (kf : ¬ (x < y) → fc_T m d nb zb (pc + 3) ls st sh I P Q) : fc_T m d nb zb pc ls (.int y :: .int x :: st) sh I P Q := fun p l e R s mm args below meth c β D A as H locs cells slots Nt Zt lsA QF C hb h1 hW hS hl hF => lv_icmp_lt C.1 C.2.1 hd ht (fun q => kt q p l e R s mm args below meth c β D A as H locs cells slots Nt Zt lsA QF C hb h1 hW hS hl hF) (fun q => kf q p l e R s mm args below meth c β D A as H locs cells slots Nt Zt lsA QF C hb h1 hW hS hl hF)
theorem ft_if_ge {x : Int32} {off : Int} {tgt : Nat} (hd : decode m.2.1 pc = .ok (.ifCond .ge off, 3)) (ht : (pc : Int) + off = (tgt : Int)) (kt : (0 ≤ x) → fc_T m d nb zb tgt ls st sh I P Q) (kf : ¬ (0 ≤ x) → fc_T m d nb zb (pc + 3) ls st sh I P Q) : fc_T m d nb zb pc ls (.int x :: st) sh I P Q := fun p l e R s mm args below meth c β D A as H locs cells slots Nt Zt lsA QF C hb h1 hW hS hl hF => lv_if_ge C.1 C.2.1 hd ht (fun q => kt q p l e R s mm args below meth c β D A as H locs cells slots Nt Zt lsA QF C hb h1 hW hS hl hF) (fun q => kf q p l e R s mm args below meth c β D A as H locs cells slots Nt Zt lsA QF C hb h1 hW hS hl hF)
theorem ft_icmp_ge {x y : Int32} {off : Int} {tgt : Nat} (hd : decode m.2.1 pc = .ok (.if_icmp .ge off, 3)) (ht : (pc : Int) + off = (tgt : Int)) (kt : (y ≤ x) → fc_T m d nb zb tgt ls st sh I P Q) (kf : ¬ (y ≤ x) → fc_T m d nb zb (pc + 3) ls st sh I P Q) : fc_T m d nb zb pc ls (.int y :: .int x :: st) sh I P Q := fun p l e R s mm args below meth c β D A as H locs cells slots Nt Zt lsA QF C hb h1 hW hS hl hF => lv_icmp_ge C.1 C.2.1 hd ht (fun q => kt q p l e R s mm args below meth c β D A as H locs cells slots Nt Zt lsA QF C hb h1 hW hS hl hF) (fun q => kf q p l e R s mm args below meth c β D A as H locs cells slots Nt Zt lsA QF C hb h1 hW hS hl hF)
theorem ft_if_gt {x : Int32} {off : Int} {tgt : Nat} (hd : decode m.2.1 pc = .ok (.ifCond .gt off, 3)) (ht : (pc : Int) + off = (tgt : Int)) (kt : (0 < x) → fc_T m d nb zb tgt ls st sh I P Q) (kf : ¬ (0 < x) → fc_T m d nb zb (pc + 3) ls st sh I P Q) : fc_T m d nb zb pc ls (.int x :: st) sh I P Q := fun p l e R s mm args below meth c β D A as H locs cells slots Nt Zt lsA QF C hb h1 hW hS hl hF => lv_if_gt C.1 C.2.1 hd ht (fun q => kt q p l e R s mm args below meth c β D A as H locs cells slots Nt Zt lsA QF C hb h1 hW hS hl hF) (fun q => kf q p l e R s mm args below meth c β D A as H locs cells slots Nt Zt lsA QF C hb h1 hW hS hl hF)
theorem ft_icmp_gt {x y : Int32} {off : Int} {tgt : Nat} (hd : decode m.2.1 pc = .ok (.if_icmp .gt off, 3)) (ht : (pc : Int) + off = (tgt : Int)) (kt : (y < x) → fc_T m d nb zb tgt ls st sh I P Q) (kf : ¬ (y < x) → fc_T m d nb zb (pc + 3) ls st sh I P Q) : fc_T m d nb zb pc ls (.int y :: .int x :: st) sh I P Q := fun p l e R s mm args below meth c β D A as H locs cells slots Nt Zt lsA QF C hb h1 hW hS hl hF => lv_icmp_gt C.1 C.2.1 hd ht (fun q => kt q p l e R s mm args below meth c β D A as H locs cells slots Nt Zt lsA QF C hb h1 hW hS hl hF) (fun q => kf q p l e R s mm args below meth c β D A as H locs cells slots Nt Zt lsA QF C hb h1 hW hS hl hF)
theorem ft_if_le {x : Int32} {off : Int} {tgt : Nat} (hd : decode m.2.1 pc = .ok (.ifCond .le off, 3)) (ht : (pc : Int) + off = (tgt : Int)) (kt : (x ≤ 0) → fc_T m d nb zb tgt ls st sh I P Q) (kf : ¬ (x ≤ 0) → fc_T m d nb zb (pc + 3) ls st sh I P Q) : fc_T m d nb zb pc ls (.int x :: st) sh I P Q := fun p l e R s mm args below meth c β D A as H locs cells slots Nt Zt lsA QF C hb h1 hW hS hl hF => lv_if_le C.1 C.2.1 hd ht (fun q => kt q p l e R s mm args below meth c β D A as H locs cells slots Nt Zt lsA QF C hb h1 hW hS hl hF) (fun q => kf q p l e R s mm args below meth c β D A as H locs cells slots Nt Zt lsA QF C hb h1 hW hS hl hF)
theorem ft_icmp_le {x y : Int32} {off : Int} {tgt : Nat} (hd : decode m.2.1 pc = .ok (.if_icmp .le off, 3)) (ht : (pc : Int) + off = (tgt : Int)) (kt : (x ≤ y) → fc_T m d nb zb tgt ls st sh I P Q) (kf : ¬ (x ≤ y) → fc_T m d nb zb (pc + 3) ls st sh I P Q) : fc_T m d nb zb pc ls (.int y :: .int x :: st) sh I P Q := fun p l e R s mm args below meth c β D A as H locs cells slots Nt Zt lsA QF C hb h1 hW hS hl hF => lv_icmp_le C.1 C.2.1 hd ht (fun q => kt q p l e R s mm args below meth c β D A as H locs cells slots Nt Zt lsA QF C hb h1 hW hS hl hF) (fun q => kf q p l e R s mm args below meth c β D A as H locs cells slots Nt Zt lsA QF C hb h1 hW hS hl hF)
theorem ft_goto {off : Int} {tgt : Nat} (hd : decode m.2.1 pc = .ok (.goto off, 3)) (ht : (pc : Int) + off = (tgt : Int)) (k : fc_T m d nb zb tgt ls st sh I P Q) : fc_T m d nb zb pc ls st sh I P Q := fun p l e R s mm args below meth c β D A as H locs cells slots Nt Zt lsA QF C hb h1 hW hS hl hF => lv_goto C.1 C.2.1 hd ht (k p l e R s mm args below meth c β D A as H locs cells slots Nt Zt lsA QF C hb h1 hW hS hl hF)
theorem ft_tsIn {dflt lo hi : Int} {offs : Array Int} {len : Nat} {x : Int32} {off : Int} {tgt : Nat} (hd : decode m.2.1 pc = .ok (.tableswitch dflt lo hi offs, len)) (h1 : ¬ x.toInt < lo) (h2 : ¬ hi < x.toInt) (ho : offs[(x.toInt - lo).toNat]? = some off) (ht : (pc : Int) + off = (tgt : Int)) (k : fc_T m d nb zb tgt ls st sh I P Q) : fc_T m d nb zb pc ls (.int x :: st) sh I P Q := fun p l e R s mm args below meth c β D A as H locs cells slots Nt Zt lsA QF C hb h1a hW hS hl hF => lv_tableIn C.1 C.2.1 hd h1 h2 ho ht (k p l e R s mm args below meth c β D A as H locs cells slots Nt Zt lsA QF C hb h1a hW hS hl hF)
theorem ft_tsOut {dflt lo hi : Int} {offs : Array Int} {len : Nat} {x : Int32} {tgt : Nat} (hd : decode m.2.1 pc = .ok (.tableswitch dflt lo hi offs, len)) (h : x.toInt < lo ∨ hi < x.toInt) (ht : (pc : Int) + dflt = (tgt : Int)) (k : fc_T m d nb zb tgt ls st sh I P Q) : fc_T m d nb zb pc ls (.int x :: st) sh I P Q := fun p l e R s mm args below meth c β D A as H locs cells slots Nt Zt lsA QF C hb h1 hW hS hl hF => lv_tableOut C.1 C.2.1 hd h ht (k p l e R s mm args below meth c β D A as H locs cells slots Nt Zt lsA QF C hb h1 hW hS hl hF)
theorem ft_lookup {dflt : Int} {ps : Array (Int × Int)} {len : Nat} {x : Int32} {off : Int} {tgt : Nat} (hd : decode m.2.1 pc = .ok (.lookupswitch dflt ps, len)) (hp : (ps.toList.zip (ps.toList.drop 1)).all (fun (a, next) => a.1 < next.1) = true) (ho : Op.lookupswitch.offset ps.toList dflt x.toInt = off) (ht : (pc : Int) + off = (tgt : Int)) (k : fc_T m d nb zb tgt ls st sh I P Q) : fc_T m d nb zb pc ls (.int x :: st) sh I P Q := fun p l e R s mm args below meth c β D A as H locs cells slots Nt Zt lsA QF C hb h1 hW hS hl hF => lv_lookup C.1 C.2.1 hd hp ho ht (k p l e R s mm args below meth c β D A as H locs cells slots Nt Zt lsA QF C hb h1 hW hS hl hF)
theorem ft_iret {x : Int32} {ty : FieldType} (hd : decode m.2.1 pc = .ok (.ireturn, 1)) (hr : m.2.2.2.1 = some ty) (hn : narrow ty (.int x) = .int x) (h : Q (some (.int x)) sh I P) : fc_T m d nb zb pc ls [.int x] sh I P Q := fun p l e R s mm args below meth c β D A as H locs cells slots Nt Zt lsA QF C hb h1 hW hS hl hF => hF pc lsA (some (.int x)) sh I P as H locs cells slots (Or.inl ⟨x, ty, rfl, hr, hn, hd⟩) h (Nat.le_refl _) h1 fc_ext.rf (by omega) (by omega) hW hS
theorem ft_lret {x : Int64} (hd : decode m.2.1 pc = .ok (.lreturn, 1)) (hr : m.2.2.2.1 = some .long) (h : Q (some (.long x)) sh I P) : fc_T m d nb zb pc ls [.long x] sh I P Q := fun p l e R s mm args below meth c β D A as H locs cells slots Nt Zt lsA QF C hb h1 hW hS hl hF => hF pc lsA (some (.long x)) sh I P as H locs cells slots (Or.inr (Or.inl ⟨x, rfl, hr, hd⟩)) h (Nat.le_refl _) h1 fc_ext.rf (by omega) (by omega) hW hS
theorem ft_vret (hd : decode m.2.1 pc = .ok (.return_, 1)) (hr : m.2.2.2.1 = none) (h : Q none sh I P) : fc_T m d nb zb pc ls [] sh I P Q := fun p l e R s mm args below meth c β D A as H locs cells slots Nt Zt lsA QF C hb h1 hW hS hl hF => hF pc lsA none sh I P as H locs cells slots (Or.inr (Or.inr ⟨rfl, hr, hd⟩)) h (Nat.le_refl _) h1 fc_ext.rf (by omega) (by omega) hW hS
end RULES
end
section
set_option maxRecDepth 100000 in
theorem in_X0 : ∀ w ∈ u_ws RX0 TX0 9, w ∈ fc_tbl := fun w h => List.mem_filter.mpr ⟨(goodIn_r (big := lw_tbl) (u_ws RX0 TX0 9) [294, 296, 298, 300, 302, 304, 306, 308, 310] rfl (by decide +kernel) w h).1, List.all_eq_true.mp (show (u_ws RX0 TX0 9).all goodWord = true by decide +kernel) w h⟩
set_option maxRecDepth 100000 in
theorem in_X1 : ∀ w ∈ u_ws RX1 TX1 5, w ∈ fc_tbl := fun w h => List.mem_filter.mpr ⟨(goodIn_r (big := lw_tbl) (u_ws RX1 TX1 5) [171, 173, 175, 177, 179] rfl (by decide +kernel) w h).1, List.all_eq_true.mp (show (u_ws RX1 TX1 5).all goodWord = true by decide +kernel) w h⟩
set_option maxRecDepth 100000 in
theorem in_X2 : ∀ w ∈ u_ws RX2 TX2 10, w ∈ fc_tbl := fun w h => List.mem_filter.mpr ⟨(goodIn_r (big := lw_tbl) (u_ws RX2 TX2 10) [478, 480, 482, 484, 486, 488, 490, 492, 494, 496] rfl (by decide +kernel) w h).1, List.all_eq_true.mp (show (u_ws RX2 TX2 10).all goodWord = true by decide +kernel) w h⟩
set_option maxRecDepth 100000 in
theorem in_X3 : ∀ w ∈ u_ws RX3 TX3 8, w ∈ fc_tbl := fun w h => List.mem_filter.mpr ⟨(goodIn_r (big := lw_tbl) (u_ws RX3 TX3 8) [547, 549, 551, 553, 555, 557, 559, 561] rfl (by decide +kernel) w h).1, List.all_eq_true.mp (show (u_ws RX3 TX3 8).all goodWord = true by decide +kernel) w h⟩
set_option maxRecDepth 100000 in
theorem in_X4 : ∀ w ∈ u_ws RX4 TX4 7, w ∈ fc_tbl := fun w h => List.mem_filter.mpr ⟨(goodIn_r (big := lw_tbl) (u_ws RX4 TX4 7) [513, 515, 517, 519, 521, 523, 525] rfl (by decide +kernel) w h).1, List.all_eq_true.mp (show (u_ws RX4 TX4 7).all goodWord = true by decide +kernel) w h⟩
set_option maxRecDepth 100000 in
theorem in_X5 : ∀ w ∈ u_ws RX5 TX5 10, w ∈ fc_tbl := fun w h => List.mem_filter.mpr ⟨(goodIn_r (big := lw_tbl) (u_ws RX5 TX5 10) [260, 262, 264, 266, 268, 270, 272, 274, 276, 278] rfl (by decide +kernel) w h).1, List.all_eq_true.mp (show (u_ws RX5 TX5 10).all goodWord = true by decide +kernel) w h⟩
set_option maxRecDepth 100000 in
theorem in_X6 : ∀ w ∈ u_ws RX6 TX6 6, w ∈ fc_tbl := fun w h => List.mem_filter.mpr ⟨(goodIn_r (big := lw_tbl) (u_ws RX6 TX6 6) [141, 143, 145, 147, 149, 151] rfl (by decide +kernel) w h).1, List.all_eq_true.mp (show (u_ws RX6 TX6 6).all goodWord = true by decide +kernel) w h⟩
set_option maxRecDepth 100000 in
theorem in_X7 : ∀ w ∈ u_ws RX7 TX7 3, w ∈ fc_tbl := fun w h => List.mem_filter.mpr ⟨(goodIn_r (big := lw_tbl) (u_ws RX7 TX7 3) [578, 580, 582] rfl (by decide +kernel) w h).1, List.all_eq_true.mp (show (u_ws RX7 TX7 3).all goodWord = true by decide +kernel) w h⟩
set_option maxRecDepth 100000 in
theorem in_X8 : ∀ w ∈ u_ws RX8 TX8 12, w ∈ fc_tbl := fun w h => List.mem_filter.mpr ⟨(goodIn_r (big := lw_tbl) (u_ws RX8 TX8 12) [209, 211, 213, 215, 217, 219, 221, 223, 225, 227, 229, 231] rfl (by decide +kernel) w h).1, List.all_eq_true.mp (show (u_ws RX8 TX8 12).all goodWord = true by decide +kernel) w h⟩
set_option maxRecDepth 100000 in
theorem in_X9 : ∀ w ∈ u_ws RX9 TX9 4, w ∈ fc_tbl := fun w h => List.mem_filter.mpr ⟨(goodIn_r (big := lw_tbl) (u_ws RX9 TX9 4) [110, 112, 114, 116] rfl (by decide +kernel) w h).1, List.all_eq_true.mp (show (u_ws RX9 TX9 4).all goodWord = true by decide +kernel) w h⟩
set_option maxRecDepth 100000 in
theorem in_X10 : ∀ w ∈ u_ws RX10 TX10 9, w ∈ fc_tbl := fun w h => List.mem_filter.mpr ⟨(goodIn_r (big := lw_tbl) (u_ws RX10 TX10 9) [594, 596, 598, 600, 602, 604, 606, 608, 610] rfl (by decide +kernel) w h).1, List.all_eq_true.mp (show (u_ws RX10 TX10 9).all goodWord = true by decide +kernel) w h⟩
set_option maxRecDepth 100000 in
theorem in_X11 : ∀ w ∈ u_ws RX11 TX11 75, w ∈ fc_tbl := fun w h => List.mem_filter.mpr ⟨(goodIn_r (big := lw_tbl) (u_ws RX11 TX11 75) [1218, 1220, 1222, 1224, 1226, 1228, 1230, 1232, 1234, 1236, 1238, 1240, 1242, 1244, 1246, 1248, 1250, 1252, 1254, 1256, 1258, 1260, 1262, 1264, 1266, 1268, 1270, 1272, 1274, 1276, 1278, 1280, 1282, 1284, 1286, 1288, 1290, 1292, 1294, 1296, 1298, 1300, 1302, 1304, 1306, 1308, 1310, 1312, 1314, 1316, 1318, 1320, 1322, 1324, 1326, 1328, 1330, 1332, 1334, 1336, 1338, 1340, 1342, 1344, 1346, 1348, 1350, 1352, 1354, 1356, 1358, 1360, 1362, 1364, 1366] rfl (by decide +kernel) w h).1, List.all_eq_true.mp (show (u_ws RX11 TX11 75).all goodWord = true by decide +kernel) w h⟩
theorem fc_in : ∀ (ci : Nat) (q : vw_C), fc_cl[ci]? = some q → ∀ w ∈ u_ws q.1 q.2.1 q.2.2, w ∈ fc_tbl := by
  intro ci q h
  match ci, h with
  | 0, h => cases h; exact in_X0
  | 1, h => cases h; exact in_X1
  | 2, h => cases h; exact in_X2
  | 3, h => cases h; exact in_X3
  | 4, h => cases h; exact in_X4
  | 5, h => cases h; exact in_X5
  | 6, h => cases h; exact in_X6
  | 7, h => cases h; exact in_X7
  | 8, h => cases h; exact in_X8
  | 9, h => cases h; exact in_X9
  | 10, h => cases h; exact in_X10
  | 11, h => cases h; exact in_X11
  | n + 12, h => simp [fc_cl] at h
theorem fc_nm : ∀ (ci : Nat) (q : vw_C), fc_cl[ci]? = some q → (∀ a, a < q.2.2 → ∀ b, b < q.2.2 → a ≠ b → (q.2.1 a).2.1 ≠ (q.2.1 b).2.1) ∧ ∀ k, k < q.2.2 → parseFieldDescriptor (q.2.1 k).2.2.1 = some (fc_ty ci k) := by
  intro ci q h
  match ci, h with
  | 0, h => cases h; exact ⟨nmX0, tyX0_ok⟩
  | 1, h => cases h; exact ⟨nmX1, tyX1_ok⟩
  | 2, h => cases h; exact ⟨nmX2, tyX2_ok⟩
  | 3, h => cases h; exact ⟨nmX3, tyX3_ok⟩
  | 4, h => cases h; exact ⟨nmX4, tyX4_ok⟩
  | 5, h => cases h; exact ⟨nmX5, tyX5_ok⟩
  | 6, h => cases h; exact ⟨nmX6, tyX6_ok⟩
  | 7, h => cases h; exact ⟨nmX7, tyX7_ok⟩
  | 8, h => cases h; exact ⟨nmX8, tyX8_ok⟩
  | 9, h => cases h; exact ⟨nmX9, tyX9_ok⟩
  | 10, h => cases h; exact ⟨nmX10, tyX10_ok⟩
  | 11, h => cases h; exact ⟨nmX11, tyX11_ok⟩
  | n + 12, h => simp [fc_cl] at h

def fc_wI (I : fc_I) (c k : Nat) (v : Int32) : fc_I := fun c' k' => if c' = c ∧ k' = k then v else I c' k'
def fc_wP (P : fc_P) (c k : Nat) (v : Nat) : fc_P := fun c' k' => if c' = c ∧ k' = k then some v else P c' k'
theorem fc_wI_c {I : fc_I} {c k : Nat} {v : Int32} : fc_wI I c k v c = upd (I c) k v := by
  funext j
  simp [fc_wI, upd]
theorem fc_wI_ne {I : fc_I} {c k : Nat} {v : Int32} {c' : Nat} (h : c' ≠ c) : fc_wI I c k v c' = I c' := by
  funext j
  simp [fc_wI, h]
theorem fc_wP_ne {P : fc_P} {c k : Nat} {v : Nat} {c' : Nat} (h : c' ≠ c) : fc_wP P c k v c' = P c' := by
  funext j
  simp [fc_wP, h]
theorem fc_cell_o {β : Nat → ClassId} {as : Nat → Nat} {I : fc_I} {P : fc_P} {c ci N : Nat} : fc_cell β as I P c (10 + ci, N) = .inr (ci, (List.range N).map (fun k => fc_fv as I P c ci k)) := by
  unfold fc_cell
  rw [if_neg (by omega), if_neg (by omega), show 10 + ci - 10 = ci by omega]
theorem fc_cell_a {β : Nat → ClassId} {as : Nat → Nat} {I : fc_I} {P : fc_P} {c t N : Nat} (h : t < 4) : fc_cell β as I P c (t, N) = .inl (β t, N, .inl (I c)) := by
  unfold fc_cell
  rw [if_pos h]
theorem fc_cell_r {β : Nat → ClassId} {as : Nat → Nat} {I : fc_I} {P : fc_P} {c N : Nat} : fc_cell β as I P c (4, N) = .inl (β 4, N, .inr (.inr (.inr (.inr (fun j => (P c j).map as))))) := by
  unfold fc_cell
  rw [if_neg (by omega), if_pos (by omega)]
/-- the link of a field's instruction: class ci, slot k -/
def fc_fl (own : String) (idx ci k : Nat) : Prop := ∃ q : vw_C, fc_cl[ci]? = some q ∧ k < q.2.2 ∧ (q.2.1 k).1 = q.1 ∧ Cond.fieldLink own idx q.1 (q.2.1 k).2.1 (q.2.1 k).2.2.1 ∈ fc_tbl
section HEAP
variable {m : fc_MI} {d nb zb pc : Nat} {ls : List (Option Value)} {st : List Value} {sh : fc_Sh} {I : fc_I} {P : fc_P} {Q : fc_Q}
theorem ft_getI {ci k idx c N : Nat} (hf : fc_fl m.1.cls idx ci k) (hr : fc_isR (fc_ty ci k) = false) (hs : sh[c]? = some (10 + ci, N)) (hk : k < N) (hd : decode m.2.1 pc = .ok (.getfield idx, 3)) (kk : fc_T m d nb zb (pc + 3) ls (.int (I c k) :: st) sh I P Q) : fc_T m d nb zb pc ls (.ref c :: st) sh I P Q := fun p l e R s mm args below meth cd β D A as H locs cells slots Nt Zt lsA QF C hb h1 hW hS hl hF => by
  obtain ⟨q, hc, hkq, hq1, hlk⟩ := hf
  have he := fc_w_at (β := β) (as := as) (I := I) (P := P) hs
  rw [fc_cell_o] at he
  refine va_get C.1 C.2.1 C.2.2.2.2.1 (fc_in ci q hc) C.2.2.2.1 hW.2.2 hW.1 c he hc k hkq (C.2.2.2.2.1 _ hlk) (fun x h => by rw [hq1] at h; exact h) (v := .int (I c k)) ?_ hd (kk p l e R s mm args below meth cd β D A as H locs cells slots Nt Zt lsA QF C hb h1 hW hS hl hF)
  simp [hk, fc_fv, hr]
theorem ft_getR {ci k idx c N v : Nat} (hf : fc_fl m.1.cls idx ci k) (hr : fc_isR (fc_ty ci k) = true) (hs : sh[c]? = some (10 + ci, N)) (hk : k < N) (hv : P c k = some v) (hd : decode m.2.1 pc = .ok (.getfield idx, 3)) (kk : fc_T m d nb zb (pc + 3) ls (.ref v :: st) sh I P Q) : fc_T m d nb zb pc ls (.ref c :: st) sh I P Q := fun p l e R s mm args below meth cd β D A as H locs cells slots Nt Zt lsA QF C hb h1 hW hS hl hF => by
  obtain ⟨q, hc, hkq, hq1, hlk⟩ := hf
  have he := fc_w_at (β := β) (as := as) (I := I) (P := P) hs
  rw [fc_cell_o] at he
  refine va_get C.1 C.2.1 C.2.2.2.2.1 (fc_in ci q hc) C.2.2.2.1 hW.2.2 hW.1 c he hc k hkq (C.2.2.2.2.1 _ hlk) (fun x h => by rw [hq1] at h; exact h) (v := .ref (as v)) ?_ hd (kk p l e R s mm args below meth cd β D A as H locs cells slots Nt Zt lsA QF C hb h1 hW hS hl hF)
  simp [hk, fc_fv, hr, hv, va_rf]
theorem fc_fs_I {as : Nat → Nat} {I : fc_I} {P : fc_P} {c ci N k : Nat} {x : Int32} (hr : fc_isR (fc_ty ci k) = false) : ((List.range N).map (fun j => fc_fv as I P c ci j)).set k (.int x) = (List.range N).map (fun j => fc_fv as (fc_wI I c k x) P c ci j) := by
  apply List.ext_getElem?
  intro i
  rw [List.getElem?_set]
  by_cases e : k = i
  · subst e
    rw [if_pos rfl]
    by_cases hk : k < N
    · simp [hk, fc_fv, hr, fc_wI]
    · simp [hk]
  · rw [if_neg e]
    by_cases hi : i < N
    · have e2 : ¬ i = k := fun z => e z.symm
      simp [hi, fc_fv, fc_wI, e2]
    · simp [hi]
theorem fc_fs_R {as : Nat → Nat} {I : fc_I} {P : fc_P} {c ci N k v : Nat} (hr : fc_isR (fc_ty ci k) = true) : ((List.range N).map (fun j => fc_fv as I P c ci j)).set k (.ref (as v)) = (List.range N).map (fun j => fc_fv as I (fc_wP P c k v) c ci j) := by
  apply List.ext_getElem?
  intro i
  rw [List.getElem?_set]
  by_cases e : k = i
  · subst e
    rw [if_pos rfl]
    by_cases hk : k < N
    · simp [hk, fc_fv, hr, fc_wP, va_rf]
    · simp [hk]
  · rw [if_neg e]
    by_cases hi : i < N
    · have e2 : ¬ i = k := fun z => e z.symm
      simp [hi, fc_fv, fc_wP, e2]
    · simp [hi]
theorem ft_putI {ci k idx c N : Nat} {x : Int32} (hf : fc_fl m.1.cls idx ci k) (hr : fc_ty ci k = .int) (hnf : ∀ q, fc_cl[ci]? = some q → (q.2.1 k).2.2.2 = false) (hs : sh[c]? = some (10 + ci, N)) (hk : k < N) (hd : decode m.2.1 pc = .ok (.putfield idx, 3)) (kk : fc_T m d nb zb (pc + 3) ls st sh (fc_wI I c k x) P Q) : fc_T m d nb zb pc ls (.int x :: .ref c :: st) sh I P Q := fun p l e R s mm args below meth cd β D A as H locs cells slots Nt Zt lsA QF C hb h1 hW hS hl hF => by
  obtain ⟨q, hc, hkq, hq1, hlk⟩ := hf
  have he := fc_w_at (β := β) (as := as) (I := I) (P := P) hs
  rw [fc_cell_o] at he
  obtain ⟨hnm, hty⟩ := fc_nm ci q hc
  have hR : fc_isR (fc_ty ci k) = false := by rw [hr]; rfl
  refine va_put C.1 C.2.1 C.2.2.2.2.1 (fc_in ci q hc) (fc_ty ci) hty hnm C.2.2.2.1 hW.2.2 hW.1 hW.2.1 hS c he hc k hkq (C.2.2.2.2.1 _ hlk) (fun x h => by rw [hq1] at h; exact h) (hnf q hc) (v := .int x) (hty k hkq) (by rw [hr]; rfl) (by rw [hr]; rfl) (by simpa using hk) hd (fun H1 locs1 hP1 hD1 hS1 => ?_)
  have e1 : (fc_w β as sh I P).set c (as c, .inr (ci, ((List.range N).map (fun j => fc_fv as I P c ci j)).set k (.int x))) = fc_w β as sh (fc_wI I c k x) P := by
    rw [fc_fs_I hR, ← fc_cell_o (β := β), fc_w_set hs (fun c' h => fc_wI_ne h) (fun c' h => rfl)]
  rw [e1] at hP1 hD1
  exact kk p l e R s mm args below meth cd β D A as H1 locs1 cells slots Nt Zt lsA QF C hb h1 ⟨hP1, hD1, hW.2.2⟩ hS1 hl hF
theorem fc_ok.put {sh : fc_Sh} {P : fc_P} {c k v : Nat} (h : fc_ok sh P) (hv : v < sh.length) : fc_ok sh (fc_wP P c k v) := by
  refine ⟨h.1, fun c' j w hw => ?_⟩
  unfold fc_wP at hw
  split at hw
  · cases hw; exact hv
  · exact h.2 c' j w hw
theorem fc_nar_R {t : FieldType} {a : Nat} (h : fc_isR t = true) : narrow t (.ref a) = .ref a ∧ fits t (.ref a) = true := by
  cases t <;> first | (simp [fc_isR] at h; done) | exact ⟨rfl, rfl⟩
theorem ft_putR {ci k idx c N v : Nat} (hf : fc_fl m.1.cls idx ci k) (hr : fc_isR (fc_ty ci k) = true) (hnf : ∀ q, fc_cl[ci]? = some q → (q.2.1 k).2.2.2 = false) (hs : sh[c]? = some (10 + ci, N)) (hk : k < N) (hv : v < sh.length) (hd : decode m.2.1 pc = .ok (.putfield idx, 3)) (kk : fc_T m d nb zb (pc + 3) ls st sh I (fc_wP P c k v) Q) : fc_T m d nb zb pc ls (.ref v :: .ref c :: st) sh I P Q := fun p l e R s mm args below meth cd β D A as H locs cells slots Nt Zt lsA QF C hb h1 hW hS hl hF => by
  obtain ⟨q, hc, hkq, hq1, hlk⟩ := hf
  have he := fc_w_at (β := β) (as := as) (I := I) (P := P) hs
  rw [fc_cell_o] at he
  obtain ⟨hnm, hty⟩ := fc_nm ci q hc
  refine va_put C.1 C.2.1 C.2.2.2.2.1 (fc_in ci q hc) (fc_ty ci) hty hnm C.2.2.2.1 hW.2.2 hW.1 hW.2.1 hS c he hc k hkq (C.2.2.2.2.1 _ hlk) (fun x h => by rw [hq1] at h; exact h) (hnf q hc) (v := .ref (as v)) (hty k hkq) (fc_nar_R hr).1 (fc_nar_R hr).2 (by simpa using hk) hd (fun H1 locs1 hP1 hD1 hS1 => ?_)
  have e1 : (fc_w β as sh I P).set c (as c, .inr (ci, ((List.range N).map (fun j => fc_fv as I P c ci j)).set k (.ref (as v)))) = fc_w β as sh I (fc_wP P c k v) := by
    rw [fc_fs_R hr, ← fc_cell_o (β := β), fc_w_set hs (fun c' h => rfl) (fun c' h => fc_wP_ne h)]
  rw [e1] at hP1 hD1
  exact kk p l e R s mm args below meth cd β D A as H1 locs1 cells slots Nt Zt lsA QF C hb (h1.put hv) ⟨hP1, hD1, hW.2.2⟩ hS1 hl hF
theorem ft_putRF {ci k idx c N v : Nat} (hf : fc_fl m.1.cls idx ci k) (hr : fc_isR (fc_ty ci k) = true) (hnf : ∀ q, fc_cl[ci]? = some q → (q.2.1 k).2.2.2 = true ∧ q.1 = m.1.cls) (hin : m.1.name = "<init>") (hs : sh[c]? = some (10 + ci, N)) (hk : k < N) (hv : v < sh.length) (hd : decode m.2.1 pc = .ok (.putfield idx, 3)) (kk : fc_T m d nb zb (pc + 3) ls st sh I (fc_wP P c k v) Q) : fc_T m d nb zb pc ls (.ref v :: .ref c :: st) sh I P Q := fun p l e R s mm args below meth cd β D A as H locs cells slots Nt Zt lsA QF C hb h1 hW hS hl hF => by
  obtain ⟨q, hc, hkq, hq1, hlk⟩ := hf
  have he := fc_w_at (β := β) (as := as) (I := I) (P := P) hs
  rw [fc_cell_o] at he
  obtain ⟨hnm, hty⟩ := fc_nm ci q hc
  refine va_putF C.1 C.2.1 C.2.2.2.2.1 (fc_in ci q hc) (fc_ty ci) hty hnm C.2.2.2.1 hW.2.2 hW.1 hW.2.1 hS c he hc k hkq (C.2.2.2.2.1 _ hlk) (fun x h => by rw [hq1] at h; exact h) (hnf q hc).1 (C.2.2.2.2.2.1.trans hin) (hq1.trans (hnf q hc).2) (v := .ref (as v)) (hty k hkq) (fc_nar_R hr).1 (fc_nar_R hr).2 (by simpa using hk) hd (fun H1 locs1 hP1 hD1 hS1 => ?_)
  have e1 : (fc_w β as sh I P).set c (as c, .inr (ci, ((List.range N).map (fun j => fc_fv as I P c ci j)).set k (.ref (as v)))) = fc_w β as sh I (fc_wP P c k v) := by
    rw [fc_fs_R hr, ← fc_cell_o (β := β), fc_w_set hs (fun c' h => rfl) (fun c' h => fc_wP_ne h)]
  rw [e1] at hP1 hD1
  exact kk p l e R s mm args below meth cd β D A as H1 locs1 cells slots Nt Zt lsA QF C hb (h1.put hv) ⟨hP1, hD1, hW.2.2⟩ hS1 hl hF

theorem ft_iald {c N : Nat} {i : Int32} (hs : sh[c]? = some (0, N)) (hi : vp_in i N) (hd : decode m.2.1 pc = .ok (.iaload, 1)) (kk : fc_T m d nb zb (pc + 1) ls (.int (I c i.toNatClampNeg) :: st) sh I P Q) : fc_T m d nb zb pc ls (.int i :: .ref c :: st) sh I P Q := fun p l e R s mm args below meth cd β D A as H locs cells slots Nt Zt lsA QF C hb h1 hW hS hl hF => by
  have he := fc_w_at (β := β) (as := as) (I := I) (P := P) hs
  rw [fc_cell_a (by decide)] at he
  exact va_iald C.1 C.2.1 hW.2.2 hW.1 c 0 he rfl hi hd (kk p l e R s mm args below meth cd β D A as H locs cells slots Nt Zt lsA QF C hb h1 hW hS hl hF)
theorem ft_bald {c N : Nat} {i : Int32} (hs : sh[c]? = some (1, N)) (hi : vp_in i N) (hd : decode m.2.1 pc = .ok (.baload, 1)) (kk : fc_T m d nb zb (pc + 1) ls (.int (I c i.toNatClampNeg) :: st) sh I P Q) : fc_T m d nb zb pc ls (.int i :: .ref c :: st) sh I P Q := fun p l e R s mm args below meth cd β D A as H locs cells slots Nt Zt lsA QF C hb h1 hW hS hl hF => by
  have he := fc_w_at (β := β) (as := as) (I := I) (P := P) hs
  rw [fc_cell_a (by decide)] at he
  exact va_bald C.1 C.2.1 hW.2.2 hW.1 c 1 he rfl hi hd (kk p l e R s mm args below meth cd β D A as H locs cells slots Nt Zt lsA QF C hb h1 hW hS hl hF)
theorem ft_zald {c N : Nat} {i : Int32} (hs : sh[c]? = some (2, N)) (hi : vp_in i N) (hd : decode m.2.1 pc = .ok (.baload, 1)) (kk : fc_T m d nb zb (pc + 1) ls (.int (I c i.toNatClampNeg) :: st) sh I P Q) : fc_T m d nb zb pc ls (.int i :: .ref c :: st) sh I P Q := fun p l e R s mm args below meth cd β D A as H locs cells slots Nt Zt lsA QF C hb h1 hW hS hl hF => by
  have he := fc_w_at (β := β) (as := as) (I := I) (P := P) hs
  rw [fc_cell_a (by decide)] at he
  exact va_zald C.1 C.2.1 hW.2.2 hW.1 c 2 he rfl hi hd (kk p l e R s mm args below meth cd β D A as H locs cells slots Nt Zt lsA QF C hb h1 hW hS hl hF)
theorem ft_cald {c N : Nat} {i : Int32} (hs : sh[c]? = some (3, N)) (hi : vp_in i N) (hd : decode m.2.1 pc = .ok (.caload, 1)) (kk : fc_T m d nb zb (pc + 1) ls (.int (I c i.toNatClampNeg) :: st) sh I P Q) : fc_T m d nb zb pc ls (.int i :: .ref c :: st) sh I P Q := fun p l e R s mm args below meth cd β D A as H locs cells slots Nt Zt lsA QF C hb h1 hW hS hl hF => by
  have he := fc_w_at (β := β) (as := as) (I := I) (P := P) hs
  rw [fc_cell_a (by decide)] at he
  exact va_cald C.1 C.2.1 hW.2.2 hW.1 c 3 he rfl hi hd (kk p l e R s mm args below meth cd β D A as H locs cells slots Nt Zt lsA QF C hb h1 hW hS hl hF)
theorem ft_iast {c N : Nat} {i x y : Int32} (hs : sh[c]? = some (0, N)) (hi : vp_in i N) (hy : x = y) (hd : decode m.2.1 pc = .ok (.iastore, 1)) (kk : fc_T m d nb zb (pc + 1) ls st sh (fc_wI I c i.toNatClampNeg y) P Q) : fc_T m d nb zb pc ls (.int x :: .int i :: .ref c :: st) sh I P Q := fun p l e R s mm args below meth cd β D A as H locs cells slots Nt Zt lsA QF C hb h1 hW hS hl hF => by
  subst hy
  have he := fc_w_at (β := β) (as := as) (I := I) (P := P) hs
  rw [fc_cell_a (by decide)] at he
  refine va_iast C.1 C.2.1 hW.2.2 hW.1 hW.2.1 hS c 0 he rfl hi hd (fun H1 locs1 hP1 hD1 hS1 => ?_)
  rw [← fc_wI_c, ← fc_cell_a (β := β) (as := as) (P := P) (by decide : 0 < 4), fc_w_set hs (fun c' h => fc_wI_ne h) (fun c' h => rfl)] at hP1 hD1
  exact kk p l e R s mm args below meth cd β D A as H1 locs1 cells slots Nt Zt lsA QF C hb h1 ⟨hP1, hD1, hW.2.2⟩ hS1 hl hF
theorem ft_bast {c N : Nat} {i x y : Int32} (hs : sh[c]? = some (1, N)) (hi : vp_in i N) (hy : (vp_nar .byte x) = y) (hd : decode m.2.1 pc = .ok (.bastore, 1)) (kk : fc_T m d nb zb (pc + 1) ls st sh (fc_wI I c i.toNatClampNeg y) P Q) : fc_T m d nb zb pc ls (.int x :: .int i :: .ref c :: st) sh I P Q := fun p l e R s mm args below meth cd β D A as H locs cells slots Nt Zt lsA QF C hb h1 hW hS hl hF => by
  subst hy
  have he := fc_w_at (β := β) (as := as) (I := I) (P := P) hs
  rw [fc_cell_a (by decide)] at he
  refine va_bast C.1 C.2.1 hW.2.2 hW.1 hW.2.1 hS c 1 he rfl hi hd (fun H1 locs1 hP1 hD1 hS1 => ?_)
  rw [← fc_wI_c, ← fc_cell_a (β := β) (as := as) (P := P) (by decide : 1 < 4), fc_w_set hs (fun c' h => fc_wI_ne h) (fun c' h => rfl)] at hP1 hD1
  exact kk p l e R s mm args below meth cd β D A as H1 locs1 cells slots Nt Zt lsA QF C hb h1 ⟨hP1, hD1, hW.2.2⟩ hS1 hl hF
theorem ft_zast {c N : Nat} {i x y : Int32} (hs : sh[c]? = some (2, N)) (hi : vp_in i N) (hy : (vp_nar .boolean x) = y) (hd : decode m.2.1 pc = .ok (.bastore, 1)) (kk : fc_T m d nb zb (pc + 1) ls st sh (fc_wI I c i.toNatClampNeg y) P Q) : fc_T m d nb zb pc ls (.int x :: .int i :: .ref c :: st) sh I P Q := fun p l e R s mm args below meth cd β D A as H locs cells slots Nt Zt lsA QF C hb h1 hW hS hl hF => by
  subst hy
  have he := fc_w_at (β := β) (as := as) (I := I) (P := P) hs
  rw [fc_cell_a (by decide)] at he
  refine va_zast C.1 C.2.1 hW.2.2 hW.1 hW.2.1 hS c 2 he rfl hi hd (fun H1 locs1 hP1 hD1 hS1 => ?_)
  rw [← fc_wI_c, ← fc_cell_a (β := β) (as := as) (P := P) (by decide : 2 < 4), fc_w_set hs (fun c' h => fc_wI_ne h) (fun c' h => rfl)] at hP1 hD1
  exact kk p l e R s mm args below meth cd β D A as H1 locs1 cells slots Nt Zt lsA QF C hb h1 ⟨hP1, hD1, hW.2.2⟩ hS1 hl hF
theorem ft_cast {c N : Nat} {i x y : Int32} (hs : sh[c]? = some (3, N)) (hi : vp_in i N) (hy : (vp_nar .char x) = y) (hd : decode m.2.1 pc = .ok (.castore, 1)) (kk : fc_T m d nb zb (pc + 1) ls st sh (fc_wI I c i.toNatClampNeg y) P Q) : fc_T m d nb zb pc ls (.int x :: .int i :: .ref c :: st) sh I P Q := fun p l e R s mm args below meth cd β D A as H locs cells slots Nt Zt lsA QF C hb h1 hW hS hl hF => by
  subst hy
  have he := fc_w_at (β := β) (as := as) (I := I) (P := P) hs
  rw [fc_cell_a (by decide)] at he
  refine va_cast C.1 C.2.1 hW.2.2 hW.1 hW.2.1 hS c 3 he rfl hi hd (fun H1 locs1 hP1 hD1 hS1 => ?_)
  rw [← fc_wI_c, ← fc_cell_a (β := β) (as := as) (P := P) (by decide : 3 < 4), fc_w_set hs (fun c' h => fc_wI_ne h) (fun c' h => rfl)] at hP1 hD1
  exact kk p l e R s mm args below meth cd β D A as H1 locs1 cells slots Nt Zt lsA QF C hb h1 ⟨hP1, hD1, hW.2.2⟩ hS1 hl hF
theorem ft_aald {c N v : Nat} {i : Int32} (hs : sh[c]? = some (4, N)) (hi : vp_in i N) (hv : P c i.toNatClampNeg = some v) (hd : decode m.2.1 pc = .ok (.aaload, 1)) (kk : fc_T m d nb zb (pc + 1) ls (.ref v :: st) sh I P Q) : fc_T m d nb zb pc ls (.int i :: .ref c :: st) sh I P Q := fun p l e R s mm args below meth cd β D A as H locs cells slots Nt Zt lsA QF C hb h1 hW hS hl hF => by
  have he := fc_w_at (β := β) (as := as) (I := I) (P := P) hs
  rw [fc_cell_r] at he
  have hlt : i.toNatClampNeg < N := Nat.not_le.mp fun q => hi (Or.inr q)
  exact W.aald (v := .ref (as v)) (ty := .array .int) C.1 C.2.1 (hW.1 c _ he) ((hW.2.2.2 4 _ rfl).1 N (fun j => va_rf ((P c j).map as))) rfl (fun q => by cases q) (by show ¬ (i < 0 ∨ (arrV _ _ _).slots.size ≤ _); rw [arrV_size]; exact hi) (by show (arrV _ _ _).slots[_]? = _; rw [arrV_read _ _ hlt]; show some (va_rf ((P c i.toNatClampNeg).map as)) = _; rw [hv]; rfl) rfl rfl hd (kk p l e R s mm args below meth cd β D A as H locs cells slots Nt Zt lsA QF C hb h1 hW hS hl hF)
theorem ft_alen {c t N : Nat} {v : Int32} (hs : sh[c]? = some (t, N)) (ht : t < 4) (hv : Int32.ofNat N = v) (hd : decode m.2.1 pc = .ok (.arraylength, 1)) (kk : fc_T m d nb zb (pc + 1) ls (.int v :: st) sh I P Q) : fc_T m d nb zb pc ls (.ref c :: st) sh I P Q := fun p l e R s mm args below meth cd β D A as H locs cells slots Nt Zt lsA QF C hb h1 hW hS hl hF => by
  have he := fc_w_at (β := β) (as := as) (I := I) (P := P) hs
  rw [fc_cell_a ht] at he
  have hk := kk p l e R s mm args below meth cd β D A as H locs cells slots Nt Zt lsA QF C hb h1 hW hS hl hF
  match t, ht with
  | 0, _ => exact va_alen C.1 C.2.1 hW.2.2 hW.1 c 0 he rfl hv hd hk
  | 1, _ => exact va_alen C.1 C.2.1 hW.2.2 hW.1 c 1 he rfl hv hd hk
  | 2, _ => exact va_alen C.1 C.2.1 hW.2.2 hW.1 c 2 he rfl hv hd hk
  | 3, _ => exact va_alen C.1 C.2.1 hW.2.2 hW.1 c 3 he rfl hv hd hk
def fc_cpI (I : fc_I) (c0 c1 sp dp n : Nat) : fc_I := fun c' k => if c' = c1 then va_cpy (I c0) (I c1) sp dp n k else I c' k
/-- System.arraycopy over ints -/
theorem ft_copy {c0 c1 N0 N1 idx : Nat} {sp dp n : Int32} (hw : Cond.methodLink m.1.cls idx arraycopyName ∈ fc_tbl ∧ Cond.native arraycopyName ∈ fc_tbl ∧ Cond.static arraycopyName ∈ fc_tbl ∧ Cond.initialized "java/lang/System" ∈ fc_tbl) (hs0 : sh[c0]? = some (0, N0)) (hs1 : sh[c1]? = some (0, N1)) (h1 : ¬ sp < 0) (h2 : ¬ dp < 0) (h3 : ¬ n < 0) (h4 : sp.toNatClampNeg + n.toNatClampNeg ≤ N0) (h5 : dp.toNatClampNeg + n.toNatClampNeg ≤ N1) (hst : (st.map fun v => v.category).sum ≤ 8) (hd : decode m.2.1 pc = .ok (.invokestatic idx, 3)) (kk : fc_T m (d + 1) nb zb (pc + 3) ls st sh (fc_cpI I c0 c1 sp.toNatClampNeg dp.toNatClampNeg n.toNatClampNeg) P Q) : fc_T m (d + 1) nb zb pc ls (.int n :: .int dp :: .ref c1 :: .int sp :: .ref c0 :: st) sh I P Q := fun p l e R s mm args below meth cd β D A as H locs cells slots Nt Zt lsA QF C hb h1' hW hS hl hF => by
  have he0 := fc_w_at (β := β) (as := as) (I := I) (P := P) hs0
  have he1 := fc_w_at (β := β) (as := as) (I := I) (P := P) hs1
  rw [fc_cell_a (by decide)] at he0 he1
  have hc : ((st.map (fc_cv as)).map fun v => v.category).sum ≤ 8 := by rw [List.map_map, show ((fun v : Value => v.category) ∘ fc_cv as) = (fun v => v.category) from funext (fc_cv_cat as)]; exact hst
  obtain ⟨hx, hbb, hml, hown, hts, hnm, hfr, hlo, hA, hE, hscr⟩ := id C
  refine va_copyi hx hbb (hml.trans hl.1.symm) hown (hts _ hw.1) (hts _ hw.2.1) (hts _ hw.2.2.1) (hts _ hw.2.2.2) hW.2.2 hW.1 hW.2.1 hS c0 c1 0 0 he0 he1 rfl rfl rfl h1 h2 h3 h4 h5 (fun i _ => rfl) (by omega) ?_ hd (fun H1 locs1 hP1 hD1 hS1 => ?_)
  · have e : nativeFrameWords "java/lang/System" "arraycopy" 5 ≤ 40 := by decide +kernel
    omega
  · have e1 : va_cpy (I c0) (I c1) sp.toNatClampNeg dp.toNatClampNeg n.toNatClampNeg = fc_cpI I c0 c1 sp.toNatClampNeg dp.toNatClampNeg n.toNatClampNeg c1 := by
      funext k
      simp [fc_cpI]
    rw [e1, ← fc_cell_a (β := β) (as := as) (P := P) (by decide : 0 < 4), fc_w_set hs1 (fun c' h => by funext k; simp [fc_cpI, h]) (fun c' h => rfl)] at hP1 hD1
    exact kk p l e R s mm args below meth cd β D A as H1 locs1 cells slots Nt Zt lsA QF C hb h1' ⟨hP1, hD1, hW.2.2⟩ hS1 hl hF
theorem fc_cat8 {as : Nat → Nat} {st : List Value} (h : (st.map fun v => v.category).sum ≤ 8) : ((st.map (fc_cv as)).map fun v => v.category).sum ≤ 8 := by
  rw [List.map_map, show ((fun v : Value => v.category) ∘ fc_cv as) = (fun v => v.category) from funext (fc_cv_cat as)]; exact h
theorem ft_mmax {idx : Nat} {x y : Int32} (hw : Cond.methodLink m.1.cls idx Lib.Math.max.name ∈ fc_tbl ∧ Cond.static Lib.Math.max.name ∈ fc_tbl ∧ Cond.initialized "java/lang/Math" ∈ fc_tbl ∧ Cond.code Lib.Math.max.name Lib.Math.max.code 2 (some .int) ∈ fc_tbl) (hst : (st.map fun v => v.category).sum ≤ 8) (hd : decode m.2.1 pc = .ok (.invokestatic idx, 3)) (kk : fc_T m (d + 1) nb zb (pc + 3) ls (.int (if x < y then y else x) :: st) sh I P Q) : fc_T m (d + 1) nb zb pc ls (.int y :: .int x :: st) sh I P Q := fun p l e R s mm args below meth cd β D A as H locs cells slots Nt Zt lsA QF C hb h1 hW hS hl hF => by
  have hc := fc_cat8 (as := as) hst
  obtain ⟨hx, hbb, hml, hown, hts, hnm, hfr, hlo, hA, hE, hscr⟩ := id C
  exact va_mmax hx hbb (hml.trans hl.1.symm) hown (hts _ hw.1) (hts _ hw.2.1) (hts _ hw.2.2.1) (hts _ hw.2.2.2) (by omega) (by omega) (by omega) (by omega) hd (kk p l e R s mm args below meth cd β D A as H locs cells slots Nt Zt lsA QF C hb h1 hW hS hl hF)
theorem ft_mmin {idx : Nat} {x y : Int32} (hw : Cond.methodLink m.1.cls idx Lib.Math.min.name ∈ fc_tbl ∧ Cond.static Lib.Math.min.name ∈ fc_tbl ∧ Cond.initialized "java/lang/Math" ∈ fc_tbl ∧ Cond.code Lib.Math.min.name Lib.Math.min.code 2 (some .int) ∈ fc_tbl) (hst : (st.map fun v => v.category).sum ≤ 8) (hd : decode m.2.1 pc = .ok (.invokestatic idx, 3)) (kk : fc_T m (d + 1) nb zb (pc + 3) ls (.int (if y < x then y else x) :: st) sh I P Q) : fc_T m (d + 1) nb zb pc ls (.int y :: .int x :: st) sh I P Q := fun p l e R s mm args below meth cd β D A as H locs cells slots Nt Zt lsA QF C hb h1 hW hS hl hF => by
  have hc := fc_cat8 (as := as) hst
  obtain ⟨hx, hbb, hml, hown, hts, hnm, hfr, hlo, hA, hE, hscr⟩ := id C
  exact va_mmin hx hbb (hml.trans hl.1.symm) hown (hts _ hw.1) (hts _ hw.2.1) (hts _ hw.2.2.1) (hts _ hw.2.2.2) (by omega) (by omega) (by omega) (by omega) hd (kk p l e R s mm args below meth cd β D A as H locs cells slots Nt Zt lsA QF C hb h1 hW hS hl hF)
theorem ft_objInit {idx a : Nat} (hw : Cond.methodLink m.1.cls idx objectInit ∈ fc_tbl ∧ Cond.instanceMethod objectInit ∈ fc_tbl ∧ Cond.code objectInit ⟨#[0xb1]⟩ 1 none ∈ fc_tbl) (hst : (st.map fun v => v.category).sum ≤ 8) (hd : decode m.2.1 pc = .ok (.invokespecial idx, 3)) (kk : fc_T m (d + 1) nb zb (pc + 3) ls st sh I P Q) : fc_T m (d + 1) nb zb pc ls (.ref a :: st) sh I P Q := fun p l e R s mm args below meth cd β D A as H locs cells slots Nt Zt lsA QF C hb h1 hW hS hl hF => by
  have hc := fc_cat8 (as := as) hst
  obtain ⟨hx, hbb, hml, hown, hts, hnm, hfr, hlo, hA, hE, hscr⟩ := id C
  exact W.objInit hx hbb hown (hts _ hw.1) (hts _ hw.2.1) (hts _ hw.2.2) rfl (hl.1.trans hml.symm) rfl hd (by omega) (by show 2 * 0 + _ + 12 ≤ _; omega) (kk p l e R s mm args below meth cd β D A as H locs cells slots Nt Zt lsA QF C hb h1 hW hS hl hF)
end HEAP
end
section
/-! ===== calls ===== -/
theorem fc_blind {β : Nat → ClassId} {D : va_G} {as : Nat → Nat} {av : List Value} {sh : fc_Sh} {I : fc_I} {P : fc_P} {sz : Nat} : FrameBlind (fc_Pc β D as av sh I P sz) := fun a U g mk q => ⟨q.1, q.2.1, fc_W.alike (u := U) (U := U.calling g mk a) (Vm.Alike.refl U.vm) q.2.2.1, q.2.2.2.same rfl⟩
set_option maxHeartbeats 4000000 in
theorem fc_back {p : Program} {l : Launch} {e : Env} {R : Room} {s : State} {mm : MethodId} {args : Array Value} {below : List Frame} {meth : Method} {c : Code} {H : Heap} {locs : List Loc} {cells slots mc ms pc n : Nat} {lsA : Array Slot} {st0 rest : List Value} {free A1 A : Nat → Prop} {QF : State → Prop} {β : Nat → ClassId} {D : va_G} {as : Nat → Nat} {Q' : fc_Q} {a : Array Value}
    (hr : va_Run p l e R s mm args below meth c H locs cells slots mc ms (F0 mm pc lsA st0) rest (fc_Qc β D as n A1 Q' a) free) (hS : va_S A s.heap H locs) (hA : ∀ q, A1 q → A q) (hf : ∀ q, free q → A q)
    (kk : ∀ (v : Option Value) (sh' : fc_Sh) (I' : fc_I) (P' : fc_P) (as' : Nat → Nat) (H1 : Heap) (locs1 : List Loc), Q' v sh' I' P' → n ≤ sh'.length → fc_ok sh' P' → fc_ext n sh'.length as as' → fc_W β D A as' sh' I' P' s H1 → va_S A s.heap H1 locs1 → W p l e R s mm args below meth c H1 locs1 (cells + mc) (slots + ms) QF (F0 mm (pc + 3) lsA ((v.map (fc_cv as')).toList ++ rest))) : W p l e R s mm args below meth c H locs cells slots QF (F0 mm pc lsA st0) := by
  intro T hT X
  obtain ⟨v, st₀, t, T', L, h0, X', hL, e1, e2, ⟨⟨v', sh', I', P', as', ho, hq, hn, hok, hx, hW1⟩, hz, hk⟩, st⟩ := hr T hT X
  cases ho
  rw [h0] at hz hk
  have hal : s.vm.Alike t.vm := by rw [← e2]; exact X'.warmed.alike
  obtain ⟨t2, a1, b1⟩ := kk v' sh' I' P' as' T'.heap (locs ++ L) hq hn hok hx (by rw [e1]; exact (hW1.weak hA).alike hal.symm)
    ⟨Nat.le_trans hS.1 (by rw [e1]; exact hz), fun q h1 h2 => by rw [e1, hk q (Nat.lt_of_lt_of_le h1 hS.1) (fun z => h2 (hA q z))]; exact hS.2.1 q h1 h2, fun q hq => by
      rcases List.mem_append.mp hq with h | h
      · exact hS.2.2 q h
      · exact hf _ (hL q h)⟩ T' rfl X'
  exact ⟨t2, st t2 a1, b1⟩
/-- what the tables say of a method -/
def fc_mf (m : fc_MI) (n : Nat) : Prop := Cond.initialized m.1.cls ∈ fc_tbl ∧ Cond.code m.1 m.2.1 m.2.2.1 m.2.2.2.1 ∈ fc_tbl ∧ (m.1.cls ≠ "java/lang/invoke/MethodHandle" ∧ m.1.cls ≠ "java/lang/invoke/VarHandle" ∧ (parseMethodDescriptor m.1.desc).map (fun d => d.parameters.length) = some n) ∧ m.2.2.1 ≤ 45
theorem fc_goodC {m : fc_MI} {n : Nat} (h : fc_mf m n) : GoodIn fc_tbl (Cond.code m.1 m.2.1 m.2.2.1 m.2.2.2.1 :: fc_tbl) := fun w hw => by
  rcases List.mem_cons.mp hw with rfl | hw
  · exact fc_good _ h.2.1
  · exact fc_good _ hw
def fc_cfV (own : String) (idx : Nat) (m : fc_MI) (ci n : Nat) : Prop := Cond.methodLink own idx m.1 ∈ fc_tbl ∧ fc_mf m n ∧ Cond.instanceMethod m.1 ∈ fc_tbl ∧ Cond.selects m.1.cls m.1 m.1 ∈ fc_tbl ∧ (fc_cl[ci]?).map (fun q => q.1) = some m.1.cls
def fc_cfVS (own : String) (idx : Nat) (m : fc_MI) (n : Nat) : Prop := Cond.methodLink own idx m.1 ∈ fc_tbl ∧ fc_mf m n ∧ Cond.instanceMethod m.1 ∈ fc_tbl ∧ Cond.selects m.1.cls m.1 m.1 ∈ fc_tbl ∧ m.1.cls = "java/lang/String"
def fc_cfS (own : String) (idx : Nat) (m : fc_MI) (n : Nat) : Prop := Cond.methodLink own idx m.1 ∈ fc_tbl ∧ fc_mf m n ∧ Cond.static m.1 ∈ fc_tbl
def fc_cfI (own : String) (idx : Nat) (m : fc_MI) (n : Nat) : Prop := Cond.methodLink own idx m.1 ∈ fc_tbl ∧ fc_mf m n ∧ m.1.name = "<init>" ∧ m.2.2.2.1 = none ∧ Cond.instanceMethod m.1 ∈ fc_tbl
def fc_cfSN (own : String) (idx : Nat) (m : fc_MI) (host : String) (n : Nat) : Prop := (own, idx, m.1, host) ∈ fc_nest ∧ fc_mf m n ∧ Cond.static m.1 ∈ fc_tbl
def fc_cfIN (own : String) (idx : Nat) (m : fc_MI) (host : String) (n : Nat) : Prop := (own, idx, m.1, host) ∈ fc_nest ∧ fc_mf m n ∧ m.1.name = "<init>" ∧ m.2.2.2.1 = none ∧ Cond.instanceMethod m.1 ∈ fc_tbl
theorem fc_Pcs {β : Nat → ClassId} {D : va_G} {A : Nat → Prop} {as : Nat → Nat} {av : List Value} {sh : fc_Sh} {I : fc_I} {P : fc_P} {s : State} {H : Heap} {locs : List Loc} (hW : fc_W β D A as sh I P s H) (hS : va_S A s.heap H locs) (hA : ∀ q, s.heap.size ≤ q → A q) (hE : fc_env (fc_ex as) A s s.heap) : ∀ U : State, U.heap = H → s.WarmedH U.vm → fc_Pc β D as av sh I P H.size (av.map (fc_cv as)).toArray U := fun U hU hw => ⟨rfl, by rw [hU], by rw [hU]; exact (hW.weak (fun _ _ => trivial)).alike hw.alike, hE.to (fc_own hW hS hA) hS hU hw⟩
section CALLS
variable {m m' : fc_MI} {d nb zb nb' zb' pc idx n : Nat} {ls : List (Option Value)} {st As : List Value} {sh : fc_Sh} {I : fc_I} {P : fc_P} {Q Q' : fc_Q}


/-- the values that are held lead to cells that are there -/
def fc_okv (n : Nat) (v : Value) : Bool := match v with
  | .ref c => decide (c < n) || decide (1000 ≤ c)
  | _ => true
def fc_oks (n : Nat) (ls : List (Option Value)) (st : List Value) : Bool := ls.all (fun o => match o with | some v => fc_okv n v | none => true) && st.all (fc_okv n)
theorem fc_cv_ext {n n' : Nat} {as as' : Nat → Nat} (h : fc_ext n n' as as') (hn : n' ≤ 1000) {v : Value} (hv : fc_okv n v = true) : fc_cv as' v = fc_cv as v := by
  cases v with
  | ref c =>
    simp only [fc_okv, Bool.or_eq_true, decide_eq_true_eq] at hv
    show Value.ref (as' c) = Value.ref (as c)
    have hq : ¬ (n ≤ c ∧ c < n') := by
      rcases hv with hv | hv
      · exact fun z => Nat.not_lt.mpr z.1 hv
      · exact fun z => Nat.not_lt.mpr (Nat.le_trans hn hv) z.2
    rw [h c hq]
  | _ => rfl
theorem fc_st_ext {n n' : Nat} {as as' : Nat → Nat} (h : fc_ext n n' as as') (hn : n' ≤ 1000) {ls : List (Option Value)} {st : List Value} (hk : fc_oks n ls st = true) : st.map (fc_cv as') = st.map (fc_cv as) := by
  simp only [fc_oks, Bool.and_eq_true, List.all_eq_true] at hk
  exact List.map_congr_left (fun v hv => fc_cv_ext h hn (hk.2 v hv))
theorem fc_ls_ext {n n' : Nat} {as as' : Nat → Nat} (h : fc_ext n n' as as') (hn : n' ≤ 1000) {ls : List (Option Value)} {st : List Value} (hk : fc_oks n ls st = true) {a : Array Slot} {nL : Nat} (hl : lv_has a nL (fc_lv as ls)) : lv_has a nL (fc_lv as' ls) := by
  simp only [fc_oks, Bool.and_eq_true, List.all_eq_true] at hk
  refine ⟨hl.1, hl.2.1, fun x hx => ?_⟩
  obtain ⟨v, h1, h2⟩ := fc_lv_of hx
  have h3 := hl.2.2 _ (fc_lv_mem (as := as) h1)
  rw [h2, fc_cv_ext h hn (hk.1 (some v) (List.mem_of_getElem? h1))]
  exact h3
theorem fc_ex_ext {n n' : Nat} {as as' : Nat → Nat} (h : fc_ext n n' as as') (hn : n' ≤ 1000) : fc_ex as' = fc_ex as := funext fun k => h (1000 + k) (by omega)
/-- the walk goes on behind a call or a making -/
theorem fc_go {p : Program} {l : Launch} {e : Env} {R : Room} {s : State} {mm : MethodId} {args : Array Value} {below : List Frame} {meth : Method} {cd : Code} {β : Nat → ClassId} {D : va_G} {A : Nat → Prop} {as as' : Nat → Nat} {H1 : Heap} {locs1 : List Loc} {cells1 slots1 Nt Zt d1 : Nat} {lsA : Array Slot} {QF : State → Prop} {sh' : fc_Sh} {I' : fc_I} {P' : fc_P} {vs : List Value}
    (C : fc_Ctx m d1 p R s mm args meth cd A (fc_ex as)) (hb : cells1 + nb ≤ Nt ∧ slots1 + zb ≤ Zt ∧ Nt ≤ R.cells ∧ Zt ≤ R.slots) (hn : sh.length ≤ sh'.length) (hok : fc_ok sh' P') (hex : fc_ext sh.length sh'.length as as') (hks : fc_oks sh.length ls st = true) (hW1 : fc_W β D A as' sh' I' P' s H1) (hS1 : va_S A s.heap H1 locs1) (hl : lv_has lsA m.2.2.1 (fc_lv as ls))
    (hF : ∀ (pc' : Nat) (lsA' : Array Slot) (v : Option Value) (sh'' : fc_Sh) (I' : fc_I) (P' : fc_P) (as' : Nat → Nat) (H' : Heap) (locs' : List Loc) (cells' slots' : Nat), fc_isRet m pc' v → Q v sh'' I' P' → sh.length ≤ sh''.length → fc_ok sh'' P' → fc_ext sh.length sh''.length as as' → cells' ≤ Nt → slots' ≤ Zt → fc_W β D A as' sh'' I' P' s H' → va_S A s.heap H' locs' → W p l e R s mm args below meth cd H' locs' cells' slots' QF (F0 mm pc' lsA' (v.toList.map (fc_cv as'))))
    (k : fc_T m d1 nb zb pc ls (vs ++ st) sh' I' P' Q) : W p l e R s mm args below meth cd H1 locs1 cells1 slots1 QF (F0 mm pc lsA (vs.map (fc_cv as') ++ st.map (fc_cv as))) := by
  have e1 := fc_ex_ext hex hok.1
  have e2 := fc_st_ext hex hok.1 hks
  have h := k p l e R s mm args below meth cd β D A as' H1 locs1 cells1 slots1 Nt Zt lsA QF (by rw [e1]; exact C) hb hok hW1 hS1 (fc_ls_ext hex hok.1 hks hl) (fun pc' lsA' v sh'' I'' P'' as'' H' locs' cells' slots' hr hQ hn2 hok2 hx2 hc2 hs2 hW2 hS2 => hF pc' lsA' v sh'' I'' P'' as'' H' locs' cells' slots' hr hQ (Nat.le_trans hn hn2) hok2 (hex.tr hx2 hn hn2) hc2 hs2 hW2 hS2)
  rw [List.map_append, e2] at h
  exact h
theorem fc_oks_any {n : Nat} : True := trivial

set_option maxHeartbeats 4000000 in
theorem fc_callV {ci N b : Nat} (hc : fc_cfV m.1.cls idx m' ci n) (hs : sh[b]? = some (10 + ci, N)) (hC : fc_C m' d nb' zb' (.ref b :: As) sh I P Q') (hAn : As.length = n) (hst : (st.map fun v => v.category).sum ≤ 8) (hks : fc_oks sh.length ls st = true) (hd : decode m.2.1 pc = .ok (.invokevirtual idx, 3)) (kk : ∀ (v : Option Value) (sh' : fc_Sh) (I' : fc_I) (P' : fc_P), Q' v sh' I' P' → fc_T m (d + 1) nb zb (pc + 3) ls (v.toList ++ st) sh' I' P' Q) : fc_T m (d + 1) (nb' + nb) (zb' + zb) pc ls (As.reverse ++ .ref b :: st) sh I P Q := fun p l e R s mm args below meth cd β D A as H locs cells slots Nt Zt lsA QF C hb h1 hW hS hl hF => by
  obtain ⟨hx, hbb, hml, hown, hts, hnm, hfr, hlo, hA, hE, hscr⟩ := id C
  have hc8 := fc_cat8 (as := as) hst
  obtain ⟨hlink, hmf, hinst, hsel, hci⟩ := hc
  have hM := hC h1 l β D as H.size
  have hO := fc_own hW hS hA
  obtain ⟨q, hcq, hq1⟩ : ∃ q, fc_cl[ci]? = some q ∧ q.1 = m'.1.cls := by
    cases hq : fc_cl[ci]? with
    | none => rw [hq] at hci; simp at hci
    | some q => rw [hq] at hci; exact ⟨q, rfl, by simpa using hci⟩
  have he := fc_w_at (β := β) (as := as) (I := I) (P := P) hs
  rw [fc_cell_o] at he
  have hrec := va_recv hW.2.2 hW.1 hcq he
  rw [hq1] at hrec
  have hrun := va_runV (l := l) (e := e) (below := below) (meth := meth) (locs := locs) (cells := cells) (slots := slots) (As := As.map (fc_cv as)) (rest := st.map (fc_cv as)) (g := F0 mm pc lsA ((As.map (fc_cv as)).reverse ++ .ref (as b) :: st.map (fc_cv as))) ⟨hx, hbb, hml, hown, hts⟩ hM ⟨callB_of n hts (fc_goodC hmf) rfl rfl rfl (hts _ hmf.1) (hts _ hlink) hmf.2.2.1 ⟨by show d + 1 ≤ R.frames; omega, by have := hmf.2.2.2; show 8 + (_ + 11) + 64 * d ≤ _; omega⟩, hts _ hinst, hts _ hsel⟩ ⟨fc_blind, hrec, fun U hU hw => fc_Pcs (av := .ref b :: As) hW hS hA hE U hU hw⟩ rfl (by rw [List.length_map]; exact hAn) hl.1 rfl (lv_room hc8) hd ⟨by omega, by omega⟩
  have es : (As.reverse ++ .ref b :: st).map (fc_cv as) = (As.map (fc_cv as)).reverse ++ .ref (as b) :: st.map (fc_cv as) := by simp [fc_cv]
  rw [es]
  refine fc_back (Q' := Q') hrun hS hO hO (fun v sh' I' P' as' H1 locs1 hq hn hok hex hW1 hS1 => ?_)
  have hk := kk v sh' I' P' hq
  have hg := fc_go (ls := ls) (st := st) (vs := v.toList) (nb := nb) (zb := zb) (cells1 := cells + nb') (slots1 := slots + zb') C ⟨by omega, by omega, hb.2.2.1, hb.2.2.2⟩ hn hok hex hks hW1 hS1 hl hF hk
  have ev : (v.map (fc_cv as')).toList = v.toList.map (fc_cv as') := by cases v <;> rfl
  rw [ev]
  exact hg
set_option maxHeartbeats 4000000 in
theorem fc_calLV {ci N b : Nat} (hc : fc_cfV m.1.cls idx m' ci n) (hs : sh[b]? = some (10 + ci, N)) (hC : fc_C m' d 0 0 (.ref b :: As) sh I P Q') (hsh : ∀ v sh' I' P', Q' v sh' I' P' → sh' = sh) (hAn : As.length = n) (hst : (st.map fun v => v.category).sum ≤ 8) (hd : decode m.2.1 pc = .ok (.invokevirtual idx, 3)) (kk : ∀ (v : Option Value) (I' : fc_I) (P' : fc_P), Q' v sh I' P' → fc_T m (d + 1) nb zb (pc + 3) ls (v.toList ++ st) sh I' P' Q) : fc_T m (d + 1) nb zb pc ls (As.reverse ++ .ref b :: st) sh I P Q := fun p l e R s mm args below meth cd β D A as H locs cells slots Nt Zt lsA QF C hb h1 hW hS hl hF => by
  obtain ⟨hx, hbb, hml, hown, hts, hnm, hfr, hlo, hA, hE, hscr⟩ := id C
  have hc8 := fc_cat8 (as := as) hst
  obtain ⟨hlink, hmf, hinst, hsel, hci⟩ := hc
  have hM := hC h1 l β D as H.size
  have hO := fc_own hW hS hA
  obtain ⟨q, hcq, hq1⟩ : ∃ q, fc_cl[ci]? = some q ∧ q.1 = m'.1.cls := by
    cases hq : fc_cl[ci]? with
    | none => rw [hq] at hci; simp at hci
    | some q => rw [hq] at hci; exact ⟨q, rfl, by simpa using hci⟩
  have he := fc_w_at (β := β) (as := as) (I := I) (P := P) hs
  rw [fc_cell_o] at he
  have hrec := va_recv hW.2.2 hW.1 hcq he
  rw [hq1] at hrec
  have hrun := va_runV (l := l) (e := e) (below := below) (meth := meth) (locs := locs) (cells := cells) (slots := slots) (As := As.map (fc_cv as)) (rest := st.map (fc_cv as)) (g := F0 mm pc lsA ((As.map (fc_cv as)).reverse ++ .ref (as b) :: st.map (fc_cv as))) ⟨hx, hbb, hml, hown, hts⟩ hM ⟨callB_of n hts (fc_goodC hmf) rfl rfl rfl (hts _ hmf.1) (hts _ hlink) hmf.2.2.1 ⟨by show d + 1 ≤ R.frames; omega, by have := hmf.2.2.2; show 8 + (_ + 11) + 64 * d ≤ _; omega⟩, hts _ hinst, hts _ hsel⟩ ⟨fc_blind, hrec, fun U hU hw => fc_Pcs (av := .ref b :: As) hW hS hA hE U hU hw⟩ rfl (by rw [List.length_map]; exact hAn) hl.1 rfl (lv_room hc8) hd ⟨by omega, by omega⟩
  have es : (As.reverse ++ .ref b :: st).map (fc_cv as) = (As.map (fc_cv as)).reverse ++ .ref (as b) :: st.map (fc_cv as) := by simp [fc_cv]
  rw [es]
  refine fc_back (Q' := Q') hrun hS hO hO (fun v sh' I' P' as' H1 locs1 hq hn hok hex hW1 hS1 => ?_)
  have e0 := hsh v sh' I' P' hq
  subst e0
  have e1 := hex.eq
  subst e1
  have hk := kk v I' P' hq p l e R s mm args below meth cd β D A as' H1 locs1 (cells + 0) (slots + 0) Nt Zt lsA QF C hb hok hW1 hS1 hl hF
  rw [List.map_append] at hk
  have ev : (v.map (fc_cv as')).toList = v.toList.map (fc_cv as') := by cases v <;> rfl
  rw [ev]
  exact hk
set_option maxHeartbeats 4000000 in
theorem fc_callS (hc : fc_cfS m.1.cls idx m' n) (hC : fc_C m' d nb' zb' As sh I P Q') (hAn : As.length = n) (hst : (st.map fun v => v.category).sum ≤ 8) (hks : fc_oks sh.length ls st = true) (hd : decode m.2.1 pc = .ok (.invokestatic idx, 3)) (kk : ∀ (v : Option Value) (sh' : fc_Sh) (I' : fc_I) (P' : fc_P), Q' v sh' I' P' → fc_T m (d + 1) nb zb (pc + 3) ls (v.toList ++ st) sh' I' P' Q) : fc_T m (d + 1) (nb' + nb) (zb' + zb) pc ls (As.reverse ++ st) sh I P Q := fun p l e R s mm args below meth cd β D A as H locs cells slots Nt Zt lsA QF C hb h1 hW hS hl hF => by
  obtain ⟨hx, hbb, hml, hown, hts, hnm, hfr, hlo, hA, hE, hscr⟩ := id C
  have hc8 := fc_cat8 (as := as) hst
  obtain ⟨hlink, hmf, hstat⟩ := hc
  have hM := hC h1 l β D as H.size
  have hO := fc_own hW hS hA
  have hrun := va_runS (l := l) (e := e) (below := below) (meth := meth) (locs := locs) (cells := cells) (slots := slots) (As := As.map (fc_cv as)) (rest := st.map (fc_cv as)) (g := F0 mm pc lsA ((As.map (fc_cv as)).reverse ++ st.map (fc_cv as))) ⟨hx, hbb, hml, hown, hts⟩ hM ⟨callB_of n hts (fc_goodC hmf) rfl rfl rfl (hts _ hmf.1) (hts _ hlink) hmf.2.2.1 ⟨by show d + 1 ≤ R.frames; omega, by have := hmf.2.2.2; show 8 + (_ + 11) + 64 * d ≤ _; omega⟩, hts _ hstat⟩ ⟨fc_blind, fun U hU hw => fc_Pcs (av := As) hW hS hA hE U hU hw⟩ rfl (by rw [List.length_map]; exact hAn) hl.1 rfl (lv_room hc8) hd ⟨by omega, by omega⟩
  have es : (As.reverse ++ st).map (fc_cv as) = (As.map (fc_cv as)).reverse ++ st.map (fc_cv as) := by simp [fc_cv]
  rw [es]
  refine fc_back (Q' := Q') hrun hS hO hO (fun v sh' I' P' as' H1 locs1 hq hn hok hex hW1 hS1 => ?_)
  have hk := kk v sh' I' P' hq
  have hg := fc_go (ls := ls) (st := st) (vs := v.toList) (nb := nb) (zb := zb) (cells1 := cells + nb') (slots1 := slots + zb') C ⟨by omega, by omega, hb.2.2.1, hb.2.2.2⟩ hn hok hex hks hW1 hS1 hl hF hk
  have ev : (v.map (fc_cv as')).toList = v.toList.map (fc_cv as') := by cases v <;> rfl
  rw [ev]
  exact hg
set_option maxHeartbeats 4000000 in
theorem fc_calLS (hc : fc_cfS m.1.cls idx m' n) (hC : fc_C m' d 0 0 As sh I P Q') (hsh : ∀ v sh' I' P', Q' v sh' I' P' → sh' = sh) (hAn : As.length = n) (hst : (st.map fun v => v.category).sum ≤ 8) (hd : decode m.2.1 pc = .ok (.invokestatic idx, 3)) (kk : ∀ (v : Option Value) (I' : fc_I) (P' : fc_P), Q' v sh I' P' → fc_T m (d + 1) nb zb (pc + 3) ls (v.toList ++ st) sh I' P' Q) : fc_T m (d + 1) nb zb pc ls (As.reverse ++ st) sh I P Q := fun p l e R s mm args below meth cd β D A as H locs cells slots Nt Zt lsA QF C hb h1 hW hS hl hF => by
  obtain ⟨hx, hbb, hml, hown, hts, hnm, hfr, hlo, hA, hE, hscr⟩ := id C
  have hc8 := fc_cat8 (as := as) hst
  obtain ⟨hlink, hmf, hstat⟩ := hc
  have hM := hC h1 l β D as H.size
  have hO := fc_own hW hS hA
  have hrun := va_runS (l := l) (e := e) (below := below) (meth := meth) (locs := locs) (cells := cells) (slots := slots) (As := As.map (fc_cv as)) (rest := st.map (fc_cv as)) (g := F0 mm pc lsA ((As.map (fc_cv as)).reverse ++ st.map (fc_cv as))) ⟨hx, hbb, hml, hown, hts⟩ hM ⟨callB_of n hts (fc_goodC hmf) rfl rfl rfl (hts _ hmf.1) (hts _ hlink) hmf.2.2.1 ⟨by show d + 1 ≤ R.frames; omega, by have := hmf.2.2.2; show 8 + (_ + 11) + 64 * d ≤ _; omega⟩, hts _ hstat⟩ ⟨fc_blind, fun U hU hw => fc_Pcs (av := As) hW hS hA hE U hU hw⟩ rfl (by rw [List.length_map]; exact hAn) hl.1 rfl (lv_room hc8) hd ⟨by omega, by omega⟩
  have es : (As.reverse ++ st).map (fc_cv as) = (As.map (fc_cv as)).reverse ++ st.map (fc_cv as) := by simp [fc_cv]
  rw [es]
  refine fc_back (Q' := Q') hrun hS hO hO (fun v sh' I' P' as' H1 locs1 hq hn hok hex hW1 hS1 => ?_)
  have e0 := hsh v sh' I' P' hq
  subst e0
  have e1 := hex.eq
  subst e1
  have hk := kk v I' P' hq p l e R s mm args below meth cd β D A as' H1 locs1 (cells + 0) (slots + 0) Nt Zt lsA QF C hb hok hW1 hS1 hl hF
  rw [List.map_append] at hk
  have ev : (v.map (fc_cv as')).toList = v.toList.map (fc_cv as') := by cases v <;> rfl
  rw [ev]
  exact hk
set_option maxHeartbeats 4000000 in
theorem fc_callSN {host : String} (hc : fc_cfSN m.1.cls idx m' host n) (hC : fc_C m' d nb' zb' As sh I P Q') (hAn : As.length = n) (hst : (st.map fun v => v.category).sum ≤ 8) (hks : fc_oks sh.length ls st = true) (hd : decode m.2.1 pc = .ok (.invokestatic idx, 3)) (kk : ∀ (v : Option Value) (sh' : fc_Sh) (I' : fc_I) (P' : fc_P), Q' v sh' I' P' → fc_T m (d + 1) nb zb (pc + 3) ls (v.toList ++ st) sh' I' P' Q) : fc_T m (d + 1) (nb' + nb) (zb' + zb) pc ls (As.reverse ++ st) sh I P Q := fun p l e R s mm args below meth cd β D A as H locs cells slots Nt Zt lsA QF C hb h1 hW hS hl hF => by
  obtain ⟨hx, hbb, hml, hown, hts, hnm, hfr, hlo, hA, hE, hscr⟩ := id C
  have hc8 := fc_cat8 (as := as) hst
  obtain ⟨hlink, hmf, hstat⟩ := hc
  have hM := hC h1 l β D as H.size
  have hO := fc_own hW hS hA
  have hnl := hE.2.2.2.2.2.2.1 _ hlink
  have hrun := va_runSN (l := l) (e := e) (below := below) (meth := meth) (locs := locs) (cells := cells) (slots := slots) (As := As.map (fc_cv as)) (rest := st.map (fc_cv as)) (g := F0 mm pc lsA ((As.map (fc_cv as)).reverse ++ st.map (fc_cv as))) ⟨hx, hbb, hml, hown, hts⟩ hM ⟨va_cnB n hts (fc_goodC hmf) rfl rfl rfl hnl (hts _ hmf.1) hmf.2.2.1 ⟨by show d + 1 ≤ R.frames; omega, by have := hmf.2.2.2; show 8 + (_ + 11) + 64 * d ≤ _; omega⟩, hts _ hstat, trivial⟩ ⟨fc_blind, fun U hU hw => fc_Pcs (av := As) hW hS hA hE U hU hw⟩ rfl (by rw [List.length_map]; exact hAn) hl.1 rfl (lv_room hc8) hd ⟨by omega, by omega⟩
  have es : (As.reverse ++ st).map (fc_cv as) = (As.map (fc_cv as)).reverse ++ st.map (fc_cv as) := by simp [fc_cv]
  rw [es]
  refine fc_back (Q' := Q') hrun hS hO hO (fun v sh' I' P' as' H1 locs1 hq hn hok hex hW1 hS1 => ?_)
  have hk := kk v sh' I' P' hq
  have hg := fc_go (ls := ls) (st := st) (vs := v.toList) (nb := nb) (zb := zb) (cells1 := cells + nb') (slots1 := slots + zb') C ⟨by omega, by omega, hb.2.2.1, hb.2.2.2⟩ hn hok hex hks hW1 hS1 hl hF hk
  have ev : (v.map (fc_cv as')).toList = v.toList.map (fc_cv as') := by cases v <;> rfl
  rw [ev]
  exact hg
set_option maxHeartbeats 4000000 in
theorem fc_calLSN {host : String} (hc : fc_cfSN m.1.cls idx m' host n) (hC : fc_C m' d 0 0 As sh I P Q') (hsh : ∀ v sh' I' P', Q' v sh' I' P' → sh' = sh) (hAn : As.length = n) (hst : (st.map fun v => v.category).sum ≤ 8) (hd : decode m.2.1 pc = .ok (.invokestatic idx, 3)) (kk : ∀ (v : Option Value) (I' : fc_I) (P' : fc_P), Q' v sh I' P' → fc_T m (d + 1) nb zb (pc + 3) ls (v.toList ++ st) sh I' P' Q) : fc_T m (d + 1) nb zb pc ls (As.reverse ++ st) sh I P Q := fun p l e R s mm args below meth cd β D A as H locs cells slots Nt Zt lsA QF C hb h1 hW hS hl hF => by
  obtain ⟨hx, hbb, hml, hown, hts, hnm, hfr, hlo, hA, hE, hscr⟩ := id C
  have hc8 := fc_cat8 (as := as) hst
  obtain ⟨hlink, hmf, hstat⟩ := hc
  have hM := hC h1 l β D as H.size
  have hO := fc_own hW hS hA
  have hnl := hE.2.2.2.2.2.2.1 _ hlink
  have hrun := va_runSN (l := l) (e := e) (below := below) (meth := meth) (locs := locs) (cells := cells) (slots := slots) (As := As.map (fc_cv as)) (rest := st.map (fc_cv as)) (g := F0 mm pc lsA ((As.map (fc_cv as)).reverse ++ st.map (fc_cv as))) ⟨hx, hbb, hml, hown, hts⟩ hM ⟨va_cnB n hts (fc_goodC hmf) rfl rfl rfl hnl (hts _ hmf.1) hmf.2.2.1 ⟨by show d + 1 ≤ R.frames; omega, by have := hmf.2.2.2; show 8 + (_ + 11) + 64 * d ≤ _; omega⟩, hts _ hstat, trivial⟩ ⟨fc_blind, fun U hU hw => fc_Pcs (av := As) hW hS hA hE U hU hw⟩ rfl (by rw [List.length_map]; exact hAn) hl.1 rfl (lv_room hc8) hd ⟨by omega, by omega⟩
  have es : (As.reverse ++ st).map (fc_cv as) = (As.map (fc_cv as)).reverse ++ st.map (fc_cv as) := by simp [fc_cv]
  rw [es]
  refine fc_back (Q' := Q') hrun hS hO hO (fun v sh' I' P' as' H1 locs1 hq hn hok hex hW1 hS1 => ?_)
  have e0 := hsh v sh' I' P' hq
  subst e0
  have e1 := hex.eq
  subst e1
  have hk := kk v I' P' hq p l e R s mm args below meth cd β D A as' H1 locs1 (cells + 0) (slots + 0) Nt Zt lsA QF C hb hok hW1 hS1 hl hF
  rw [List.map_append] at hk
  have ev : (v.map (fc_cv as')).toList = v.toList.map (fc_cv as') := by cases v <;> rfl
  rw [ev]
  exact hk
set_option maxHeartbeats 4000000 in
theorem fc_callI {b : Nat} (hc : fc_cfI m.1.cls idx m' n) (hC : fc_C m' d nb' zb' (.ref b :: As) sh I P Q') (hAn : As.length = n) (hst : (st.map fun v => v.category).sum ≤ 8) (hks : fc_oks sh.length ls st = true) (hd : decode m.2.1 pc = .ok (.invokespecial idx, 3)) (kk : ∀ (v : Option Value) (sh' : fc_Sh) (I' : fc_I) (P' : fc_P), Q' v sh' I' P' → fc_T m (d + 1) nb zb (pc + 3) ls (v.toList ++ st) sh' I' P' Q) : fc_T m (d + 1) (nb' + nb) (zb' + zb) pc ls (As.reverse ++ .ref b :: st) sh I P Q := fun p l e R s mm args below meth cd β D A as H locs cells slots Nt Zt lsA QF C hb h1 hW hS hl hF => by
  obtain ⟨hx, hbb, hml, hown, hts, hnm, hfr, hlo, hA, hE, hscr⟩ := id C
  have hc8 := fc_cat8 (as := as) hst
  obtain ⟨hlink, hmf, hnmI, hret, hinst⟩ := hc
  have hM := hC h1 l β D as H.size
  have hO := fc_own hW hS hA
  have hrun := va_runI (l := l) (e := e) (below := below) (meth := meth) (locs := locs) (cells := cells) (slots := slots) (As := As.map (fc_cv as)) (rest := st.map (fc_cv as)) (g := F0 mm pc lsA ((As.map (fc_cv as)).reverse ++ .ref (as b) :: st.map (fc_cv as))) ⟨hx, hbb, hml, hown, hts⟩ hM ⟨callB_of n hts (fc_goodC hmf) (by rw [hret]) rfl rfl (hts _ hmf.1) (hts _ hlink) hmf.2.2.1 ⟨by show d + 1 ≤ R.frames; omega, by have := hmf.2.2.2; show 8 + (_ + 11) + 64 * d ≤ _; omega⟩, hnmI, hts _ hinst⟩ ⟨fc_blind, fun U hU hw => fc_Pcs (av := .ref b :: As) hW hS hA hE U hU hw⟩ rfl (by rw [List.length_map]; exact hAn) hl.1 rfl (lv_room hc8) hd ⟨by omega, by omega⟩
  have es : (As.reverse ++ .ref b :: st).map (fc_cv as) = (As.map (fc_cv as)).reverse ++ .ref (as b) :: st.map (fc_cv as) := by simp [fc_cv]
  rw [es]
  refine fc_back (Q' := Q') hrun hS hO hO (fun v sh' I' P' as' H1 locs1 hq hn hok hex hW1 hS1 => ?_)
  have hk := kk v sh' I' P' hq
  have hg := fc_go (ls := ls) (st := st) (vs := v.toList) (nb := nb) (zb := zb) (cells1 := cells + nb') (slots1 := slots + zb') C ⟨by omega, by omega, hb.2.2.1, hb.2.2.2⟩ hn hok hex hks hW1 hS1 hl hF hk
  have ev : (v.map (fc_cv as')).toList = v.toList.map (fc_cv as') := by cases v <;> rfl
  rw [ev]
  exact hg
set_option maxHeartbeats 4000000 in
theorem fc_calLI {b : Nat} (hc : fc_cfI m.1.cls idx m' n) (hC : fc_C m' d 0 0 (.ref b :: As) sh I P Q') (hsh : ∀ v sh' I' P', Q' v sh' I' P' → sh' = sh) (hAn : As.length = n) (hst : (st.map fun v => v.category).sum ≤ 8) (hd : decode m.2.1 pc = .ok (.invokespecial idx, 3)) (kk : ∀ (v : Option Value) (I' : fc_I) (P' : fc_P), Q' v sh I' P' → fc_T m (d + 1) nb zb (pc + 3) ls (v.toList ++ st) sh I' P' Q) : fc_T m (d + 1) nb zb pc ls (As.reverse ++ .ref b :: st) sh I P Q := fun p l e R s mm args below meth cd β D A as H locs cells slots Nt Zt lsA QF C hb h1 hW hS hl hF => by
  obtain ⟨hx, hbb, hml, hown, hts, hnm, hfr, hlo, hA, hE, hscr⟩ := id C
  have hc8 := fc_cat8 (as := as) hst
  obtain ⟨hlink, hmf, hnmI, hret, hinst⟩ := hc
  have hM := hC h1 l β D as H.size
  have hO := fc_own hW hS hA
  have hrun := va_runI (l := l) (e := e) (below := below) (meth := meth) (locs := locs) (cells := cells) (slots := slots) (As := As.map (fc_cv as)) (rest := st.map (fc_cv as)) (g := F0 mm pc lsA ((As.map (fc_cv as)).reverse ++ .ref (as b) :: st.map (fc_cv as))) ⟨hx, hbb, hml, hown, hts⟩ hM ⟨callB_of n hts (fc_goodC hmf) (by rw [hret]) rfl rfl (hts _ hmf.1) (hts _ hlink) hmf.2.2.1 ⟨by show d + 1 ≤ R.frames; omega, by have := hmf.2.2.2; show 8 + (_ + 11) + 64 * d ≤ _; omega⟩, hnmI, hts _ hinst⟩ ⟨fc_blind, fun U hU hw => fc_Pcs (av := .ref b :: As) hW hS hA hE U hU hw⟩ rfl (by rw [List.length_map]; exact hAn) hl.1 rfl (lv_room hc8) hd ⟨by omega, by omega⟩
  have es : (As.reverse ++ .ref b :: st).map (fc_cv as) = (As.map (fc_cv as)).reverse ++ .ref (as b) :: st.map (fc_cv as) := by simp [fc_cv]
  rw [es]
  refine fc_back (Q' := Q') hrun hS hO hO (fun v sh' I' P' as' H1 locs1 hq hn hok hex hW1 hS1 => ?_)
  have e0 := hsh v sh' I' P' hq
  subst e0
  have e1 := hex.eq
  subst e1
  have hk := kk v I' P' hq p l e R s mm args below meth cd β D A as' H1 locs1 (cells + 0) (slots + 0) Nt Zt lsA QF C hb hok hW1 hS1 hl hF
  rw [List.map_append] at hk
  have ev : (v.map (fc_cv as')).toList = v.toList.map (fc_cv as') := by cases v <;> rfl
  rw [ev]
  exact hk
set_option maxHeartbeats 4000000 in
theorem fc_callIN {b : Nat} {host : String} (hc : fc_cfIN m.1.cls idx m' host n) (hC : fc_C m' d nb' zb' (.ref b :: As) sh I P Q') (hAn : As.length = n) (hst : (st.map fun v => v.category).sum ≤ 8) (hks : fc_oks sh.length ls st = true) (hd : decode m.2.1 pc = .ok (.invokespecial idx, 3)) (kk : ∀ (v : Option Value) (sh' : fc_Sh) (I' : fc_I) (P' : fc_P), Q' v sh' I' P' → fc_T m (d + 1) nb zb (pc + 3) ls (v.toList ++ st) sh' I' P' Q) : fc_T m (d + 1) (nb' + nb) (zb' + zb) pc ls (As.reverse ++ .ref b :: st) sh I P Q := fun p l e R s mm args below meth cd β D A as H locs cells slots Nt Zt lsA QF C hb h1 hW hS hl hF => by
  obtain ⟨hx, hbb, hml, hown, hts, hnm, hfr, hlo, hA, hE, hscr⟩ := id C
  have hc8 := fc_cat8 (as := as) hst
  obtain ⟨hlink, hmf, hnmI, hret, hinst⟩ := hc
  have hM := hC h1 l β D as H.size
  have hO := fc_own hW hS hA
  have hrun := va_runIN (l := l) (e := e) (below := below) (meth := meth) (locs := locs) (cells := cells) (slots := slots) (As := As.map (fc_cv as)) (rest := st.map (fc_cv as)) (g := F0 mm pc lsA ((As.map (fc_cv as)).reverse ++ .ref (as b) :: st.map (fc_cv as))) ⟨hx, hbb, hml, hown, hts⟩ hM ⟨va_cnB n hts (fc_goodC hmf) (by rw [hret]) rfl rfl (hE.2.2.2.2.2.2.1 _ hlink) (hts _ hmf.1) hmf.2.2.1 ⟨by show d + 1 ≤ R.frames; omega, by have := hmf.2.2.2; show 8 + (_ + 11) + 64 * d ≤ _; omega⟩, hnmI, hts _ hinst⟩ ⟨fc_blind, fun U hU hw => fc_Pcs (av := .ref b :: As) hW hS hA hE U hU hw⟩ rfl (by rw [List.length_map]; exact hAn) hl.1 rfl (lv_room hc8) hd ⟨by omega, by omega⟩
  have es : (As.reverse ++ .ref b :: st).map (fc_cv as) = (As.map (fc_cv as)).reverse ++ .ref (as b) :: st.map (fc_cv as) := by simp [fc_cv]
  rw [es]
  refine fc_back (Q' := Q') hrun hS hO hO (fun v sh' I' P' as' H1 locs1 hq hn hok hex hW1 hS1 => ?_)
  have hk := kk v sh' I' P' hq
  have hg := fc_go (ls := ls) (st := st) (vs := v.toList) (nb := nb) (zb := zb) (cells1 := cells + nb') (slots1 := slots + zb') C ⟨by omega, by omega, hb.2.2.1, hb.2.2.2⟩ hn hok hex hks hW1 hS1 hl hF hk
  have ev : (v.map (fc_cv as')).toList = v.toList.map (fc_cv as') := by cases v <;> rfl
  rw [ev]
  exact hg
set_option maxHeartbeats 4000000 in
theorem fc_calLIN {b : Nat} {host : String} (hc : fc_cfIN m.1.cls idx m' host n) (hC : fc_C m' d 0 0 (.ref b :: As) sh I P Q') (hsh : ∀ v sh' I' P', Q' v sh' I' P' → sh' = sh) (hAn : As.length = n) (hst : (st.map fun v => v.category).sum ≤ 8) (hd : decode m.2.1 pc = .ok (.invokespecial idx, 3)) (kk : ∀ (v : Option Value) (I' : fc_I) (P' : fc_P), Q' v sh I' P' → fc_T m (d + 1) nb zb (pc + 3) ls (v.toList ++ st) sh I' P' Q) : fc_T m (d + 1) nb zb pc ls (As.reverse ++ .ref b :: st) sh I P Q := fun p l e R s mm args below meth cd β D A as H locs cells slots Nt Zt lsA QF C hb h1 hW hS hl hF => by
  obtain ⟨hx, hbb, hml, hown, hts, hnm, hfr, hlo, hA, hE, hscr⟩ := id C
  have hc8 := fc_cat8 (as := as) hst
  obtain ⟨hlink, hmf, hnmI, hret, hinst⟩ := hc
  have hM := hC h1 l β D as H.size
  have hO := fc_own hW hS hA
  have hrun := va_runIN (l := l) (e := e) (below := below) (meth := meth) (locs := locs) (cells := cells) (slots := slots) (As := As.map (fc_cv as)) (rest := st.map (fc_cv as)) (g := F0 mm pc lsA ((As.map (fc_cv as)).reverse ++ .ref (as b) :: st.map (fc_cv as))) ⟨hx, hbb, hml, hown, hts⟩ hM ⟨va_cnB n hts (fc_goodC hmf) (by rw [hret]) rfl rfl (hE.2.2.2.2.2.2.1 _ hlink) (hts _ hmf.1) hmf.2.2.1 ⟨by show d + 1 ≤ R.frames; omega, by have := hmf.2.2.2; show 8 + (_ + 11) + 64 * d ≤ _; omega⟩, hnmI, hts _ hinst⟩ ⟨fc_blind, fun U hU hw => fc_Pcs (av := .ref b :: As) hW hS hA hE U hU hw⟩ rfl (by rw [List.length_map]; exact hAn) hl.1 rfl (lv_room hc8) hd ⟨by omega, by omega⟩
  have es : (As.reverse ++ .ref b :: st).map (fc_cv as) = (As.map (fc_cv as)).reverse ++ .ref (as b) :: st.map (fc_cv as) := by simp [fc_cv]
  rw [es]
  refine fc_back (Q' := Q') hrun hS hO hO (fun v sh' I' P' as' H1 locs1 hq hn hok hex hW1 hS1 => ?_)
  have e0 := hsh v sh' I' P' hq
  subst e0
  have e1 := hex.eq
  subst e1
  have hk := kk v I' P' hq p l e R s mm args below meth cd β D A as' H1 locs1 (cells + 0) (slots + 0) Nt Zt lsA QF C hb hok hW1 hS1 hl hF
  rw [List.map_append] at hk
  have ev : (v.map (fc_cv as')).toList = v.toList.map (fc_cv as') := by cases v <;> rfl
  rw [ev]
  exact hk
set_option maxHeartbeats 4000000 in
theorem fc_callVS {k : Nat} (hc : fc_cfVS m.1.cls idx m' n) (hk : k < 12) (hC : fc_C m' d nb' zb' (.ref (1000 + k) :: As) sh I P Q') (hAn : As.length = n) (hst : (st.map fun v => v.category).sum ≤ 8) (hks : fc_oks sh.length ls st = true) (hd : decode m.2.1 pc = .ok (.invokevirtual idx, 3)) (kk : ∀ (v : Option Value) (sh' : fc_Sh) (I' : fc_I) (P' : fc_P), Q' v sh' I' P' → fc_T m (d + 1) nb zb (pc + 3) ls (v.toList ++ st) sh' I' P' Q) : fc_T m (d + 1) (nb' + nb) (zb' + zb) pc ls (As.reverse ++ .ref (1000 + k) :: st) sh I P Q := fun p l e R s mm args below meth cd β D A as H locs cells slots Nt Zt lsA QF C hb h1 hW hS hl hF => by
  obtain ⟨hx, hbb, hml, hown, hts, hnm, hfr, hlo, hA, hE, hscr⟩ := id C
  have hc8 := fc_cat8 (as := as) hst
  obtain ⟨hlink, hmf, hinst, hsel, hci⟩ := hc
  have hM := hC h1 l β D as H.size
  have hO := fc_own hW hS hA
  have hrec := vk_recv hE.1 hk hS
  rw [← hci] at hrec
  have hrun := va_runV (l := l) (e := e) (below := below) (meth := meth) (locs := locs) (cells := cells) (slots := slots) (As := As.map (fc_cv as)) (rest := st.map (fc_cv as)) (g := F0 mm pc lsA ((As.map (fc_cv as)).reverse ++ .ref (as (1000 + k)) :: st.map (fc_cv as))) ⟨hx, hbb, hml, hown, hts⟩ hM ⟨callB_of n hts (fc_goodC hmf) rfl rfl rfl (hts _ hmf.1) (hts _ hlink) hmf.2.2.1 ⟨by show d + 1 ≤ R.frames; omega, by have := hmf.2.2.2; show 8 + (_ + 11) + 64 * d ≤ _; omega⟩, hts _ hinst, hts _ hsel⟩ ⟨fc_blind, hrec, fun U hU hw => fc_Pcs (av := .ref (1000 + k) :: As) hW hS hA hE U hU hw⟩ rfl (by rw [List.length_map]; exact hAn) hl.1 rfl (lv_room hc8) hd ⟨by omega, by omega⟩
  have es : (As.reverse ++ .ref (1000 + k) :: st).map (fc_cv as) = (As.map (fc_cv as)).reverse ++ .ref (as (1000 + k)) :: st.map (fc_cv as) := by simp [fc_cv]
  rw [es]
  refine fc_back (Q' := Q') hrun hS hO hO (fun v sh' I' P' as' H1 locs1 hq hn hok hex hW1 hS1 => ?_)
  have hk := kk v sh' I' P' hq
  have hg := fc_go (ls := ls) (st := st) (vs := v.toList) (nb := nb) (zb := zb) (cells1 := cells + nb') (slots1 := slots + zb') C ⟨by omega, by omega, hb.2.2.1, hb.2.2.2⟩ hn hok hex hks hW1 hS1 hl hF hk
  have ev : (v.map (fc_cv as')).toList = v.toList.map (fc_cv as') := by cases v <;> rfl
  rw [ev]
  exact hg
set_option maxHeartbeats 4000000 in
theorem fc_calLVS {k : Nat} (hc : fc_cfVS m.1.cls idx m' n) (hk : k < 12) (hC : fc_C m' d 0 0 (.ref (1000 + k) :: As) sh I P Q') (hsh : ∀ v sh' I' P', Q' v sh' I' P' → sh' = sh) (hAn : As.length = n) (hst : (st.map fun v => v.category).sum ≤ 8) (hd : decode m.2.1 pc = .ok (.invokevirtual idx, 3)) (kk : ∀ (v : Option Value) (I' : fc_I) (P' : fc_P), Q' v sh I' P' → fc_T m (d + 1) nb zb (pc + 3) ls (v.toList ++ st) sh I' P' Q) : fc_T m (d + 1) nb zb pc ls (As.reverse ++ .ref (1000 + k) :: st) sh I P Q := fun p l e R s mm args below meth cd β D A as H locs cells slots Nt Zt lsA QF C hb h1 hW hS hl hF => by
  obtain ⟨hx, hbb, hml, hown, hts, hnm, hfr, hlo, hA, hE, hscr⟩ := id C
  have hc8 := fc_cat8 (as := as) hst
  obtain ⟨hlink, hmf, hinst, hsel, hci⟩ := hc
  have hM := hC h1 l β D as H.size
  have hO := fc_own hW hS hA
  have hrec := vk_recv hE.1 hk hS
  rw [← hci] at hrec
  have hrun := va_runV (l := l) (e := e) (below := below) (meth := meth) (locs := locs) (cells := cells) (slots := slots) (As := As.map (fc_cv as)) (rest := st.map (fc_cv as)) (g := F0 mm pc lsA ((As.map (fc_cv as)).reverse ++ .ref (as (1000 + k)) :: st.map (fc_cv as))) ⟨hx, hbb, hml, hown, hts⟩ hM ⟨callB_of n hts (fc_goodC hmf) rfl rfl rfl (hts _ hmf.1) (hts _ hlink) hmf.2.2.1 ⟨by show d + 1 ≤ R.frames; omega, by have := hmf.2.2.2; show 8 + (_ + 11) + 64 * d ≤ _; omega⟩, hts _ hinst, hts _ hsel⟩ ⟨fc_blind, hrec, fun U hU hw => fc_Pcs (av := .ref (1000 + k) :: As) hW hS hA hE U hU hw⟩ rfl (by rw [List.length_map]; exact hAn) hl.1 rfl (lv_room hc8) hd ⟨by omega, by omega⟩
  have es : (As.reverse ++ .ref (1000 + k) :: st).map (fc_cv as) = (As.map (fc_cv as)).reverse ++ .ref (as (1000 + k)) :: st.map (fc_cv as) := by simp [fc_cv]
  rw [es]
  refine fc_back (Q' := Q') hrun hS hO hO (fun v sh' I' P' as' H1 locs1 hq hn hok hex hW1 hS1 => ?_)
  have e0 := hsh v sh' I' P' hq
  subst e0
  have e1 := hex.eq
  subst e1
  have hk := kk v I' P' hq p l e R s mm args below meth cd β D A as' H1 locs1 (cells + 0) (slots + 0) Nt Zt lsA QF C hb hok hW1 hS1 hl hF
  rw [List.map_append] at hk
  have ev : (v.map (fc_cv as')).toList = v.toList.map (fc_cv as') := by cases v <;> rfl
  rw [ev]
  exact hk
end CALLS

def fc_Ci (m : fc_MI) (d : Nat) (av : List Value) (sh : fc_Sh) (I : fc_I) (P : fc_P) (post : Int32 → fc_I → fc_P → Prop) : Prop := fc_C m d 0 0 av sh I P (fun v sh' I' P' => sh' = sh ∧ ∃ r : Int32, v = some (.int r) ∧ post r I' P')
/-- a method that only answers -/
def fc_Cp (m : fc_MI) (d : Nat) (av : List Value) (sh : fc_Sh) (I : fc_I) (P : fc_P) (x : Int32) : Prop := fc_Ci m d av sh I P (fun r I' P' => r = x ∧ I' = I ∧ P' = P)
def fc_Cl (m : fc_MI) (d : Nat) (av : List Value) (sh : fc_Sh) (I : fc_I) (P : fc_P) (post : Int64 → fc_I → fc_P → Prop) : Prop := fc_C m d 0 0 av sh I P (fun v sh' I' P' => sh' = sh ∧ ∃ r : Int64, v = some (.long r) ∧ post r I' P')
def fc_Cv (m : fc_MI) (d : Nat) (av : List Value) (sh : fc_Sh) (I : fc_I) (P : fc_P) (post : fc_I → fc_P → Prop) : Prop := fc_C m d 0 0 av sh I P (fun v sh' I' P' => sh' = sh ∧ v = none ∧ post I' P')
/-- the ends of steady methods -/
def fc_Qi (sh : fc_Sh) (post : Int32 → fc_I → fc_P → Prop) : fc_Q := fun v sh' I' P' => sh' = sh ∧ ∃ r : Int32, v = some (.int r) ∧ post r I' P'
def fc_Ql (sh : fc_Sh) (post : Int64 → fc_I → fc_P → Prop) : fc_Q := fun v sh' I' P' => sh' = sh ∧ ∃ r : Int64, v = some (.long r) ∧ post r I' P'
def fc_Qv (sh : fc_Sh) (post : fc_I → fc_P → Prop) : fc_Q := fun v sh' I' P' => sh' = sh ∧ v = none ∧ post I' P'
section STEADY
variable {m m' : fc_MI} {d nb zb pc idx : Nat} {ls : List (Option Value)} {st : List Value} {sh : fc_Sh} {I : fc_I} {P : fc_P} {Q : fc_Q}
theorem fc_Ci.of {av : List Value} {post : Int32 → fc_I → fc_P → Prop} (hy : plainName m.1.cls = true ∧ m.2.2.2.2 = none) (hl : (fc_arg av).length ≤ m.2.2.1) {ls : List (Option Value)} (hls : fc_arg av ++ List.replicate (m.2.2.1 - (fc_arg av).length) none = ls) (h : fc_T m d 0 0 0 ls [] sh I P (fc_Qi sh post)) : fc_Ci m d av sh I P post := fc_C.of hy hl hls h
theorem fc_Cp.of {av : List Value} {x : Int32} (hy : plainName m.1.cls = true ∧ m.2.2.2.2 = none) (hl : (fc_arg av).length ≤ m.2.2.1) {ls : List (Option Value)} (hls : fc_arg av ++ List.replicate (m.2.2.1 - (fc_arg av).length) none = ls) (h : fc_T m d 0 0 0 ls [] sh I P (fc_Qi sh (fun r I' P' => r = x ∧ I' = I ∧ P' = P))) : fc_Cp m d av sh I P x := fc_C.of hy hl hls h
theorem fc_Cl.of {av : List Value} {post : Int64 → fc_I → fc_P → Prop} (hy : plainName m.1.cls = true ∧ m.2.2.2.2 = none) (hl : (fc_arg av).length ≤ m.2.2.1) {ls : List (Option Value)} (hls : fc_arg av ++ List.replicate (m.2.2.1 - (fc_arg av).length) none = ls) (h : fc_T m d 0 0 0 ls [] sh I P (fc_Ql sh post)) : fc_Cl m d av sh I P post := fc_C.of hy hl hls h
theorem fc_Cv.of {av : List Value} {post : fc_I → fc_P → Prop} (hy : plainName m.1.cls = true ∧ m.2.2.2.2 = none) (hl : (fc_arg av).length ≤ m.2.2.1) {ls : List (Option Value)} (hls : fc_arg av ++ List.replicate (m.2.2.1 - (fc_arg av).length) none = ls) (h : fc_T m d 0 0 0 ls [] sh I P (fc_Qv sh post)) : fc_Cv m d av sh I P post := fc_C.of hy hl hls h
theorem ft_reti {x : Int32} {ty : FieldType} {post : Int32 → fc_I → fc_P → Prop} (hd : decode m.2.1 pc = .ok (.ireturn, 1)) (hr : m.2.2.2.1 = some ty) (hn : narrow ty (.int x) = .int x) (h : post x I P) : fc_T m d nb zb pc ls [.int x] sh I P (fc_Qi sh post) := ft_iret hd hr hn ⟨rfl, x, rfl, h⟩
theorem ft_retl {x : Int64} {post : Int64 → fc_I → fc_P → Prop} (hd : decode m.2.1 pc = .ok (.lreturn, 1)) (hr : m.2.2.2.1 = some .long) (h : post x I P) : fc_T m d nb zb pc ls [.long x] sh I P (fc_Ql sh post) := ft_lret hd hr ⟨rfl, x, rfl, h⟩
theorem ft_retv {post : fc_I → fc_P → Prop} (hd : decode m.2.1 pc = .ok (.return_, 1)) (hr : m.2.2.2.1 = none) (h : post I P) : fc_T m d nb zb pc ls [] sh I P (fc_Qv sh post) := ft_vret hd hr ⟨rfl, rfl, h⟩

theorem ft_V0i {ci N b : Nat} {post : Int32 → fc_I → fc_P → Prop} (hc : fc_cfV m.1.cls idx m' ci 0) (hs : sh[b]? = some (10 + ci, N)) (hC : fc_Ci m' d [.ref b] sh I P post) (hst : (st.map fun v => v.category).sum ≤ 8) (hd : decode m.2.1 pc = .ok (.invokevirtual idx, 3)) (kk : ∀ (r : Int32) (I' : fc_I) (P' : fc_P), post r I' P' → fc_T m (d + 1) nb zb (pc + 3) ls (.int r :: st) sh I' P' Q) : fc_T m (d + 1) nb zb pc ls (.ref b :: st) sh I P Q := fc_calLV (As := []) hc hs hC (fun v sh' I' P' h => h.1) rfl hst hd (fun v I' P' hq => by obtain ⟨_, r, rfl, hq⟩ := hq; exact kk r I' P' hq)
theorem ft_V0p {ci N b : Nat} {x : Int32} (hc : fc_cfV m.1.cls idx m' ci 0) (hs : sh[b]? = some (10 + ci, N)) (hC : fc_Cp m' d [.ref b] sh I P x) (hst : (st.map fun v => v.category).sum ≤ 8) (hd : decode m.2.1 pc = .ok (.invokevirtual idx, 3)) (kk : fc_T m (d + 1) nb zb (pc + 3) ls (.int x :: st) sh I P Q) : fc_T m (d + 1) nb zb pc ls (.ref b :: st) sh I P Q := fc_calLV (As := []) hc hs hC (fun v sh' I' P' h => h.1) rfl hst hd (fun v I' P' hq => by obtain ⟨_, r, rfl, rfl, rfl, rfl⟩ := hq; exact kk)
theorem ft_V0l {ci N b : Nat} {post : Int64 → fc_I → fc_P → Prop} (hc : fc_cfV m.1.cls idx m' ci 0) (hs : sh[b]? = some (10 + ci, N)) (hC : fc_Cl m' d [.ref b] sh I P post) (hst : (st.map fun v => v.category).sum ≤ 8) (hd : decode m.2.1 pc = .ok (.invokevirtual idx, 3)) (kk : ∀ (r : Int64) (I' : fc_I) (P' : fc_P), post r I' P' → fc_T m (d + 1) nb zb (pc + 3) ls (.long r :: st) sh I' P' Q) : fc_T m (d + 1) nb zb pc ls (.ref b :: st) sh I P Q := fc_calLV (As := []) hc hs hC (fun v sh' I' P' h => h.1) rfl hst hd (fun v I' P' hq => by obtain ⟨_, r, rfl, hq⟩ := hq; exact kk r I' P' hq)
theorem ft_V0v {ci N b : Nat} {post : fc_I → fc_P → Prop} (hc : fc_cfV m.1.cls idx m' ci 0) (hs : sh[b]? = some (10 + ci, N)) (hC : fc_Cv m' d [.ref b] sh I P post) (hst : (st.map fun v => v.category).sum ≤ 8) (hd : decode m.2.1 pc = .ok (.invokevirtual idx, 3)) (kk : ∀ (I' : fc_I) (P' : fc_P), post I' P' → fc_T m (d + 1) nb zb (pc + 3) ls st sh I' P' Q) : fc_T m (d + 1) nb zb pc ls (.ref b :: st) sh I P Q := fc_calLV (As := []) hc hs hC (fun v sh' I' P' h => h.1) rfl hst hd (fun v I' P' hq => by obtain ⟨_, rfl, hq⟩ := hq; exact kk I' P' hq)
theorem ft_V1i {ci N b : Nat} {a1 : Value} {post : Int32 → fc_I → fc_P → Prop} (hc : fc_cfV m.1.cls idx m' ci 1) (hs : sh[b]? = some (10 + ci, N)) (hC : fc_Ci m' d [.ref b, a1] sh I P post) (hst : (st.map fun v => v.category).sum ≤ 8) (hd : decode m.2.1 pc = .ok (.invokevirtual idx, 3)) (kk : ∀ (r : Int32) (I' : fc_I) (P' : fc_P), post r I' P' → fc_T m (d + 1) nb zb (pc + 3) ls (.int r :: st) sh I' P' Q) : fc_T m (d + 1) nb zb pc ls (a1 :: .ref b :: st) sh I P Q := fc_calLV (As := [a1]) hc hs hC (fun v sh' I' P' h => h.1) rfl hst hd (fun v I' P' hq => by obtain ⟨_, r, rfl, hq⟩ := hq; exact kk r I' P' hq)
theorem ft_V1p {ci N b : Nat} {a1 : Value} {x : Int32} (hc : fc_cfV m.1.cls idx m' ci 1) (hs : sh[b]? = some (10 + ci, N)) (hC : fc_Cp m' d [.ref b, a1] sh I P x) (hst : (st.map fun v => v.category).sum ≤ 8) (hd : decode m.2.1 pc = .ok (.invokevirtual idx, 3)) (kk : fc_T m (d + 1) nb zb (pc + 3) ls (.int x :: st) sh I P Q) : fc_T m (d + 1) nb zb pc ls (a1 :: .ref b :: st) sh I P Q := fc_calLV (As := [a1]) hc hs hC (fun v sh' I' P' h => h.1) rfl hst hd (fun v I' P' hq => by obtain ⟨_, r, rfl, rfl, rfl, rfl⟩ := hq; exact kk)
theorem ft_V1l {ci N b : Nat} {a1 : Value} {post : Int64 → fc_I → fc_P → Prop} (hc : fc_cfV m.1.cls idx m' ci 1) (hs : sh[b]? = some (10 + ci, N)) (hC : fc_Cl m' d [.ref b, a1] sh I P post) (hst : (st.map fun v => v.category).sum ≤ 8) (hd : decode m.2.1 pc = .ok (.invokevirtual idx, 3)) (kk : ∀ (r : Int64) (I' : fc_I) (P' : fc_P), post r I' P' → fc_T m (d + 1) nb zb (pc + 3) ls (.long r :: st) sh I' P' Q) : fc_T m (d + 1) nb zb pc ls (a1 :: .ref b :: st) sh I P Q := fc_calLV (As := [a1]) hc hs hC (fun v sh' I' P' h => h.1) rfl hst hd (fun v I' P' hq => by obtain ⟨_, r, rfl, hq⟩ := hq; exact kk r I' P' hq)
theorem ft_V1v {ci N b : Nat} {a1 : Value} {post : fc_I → fc_P → Prop} (hc : fc_cfV m.1.cls idx m' ci 1) (hs : sh[b]? = some (10 + ci, N)) (hC : fc_Cv m' d [.ref b, a1] sh I P post) (hst : (st.map fun v => v.category).sum ≤ 8) (hd : decode m.2.1 pc = .ok (.invokevirtual idx, 3)) (kk : ∀ (I' : fc_I) (P' : fc_P), post I' P' → fc_T m (d + 1) nb zb (pc + 3) ls st sh I' P' Q) : fc_T m (d + 1) nb zb pc ls (a1 :: .ref b :: st) sh I P Q := fc_calLV (As := [a1]) hc hs hC (fun v sh' I' P' h => h.1) rfl hst hd (fun v I' P' hq => by obtain ⟨_, rfl, hq⟩ := hq; exact kk I' P' hq)
theorem ft_V2i {ci N b : Nat} {a1 a2 : Value} {post : Int32 → fc_I → fc_P → Prop} (hc : fc_cfV m.1.cls idx m' ci 2) (hs : sh[b]? = some (10 + ci, N)) (hC : fc_Ci m' d [.ref b, a1, a2] sh I P post) (hst : (st.map fun v => v.category).sum ≤ 8) (hd : decode m.2.1 pc = .ok (.invokevirtual idx, 3)) (kk : ∀ (r : Int32) (I' : fc_I) (P' : fc_P), post r I' P' → fc_T m (d + 1) nb zb (pc + 3) ls (.int r :: st) sh I' P' Q) : fc_T m (d + 1) nb zb pc ls (a2 :: a1 :: .ref b :: st) sh I P Q := fc_calLV (As := [a1, a2]) hc hs hC (fun v sh' I' P' h => h.1) rfl hst hd (fun v I' P' hq => by obtain ⟨_, r, rfl, hq⟩ := hq; exact kk r I' P' hq)
theorem ft_V2p {ci N b : Nat} {a1 a2 : Value} {x : Int32} (hc : fc_cfV m.1.cls idx m' ci 2) (hs : sh[b]? = some (10 + ci, N)) (hC : fc_Cp m' d [.ref b, a1, a2] sh I P x) (hst : (st.map fun v => v.category).sum ≤ 8) (hd : decode m.2.1 pc = .ok (.invokevirtual idx, 3)) (kk : fc_T m (d + 1) nb zb (pc + 3) ls (.int x :: st) sh I P Q) : fc_T m (d + 1) nb zb pc ls (a2 :: a1 :: .ref b :: st) sh I P Q := fc_calLV (As := [a1, a2]) hc hs hC (fun v sh' I' P' h => h.1) rfl hst hd (fun v I' P' hq => by obtain ⟨_, r, rfl, rfl, rfl, rfl⟩ := hq; exact kk)
theorem ft_V2l {ci N b : Nat} {a1 a2 : Value} {post : Int64 → fc_I → fc_P → Prop} (hc : fc_cfV m.1.cls idx m' ci 2) (hs : sh[b]? = some (10 + ci, N)) (hC : fc_Cl m' d [.ref b, a1, a2] sh I P post) (hst : (st.map fun v => v.category).sum ≤ 8) (hd : decode m.2.1 pc = .ok (.invokevirtual idx, 3)) (kk : ∀ (r : Int64) (I' : fc_I) (P' : fc_P), post r I' P' → fc_T m (d + 1) nb zb (pc + 3) ls (.long r :: st) sh I' P' Q) : fc_T m (d + 1) nb zb pc ls (a2 :: a1 :: .ref b :: st) sh I P Q := fc_calLV (As := [a1, a2]) hc hs hC (fun v sh' I' P' h => h.1) rfl hst hd (fun v I' P' hq => by obtain ⟨_, r, rfl, hq⟩ := hq; exact kk r I' P' hq)
theorem ft_V2v {ci N b : Nat} {a1 a2 : Value} {post : fc_I → fc_P → Prop} (hc : fc_cfV m.1.cls idx m' ci 2) (hs : sh[b]? = some (10 + ci, N)) (hC : fc_Cv m' d [.ref b, a1, a2] sh I P post) (hst : (st.map fun v => v.category).sum ≤ 8) (hd : decode m.2.1 pc = .ok (.invokevirtual idx, 3)) (kk : ∀ (I' : fc_I) (P' : fc_P), post I' P' → fc_T m (d + 1) nb zb (pc + 3) ls st sh I' P' Q) : fc_T m (d + 1) nb zb pc ls (a2 :: a1 :: .ref b :: st) sh I P Q := fc_calLV (As := [a1, a2]) hc hs hC (fun v sh' I' P' h => h.1) rfl hst hd (fun v I' P' hq => by obtain ⟨_, rfl, hq⟩ := hq; exact kk I' P' hq)
theorem ft_V3i {ci N b : Nat} {a1 a2 a3 : Value} {post : Int32 → fc_I → fc_P → Prop} (hc : fc_cfV m.1.cls idx m' ci 3) (hs : sh[b]? = some (10 + ci, N)) (hC : fc_Ci m' d [.ref b, a1, a2, a3] sh I P post) (hst : (st.map fun v => v.category).sum ≤ 8) (hd : decode m.2.1 pc = .ok (.invokevirtual idx, 3)) (kk : ∀ (r : Int32) (I' : fc_I) (P' : fc_P), post r I' P' → fc_T m (d + 1) nb zb (pc + 3) ls (.int r :: st) sh I' P' Q) : fc_T m (d + 1) nb zb pc ls (a3 :: a2 :: a1 :: .ref b :: st) sh I P Q := fc_calLV (As := [a1, a2, a3]) hc hs hC (fun v sh' I' P' h => h.1) rfl hst hd (fun v I' P' hq => by obtain ⟨_, r, rfl, hq⟩ := hq; exact kk r I' P' hq)
theorem ft_V3p {ci N b : Nat} {a1 a2 a3 : Value} {x : Int32} (hc : fc_cfV m.1.cls idx m' ci 3) (hs : sh[b]? = some (10 + ci, N)) (hC : fc_Cp m' d [.ref b, a1, a2, a3] sh I P x) (hst : (st.map fun v => v.category).sum ≤ 8) (hd : decode m.2.1 pc = .ok (.invokevirtual idx, 3)) (kk : fc_T m (d + 1) nb zb (pc + 3) ls (.int x :: st) sh I P Q) : fc_T m (d + 1) nb zb pc ls (a3 :: a2 :: a1 :: .ref b :: st) sh I P Q := fc_calLV (As := [a1, a2, a3]) hc hs hC (fun v sh' I' P' h => h.1) rfl hst hd (fun v I' P' hq => by obtain ⟨_, r, rfl, rfl, rfl, rfl⟩ := hq; exact kk)
theorem ft_V3l {ci N b : Nat} {a1 a2 a3 : Value} {post : Int64 → fc_I → fc_P → Prop} (hc : fc_cfV m.1.cls idx m' ci 3) (hs : sh[b]? = some (10 + ci, N)) (hC : fc_Cl m' d [.ref b, a1, a2, a3] sh I P post) (hst : (st.map fun v => v.category).sum ≤ 8) (hd : decode m.2.1 pc = .ok (.invokevirtual idx, 3)) (kk : ∀ (r : Int64) (I' : fc_I) (P' : fc_P), post r I' P' → fc_T m (d + 1) nb zb (pc + 3) ls (.long r :: st) sh I' P' Q) : fc_T m (d + 1) nb zb pc ls (a3 :: a2 :: a1 :: .ref b :: st) sh I P Q := fc_calLV (As := [a1, a2, a3]) hc hs hC (fun v sh' I' P' h => h.1) rfl hst hd (fun v I' P' hq => by obtain ⟨_, r, rfl, hq⟩ := hq; exact kk r I' P' hq)
theorem ft_V3v {ci N b : Nat} {a1 a2 a3 : Value} {post : fc_I → fc_P → Prop} (hc : fc_cfV m.1.cls idx m' ci 3) (hs : sh[b]? = some (10 + ci, N)) (hC : fc_Cv m' d [.ref b, a1, a2, a3] sh I P post) (hst : (st.map fun v => v.category).sum ≤ 8) (hd : decode m.2.1 pc = .ok (.invokevirtual idx, 3)) (kk : ∀ (I' : fc_I) (P' : fc_P), post I' P' → fc_T m (d + 1) nb zb (pc + 3) ls st sh I' P' Q) : fc_T m (d + 1) nb zb pc ls (a3 :: a2 :: a1 :: .ref b :: st) sh I P Q := fc_calLV (As := [a1, a2, a3]) hc hs hC (fun v sh' I' P' h => h.1) rfl hst hd (fun v I' P' hq => by obtain ⟨_, rfl, hq⟩ := hq; exact kk I' P' hq)
theorem ft_V4i {ci N b : Nat} {a1 a2 a3 a4 : Value} {post : Int32 → fc_I → fc_P → Prop} (hc : fc_cfV m.1.cls idx m' ci 4) (hs : sh[b]? = some (10 + ci, N)) (hC : fc_Ci m' d [.ref b, a1, a2, a3, a4] sh I P post) (hst : (st.map fun v => v.category).sum ≤ 8) (hd : decode m.2.1 pc = .ok (.invokevirtual idx, 3)) (kk : ∀ (r : Int32) (I' : fc_I) (P' : fc_P), post r I' P' → fc_T m (d + 1) nb zb (pc + 3) ls (.int r :: st) sh I' P' Q) : fc_T m (d + 1) nb zb pc ls (a4 :: a3 :: a2 :: a1 :: .ref b :: st) sh I P Q := fc_calLV (As := [a1, a2, a3, a4]) hc hs hC (fun v sh' I' P' h => h.1) rfl hst hd (fun v I' P' hq => by obtain ⟨_, r, rfl, hq⟩ := hq; exact kk r I' P' hq)
theorem ft_V4p {ci N b : Nat} {a1 a2 a3 a4 : Value} {x : Int32} (hc : fc_cfV m.1.cls idx m' ci 4) (hs : sh[b]? = some (10 + ci, N)) (hC : fc_Cp m' d [.ref b, a1, a2, a3, a4] sh I P x) (hst : (st.map fun v => v.category).sum ≤ 8) (hd : decode m.2.1 pc = .ok (.invokevirtual idx, 3)) (kk : fc_T m (d + 1) nb zb (pc + 3) ls (.int x :: st) sh I P Q) : fc_T m (d + 1) nb zb pc ls (a4 :: a3 :: a2 :: a1 :: .ref b :: st) sh I P Q := fc_calLV (As := [a1, a2, a3, a4]) hc hs hC (fun v sh' I' P' h => h.1) rfl hst hd (fun v I' P' hq => by obtain ⟨_, r, rfl, rfl, rfl, rfl⟩ := hq; exact kk)
theorem ft_V4l {ci N b : Nat} {a1 a2 a3 a4 : Value} {post : Int64 → fc_I → fc_P → Prop} (hc : fc_cfV m.1.cls idx m' ci 4) (hs : sh[b]? = some (10 + ci, N)) (hC : fc_Cl m' d [.ref b, a1, a2, a3, a4] sh I P post) (hst : (st.map fun v => v.category).sum ≤ 8) (hd : decode m.2.1 pc = .ok (.invokevirtual idx, 3)) (kk : ∀ (r : Int64) (I' : fc_I) (P' : fc_P), post r I' P' → fc_T m (d + 1) nb zb (pc + 3) ls (.long r :: st) sh I' P' Q) : fc_T m (d + 1) nb zb pc ls (a4 :: a3 :: a2 :: a1 :: .ref b :: st) sh I P Q := fc_calLV (As := [a1, a2, a3, a4]) hc hs hC (fun v sh' I' P' h => h.1) rfl hst hd (fun v I' P' hq => by obtain ⟨_, r, rfl, hq⟩ := hq; exact kk r I' P' hq)
theorem ft_V4v {ci N b : Nat} {a1 a2 a3 a4 : Value} {post : fc_I → fc_P → Prop} (hc : fc_cfV m.1.cls idx m' ci 4) (hs : sh[b]? = some (10 + ci, N)) (hC : fc_Cv m' d [.ref b, a1, a2, a3, a4] sh I P post) (hst : (st.map fun v => v.category).sum ≤ 8) (hd : decode m.2.1 pc = .ok (.invokevirtual idx, 3)) (kk : ∀ (I' : fc_I) (P' : fc_P), post I' P' → fc_T m (d + 1) nb zb (pc + 3) ls st sh I' P' Q) : fc_T m (d + 1) nb zb pc ls (a4 :: a3 :: a2 :: a1 :: .ref b :: st) sh I P Q := fc_calLV (As := [a1, a2, a3, a4]) hc hs hC (fun v sh' I' P' h => h.1) rfl hst hd (fun v I' P' hq => by obtain ⟨_, rfl, hq⟩ := hq; exact kk I' P' hq)
theorem ft_V5i {ci N b : Nat} {a1 a2 a3 a4 a5 : Value} {post : Int32 → fc_I → fc_P → Prop} (hc : fc_cfV m.1.cls idx m' ci 5) (hs : sh[b]? = some (10 + ci, N)) (hC : fc_Ci m' d [.ref b, a1, a2, a3, a4, a5] sh I P post) (hst : (st.map fun v => v.category).sum ≤ 8) (hd : decode m.2.1 pc = .ok (.invokevirtual idx, 3)) (kk : ∀ (r : Int32) (I' : fc_I) (P' : fc_P), post r I' P' → fc_T m (d + 1) nb zb (pc + 3) ls (.int r :: st) sh I' P' Q) : fc_T m (d + 1) nb zb pc ls (a5 :: a4 :: a3 :: a2 :: a1 :: .ref b :: st) sh I P Q := fc_calLV (As := [a1, a2, a3, a4, a5]) hc hs hC (fun v sh' I' P' h => h.1) rfl hst hd (fun v I' P' hq => by obtain ⟨_, r, rfl, hq⟩ := hq; exact kk r I' P' hq)
theorem ft_V5p {ci N b : Nat} {a1 a2 a3 a4 a5 : Value} {x : Int32} (hc : fc_cfV m.1.cls idx m' ci 5) (hs : sh[b]? = some (10 + ci, N)) (hC : fc_Cp m' d [.ref b, a1, a2, a3, a4, a5] sh I P x) (hst : (st.map fun v => v.category).sum ≤ 8) (hd : decode m.2.1 pc = .ok (.invokevirtual idx, 3)) (kk : fc_T m (d + 1) nb zb (pc + 3) ls (.int x :: st) sh I P Q) : fc_T m (d + 1) nb zb pc ls (a5 :: a4 :: a3 :: a2 :: a1 :: .ref b :: st) sh I P Q := fc_calLV (As := [a1, a2, a3, a4, a5]) hc hs hC (fun v sh' I' P' h => h.1) rfl hst hd (fun v I' P' hq => by obtain ⟨_, r, rfl, rfl, rfl, rfl⟩ := hq; exact kk)
theorem ft_V5l {ci N b : Nat} {a1 a2 a3 a4 a5 : Value} {post : Int64 → fc_I → fc_P → Prop} (hc : fc_cfV m.1.cls idx m' ci 5) (hs : sh[b]? = some (10 + ci, N)) (hC : fc_Cl m' d [.ref b, a1, a2, a3, a4, a5] sh I P post) (hst : (st.map fun v => v.category).sum ≤ 8) (hd : decode m.2.1 pc = .ok (.invokevirtual idx, 3)) (kk : ∀ (r : Int64) (I' : fc_I) (P' : fc_P), post r I' P' → fc_T m (d + 1) nb zb (pc + 3) ls (.long r :: st) sh I' P' Q) : fc_T m (d + 1) nb zb pc ls (a5 :: a4 :: a3 :: a2 :: a1 :: .ref b :: st) sh I P Q := fc_calLV (As := [a1, a2, a3, a4, a5]) hc hs hC (fun v sh' I' P' h => h.1) rfl hst hd (fun v I' P' hq => by obtain ⟨_, r, rfl, hq⟩ := hq; exact kk r I' P' hq)
theorem ft_V5v {ci N b : Nat} {a1 a2 a3 a4 a5 : Value} {post : fc_I → fc_P → Prop} (hc : fc_cfV m.1.cls idx m' ci 5) (hs : sh[b]? = some (10 + ci, N)) (hC : fc_Cv m' d [.ref b, a1, a2, a3, a4, a5] sh I P post) (hst : (st.map fun v => v.category).sum ≤ 8) (hd : decode m.2.1 pc = .ok (.invokevirtual idx, 3)) (kk : ∀ (I' : fc_I) (P' : fc_P), post I' P' → fc_T m (d + 1) nb zb (pc + 3) ls st sh I' P' Q) : fc_T m (d + 1) nb zb pc ls (a5 :: a4 :: a3 :: a2 :: a1 :: .ref b :: st) sh I P Q := fc_calLV (As := [a1, a2, a3, a4, a5]) hc hs hC (fun v sh' I' P' h => h.1) rfl hst hd (fun v I' P' hq => by obtain ⟨_, rfl, hq⟩ := hq; exact kk I' P' hq)
theorem ft_V6i {ci N b : Nat} {a1 a2 a3 a4 a5 a6 : Value} {post : Int32 → fc_I → fc_P → Prop} (hc : fc_cfV m.1.cls idx m' ci 6) (hs : sh[b]? = some (10 + ci, N)) (hC : fc_Ci m' d [.ref b, a1, a2, a3, a4, a5, a6] sh I P post) (hst : (st.map fun v => v.category).sum ≤ 8) (hd : decode m.2.1 pc = .ok (.invokevirtual idx, 3)) (kk : ∀ (r : Int32) (I' : fc_I) (P' : fc_P), post r I' P' → fc_T m (d + 1) nb zb (pc + 3) ls (.int r :: st) sh I' P' Q) : fc_T m (d + 1) nb zb pc ls (a6 :: a5 :: a4 :: a3 :: a2 :: a1 :: .ref b :: st) sh I P Q := fc_calLV (As := [a1, a2, a3, a4, a5, a6]) hc hs hC (fun v sh' I' P' h => h.1) rfl hst hd (fun v I' P' hq => by obtain ⟨_, r, rfl, hq⟩ := hq; exact kk r I' P' hq)
theorem ft_V6p {ci N b : Nat} {a1 a2 a3 a4 a5 a6 : Value} {x : Int32} (hc : fc_cfV m.1.cls idx m' ci 6) (hs : sh[b]? = some (10 + ci, N)) (hC : fc_Cp m' d [.ref b, a1, a2, a3, a4, a5, a6] sh I P x) (hst : (st.map fun v => v.category).sum ≤ 8) (hd : decode m.2.1 pc = .ok (.invokevirtual idx, 3)) (kk : fc_T m (d + 1) nb zb (pc + 3) ls (.int x :: st) sh I P Q) : fc_T m (d + 1) nb zb pc ls (a6 :: a5 :: a4 :: a3 :: a2 :: a1 :: .ref b :: st) sh I P Q := fc_calLV (As := [a1, a2, a3, a4, a5, a6]) hc hs hC (fun v sh' I' P' h => h.1) rfl hst hd (fun v I' P' hq => by obtain ⟨_, r, rfl, rfl, rfl, rfl⟩ := hq; exact kk)
theorem ft_V6l {ci N b : Nat} {a1 a2 a3 a4 a5 a6 : Value} {post : Int64 → fc_I → fc_P → Prop} (hc : fc_cfV m.1.cls idx m' ci 6) (hs : sh[b]? = some (10 + ci, N)) (hC : fc_Cl m' d [.ref b, a1, a2, a3, a4, a5, a6] sh I P post) (hst : (st.map fun v => v.category).sum ≤ 8) (hd : decode m.2.1 pc = .ok (.invokevirtual idx, 3)) (kk : ∀ (r : Int64) (I' : fc_I) (P' : fc_P), post r I' P' → fc_T m (d + 1) nb zb (pc + 3) ls (.long r :: st) sh I' P' Q) : fc_T m (d + 1) nb zb pc ls (a6 :: a5 :: a4 :: a3 :: a2 :: a1 :: .ref b :: st) sh I P Q := fc_calLV (As := [a1, a2, a3, a4, a5, a6]) hc hs hC (fun v sh' I' P' h => h.1) rfl hst hd (fun v I' P' hq => by obtain ⟨_, r, rfl, hq⟩ := hq; exact kk r I' P' hq)
theorem ft_V6v {ci N b : Nat} {a1 a2 a3 a4 a5 a6 : Value} {post : fc_I → fc_P → Prop} (hc : fc_cfV m.1.cls idx m' ci 6) (hs : sh[b]? = some (10 + ci, N)) (hC : fc_Cv m' d [.ref b, a1, a2, a3, a4, a5, a6] sh I P post) (hst : (st.map fun v => v.category).sum ≤ 8) (hd : decode m.2.1 pc = .ok (.invokevirtual idx, 3)) (kk : ∀ (I' : fc_I) (P' : fc_P), post I' P' → fc_T m (d + 1) nb zb (pc + 3) ls st sh I' P' Q) : fc_T m (d + 1) nb zb pc ls (a6 :: a5 :: a4 :: a3 :: a2 :: a1 :: .ref b :: st) sh I P Q := fc_calLV (As := [a1, a2, a3, a4, a5, a6]) hc hs hC (fun v sh' I' P' h => h.1) rfl hst hd (fun v I' P' hq => by obtain ⟨_, rfl, hq⟩ := hq; exact kk I' P' hq)
theorem ft_S0i {post : Int32 → fc_I → fc_P → Prop} (hc : fc_cfS m.1.cls idx m' 0) (hC : fc_Ci m' d [] sh I P post) (hst : (st.map fun v => v.category).sum ≤ 8) (hd : decode m.2.1 pc = .ok (.invokestatic idx, 3)) (kk : ∀ (r : Int32) (I' : fc_I) (P' : fc_P), post r I' P' → fc_T m (d + 1) nb zb (pc + 3) ls (.int r :: st) sh I' P' Q) : fc_T m (d + 1) nb zb pc ls (st) sh I P Q := fc_calLS (As := []) hc hC (fun v sh' I' P' h => h.1) rfl hst hd (fun v I' P' hq => by obtain ⟨_, r, rfl, hq⟩ := hq; exact kk r I' P' hq)
theorem ft_S0p {x : Int32} (hc : fc_cfS m.1.cls idx m' 0) (hC : fc_Cp m' d [] sh I P x) (hst : (st.map fun v => v.category).sum ≤ 8) (hd : decode m.2.1 pc = .ok (.invokestatic idx, 3)) (kk : fc_T m (d + 1) nb zb (pc + 3) ls (.int x :: st) sh I P Q) : fc_T m (d + 1) nb zb pc ls (st) sh I P Q := fc_calLS (As := []) hc hC (fun v sh' I' P' h => h.1) rfl hst hd (fun v I' P' hq => by obtain ⟨_, r, rfl, rfl, rfl, rfl⟩ := hq; exact kk)
theorem ft_S0l {post : Int64 → fc_I → fc_P → Prop} (hc : fc_cfS m.1.cls idx m' 0) (hC : fc_Cl m' d [] sh I P post) (hst : (st.map fun v => v.category).sum ≤ 8) (hd : decode m.2.1 pc = .ok (.invokestatic idx, 3)) (kk : ∀ (r : Int64) (I' : fc_I) (P' : fc_P), post r I' P' → fc_T m (d + 1) nb zb (pc + 3) ls (.long r :: st) sh I' P' Q) : fc_T m (d + 1) nb zb pc ls (st) sh I P Q := fc_calLS (As := []) hc hC (fun v sh' I' P' h => h.1) rfl hst hd (fun v I' P' hq => by obtain ⟨_, r, rfl, hq⟩ := hq; exact kk r I' P' hq)
theorem ft_S0v {post : fc_I → fc_P → Prop} (hc : fc_cfS m.1.cls idx m' 0) (hC : fc_Cv m' d [] sh I P post) (hst : (st.map fun v => v.category).sum ≤ 8) (hd : decode m.2.1 pc = .ok (.invokestatic idx, 3)) (kk : ∀ (I' : fc_I) (P' : fc_P), post I' P' → fc_T m (d + 1) nb zb (pc + 3) ls st sh I' P' Q) : fc_T m (d + 1) nb zb pc ls (st) sh I P Q := fc_calLS (As := []) hc hC (fun v sh' I' P' h => h.1) rfl hst hd (fun v I' P' hq => by obtain ⟨_, rfl, hq⟩ := hq; exact kk I' P' hq)
theorem ft_S1i {a1 : Value} {post : Int32 → fc_I → fc_P → Prop} (hc : fc_cfS m.1.cls idx m' 1) (hC : fc_Ci m' d [a1] sh I P post) (hst : (st.map fun v => v.category).sum ≤ 8) (hd : decode m.2.1 pc = .ok (.invokestatic idx, 3)) (kk : ∀ (r : Int32) (I' : fc_I) (P' : fc_P), post r I' P' → fc_T m (d + 1) nb zb (pc + 3) ls (.int r :: st) sh I' P' Q) : fc_T m (d + 1) nb zb pc ls (a1 :: st) sh I P Q := fc_calLS (As := [a1]) hc hC (fun v sh' I' P' h => h.1) rfl hst hd (fun v I' P' hq => by obtain ⟨_, r, rfl, hq⟩ := hq; exact kk r I' P' hq)
theorem ft_S1p {a1 : Value} {x : Int32} (hc : fc_cfS m.1.cls idx m' 1) (hC : fc_Cp m' d [a1] sh I P x) (hst : (st.map fun v => v.category).sum ≤ 8) (hd : decode m.2.1 pc = .ok (.invokestatic idx, 3)) (kk : fc_T m (d + 1) nb zb (pc + 3) ls (.int x :: st) sh I P Q) : fc_T m (d + 1) nb zb pc ls (a1 :: st) sh I P Q := fc_calLS (As := [a1]) hc hC (fun v sh' I' P' h => h.1) rfl hst hd (fun v I' P' hq => by obtain ⟨_, r, rfl, rfl, rfl, rfl⟩ := hq; exact kk)
theorem ft_S1l {a1 : Value} {post : Int64 → fc_I → fc_P → Prop} (hc : fc_cfS m.1.cls idx m' 1) (hC : fc_Cl m' d [a1] sh I P post) (hst : (st.map fun v => v.category).sum ≤ 8) (hd : decode m.2.1 pc = .ok (.invokestatic idx, 3)) (kk : ∀ (r : Int64) (I' : fc_I) (P' : fc_P), post r I' P' → fc_T m (d + 1) nb zb (pc + 3) ls (.long r :: st) sh I' P' Q) : fc_T m (d + 1) nb zb pc ls (a1 :: st) sh I P Q := fc_calLS (As := [a1]) hc hC (fun v sh' I' P' h => h.1) rfl hst hd (fun v I' P' hq => by obtain ⟨_, r, rfl, hq⟩ := hq; exact kk r I' P' hq)
theorem ft_S1v {a1 : Value} {post : fc_I → fc_P → Prop} (hc : fc_cfS m.1.cls idx m' 1) (hC : fc_Cv m' d [a1] sh I P post) (hst : (st.map fun v => v.category).sum ≤ 8) (hd : decode m.2.1 pc = .ok (.invokestatic idx, 3)) (kk : ∀ (I' : fc_I) (P' : fc_P), post I' P' → fc_T m (d + 1) nb zb (pc + 3) ls st sh I' P' Q) : fc_T m (d + 1) nb zb pc ls (a1 :: st) sh I P Q := fc_calLS (As := [a1]) hc hC (fun v sh' I' P' h => h.1) rfl hst hd (fun v I' P' hq => by obtain ⟨_, rfl, hq⟩ := hq; exact kk I' P' hq)
theorem ft_S2i {a1 a2 : Value} {post : Int32 → fc_I → fc_P → Prop} (hc : fc_cfS m.1.cls idx m' 2) (hC : fc_Ci m' d [a1, a2] sh I P post) (hst : (st.map fun v => v.category).sum ≤ 8) (hd : decode m.2.1 pc = .ok (.invokestatic idx, 3)) (kk : ∀ (r : Int32) (I' : fc_I) (P' : fc_P), post r I' P' → fc_T m (d + 1) nb zb (pc + 3) ls (.int r :: st) sh I' P' Q) : fc_T m (d + 1) nb zb pc ls (a2 :: a1 :: st) sh I P Q := fc_calLS (As := [a1, a2]) hc hC (fun v sh' I' P' h => h.1) rfl hst hd (fun v I' P' hq => by obtain ⟨_, r, rfl, hq⟩ := hq; exact kk r I' P' hq)
theorem ft_S2p {a1 a2 : Value} {x : Int32} (hc : fc_cfS m.1.cls idx m' 2) (hC : fc_Cp m' d [a1, a2] sh I P x) (hst : (st.map fun v => v.category).sum ≤ 8) (hd : decode m.2.1 pc = .ok (.invokestatic idx, 3)) (kk : fc_T m (d + 1) nb zb (pc + 3) ls (.int x :: st) sh I P Q) : fc_T m (d + 1) nb zb pc ls (a2 :: a1 :: st) sh I P Q := fc_calLS (As := [a1, a2]) hc hC (fun v sh' I' P' h => h.1) rfl hst hd (fun v I' P' hq => by obtain ⟨_, r, rfl, rfl, rfl, rfl⟩ := hq; exact kk)
theorem ft_S2l {a1 a2 : Value} {post : Int64 → fc_I → fc_P → Prop} (hc : fc_cfS m.1.cls idx m' 2) (hC : fc_Cl m' d [a1, a2] sh I P post) (hst : (st.map fun v => v.category).sum ≤ 8) (hd : decode m.2.1 pc = .ok (.invokestatic idx, 3)) (kk : ∀ (r : Int64) (I' : fc_I) (P' : fc_P), post r I' P' → fc_T m (d + 1) nb zb (pc + 3) ls (.long r :: st) sh I' P' Q) : fc_T m (d + 1) nb zb pc ls (a2 :: a1 :: st) sh I P Q := fc_calLS (As := [a1, a2]) hc hC (fun v sh' I' P' h => h.1) rfl hst hd (fun v I' P' hq => by obtain ⟨_, r, rfl, hq⟩ := hq; exact kk r I' P' hq)
theorem ft_S2v {a1 a2 : Value} {post : fc_I → fc_P → Prop} (hc : fc_cfS m.1.cls idx m' 2) (hC : fc_Cv m' d [a1, a2] sh I P post) (hst : (st.map fun v => v.category).sum ≤ 8) (hd : decode m.2.1 pc = .ok (.invokestatic idx, 3)) (kk : ∀ (I' : fc_I) (P' : fc_P), post I' P' → fc_T m (d + 1) nb zb (pc + 3) ls st sh I' P' Q) : fc_T m (d + 1) nb zb pc ls (a2 :: a1 :: st) sh I P Q := fc_calLS (As := [a1, a2]) hc hC (fun v sh' I' P' h => h.1) rfl hst hd (fun v I' P' hq => by obtain ⟨_, rfl, hq⟩ := hq; exact kk I' P' hq)
theorem ft_S3i {a1 a2 a3 : Value} {post : Int32 → fc_I → fc_P → Prop} (hc : fc_cfS m.1.cls idx m' 3) (hC : fc_Ci m' d [a1, a2, a3] sh I P post) (hst : (st.map fun v => v.category).sum ≤ 8) (hd : decode m.2.1 pc = .ok (.invokestatic idx, 3)) (kk : ∀ (r : Int32) (I' : fc_I) (P' : fc_P), post r I' P' → fc_T m (d + 1) nb zb (pc + 3) ls (.int r :: st) sh I' P' Q) : fc_T m (d + 1) nb zb pc ls (a3 :: a2 :: a1 :: st) sh I P Q := fc_calLS (As := [a1, a2, a3]) hc hC (fun v sh' I' P' h => h.1) rfl hst hd (fun v I' P' hq => by obtain ⟨_, r, rfl, hq⟩ := hq; exact kk r I' P' hq)
theorem ft_S3p {a1 a2 a3 : Value} {x : Int32} (hc : fc_cfS m.1.cls idx m' 3) (hC : fc_Cp m' d [a1, a2, a3] sh I P x) (hst : (st.map fun v => v.category).sum ≤ 8) (hd : decode m.2.1 pc = .ok (.invokestatic idx, 3)) (kk : fc_T m (d + 1) nb zb (pc + 3) ls (.int x :: st) sh I P Q) : fc_T m (d + 1) nb zb pc ls (a3 :: a2 :: a1 :: st) sh I P Q := fc_calLS (As := [a1, a2, a3]) hc hC (fun v sh' I' P' h => h.1) rfl hst hd (fun v I' P' hq => by obtain ⟨_, r, rfl, rfl, rfl, rfl⟩ := hq; exact kk)
theorem ft_S3l {a1 a2 a3 : Value} {post : Int64 → fc_I → fc_P → Prop} (hc : fc_cfS m.1.cls idx m' 3) (hC : fc_Cl m' d [a1, a2, a3] sh I P post) (hst : (st.map fun v => v.category).sum ≤ 8) (hd : decode m.2.1 pc = .ok (.invokestatic idx, 3)) (kk : ∀ (r : Int64) (I' : fc_I) (P' : fc_P), post r I' P' → fc_T m (d + 1) nb zb (pc + 3) ls (.long r :: st) sh I' P' Q) : fc_T m (d + 1) nb zb pc ls (a3 :: a2 :: a1 :: st) sh I P Q := fc_calLS (As := [a1, a2, a3]) hc hC (fun v sh' I' P' h => h.1) rfl hst hd (fun v I' P' hq => by obtain ⟨_, r, rfl, hq⟩ := hq; exact kk r I' P' hq)
theorem ft_S3v {a1 a2 a3 : Value} {post : fc_I → fc_P → Prop} (hc : fc_cfS m.1.cls idx m' 3) (hC : fc_Cv m' d [a1, a2, a3] sh I P post) (hst : (st.map fun v => v.category).sum ≤ 8) (hd : decode m.2.1 pc = .ok (.invokestatic idx, 3)) (kk : ∀ (I' : fc_I) (P' : fc_P), post I' P' → fc_T m (d + 1) nb zb (pc + 3) ls st sh I' P' Q) : fc_T m (d + 1) nb zb pc ls (a3 :: a2 :: a1 :: st) sh I P Q := fc_calLS (As := [a1, a2, a3]) hc hC (fun v sh' I' P' h => h.1) rfl hst hd (fun v I' P' hq => by obtain ⟨_, rfl, hq⟩ := hq; exact kk I' P' hq)
theorem ft_S4i {a1 a2 a3 a4 : Value} {post : Int32 → fc_I → fc_P → Prop} (hc : fc_cfS m.1.cls idx m' 4) (hC : fc_Ci m' d [a1, a2, a3, a4] sh I P post) (hst : (st.map fun v => v.category).sum ≤ 8) (hd : decode m.2.1 pc = .ok (.invokestatic idx, 3)) (kk : ∀ (r : Int32) (I' : fc_I) (P' : fc_P), post r I' P' → fc_T m (d + 1) nb zb (pc + 3) ls (.int r :: st) sh I' P' Q) : fc_T m (d + 1) nb zb pc ls (a4 :: a3 :: a2 :: a1 :: st) sh I P Q := fc_calLS (As := [a1, a2, a3, a4]) hc hC (fun v sh' I' P' h => h.1) rfl hst hd (fun v I' P' hq => by obtain ⟨_, r, rfl, hq⟩ := hq; exact kk r I' P' hq)
theorem ft_S4p {a1 a2 a3 a4 : Value} {x : Int32} (hc : fc_cfS m.1.cls idx m' 4) (hC : fc_Cp m' d [a1, a2, a3, a4] sh I P x) (hst : (st.map fun v => v.category).sum ≤ 8) (hd : decode m.2.1 pc = .ok (.invokestatic idx, 3)) (kk : fc_T m (d + 1) nb zb (pc + 3) ls (.int x :: st) sh I P Q) : fc_T m (d + 1) nb zb pc ls (a4 :: a3 :: a2 :: a1 :: st) sh I P Q := fc_calLS (As := [a1, a2, a3, a4]) hc hC (fun v sh' I' P' h => h.1) rfl hst hd (fun v I' P' hq => by obtain ⟨_, r, rfl, rfl, rfl, rfl⟩ := hq; exact kk)
theorem ft_S4l {a1 a2 a3 a4 : Value} {post : Int64 → fc_I → fc_P → Prop} (hc : fc_cfS m.1.cls idx m' 4) (hC : fc_Cl m' d [a1, a2, a3, a4] sh I P post) (hst : (st.map fun v => v.category).sum ≤ 8) (hd : decode m.2.1 pc = .ok (.invokestatic idx, 3)) (kk : ∀ (r : Int64) (I' : fc_I) (P' : fc_P), post r I' P' → fc_T m (d + 1) nb zb (pc + 3) ls (.long r :: st) sh I' P' Q) : fc_T m (d + 1) nb zb pc ls (a4 :: a3 :: a2 :: a1 :: st) sh I P Q := fc_calLS (As := [a1, a2, a3, a4]) hc hC (fun v sh' I' P' h => h.1) rfl hst hd (fun v I' P' hq => by obtain ⟨_, r, rfl, hq⟩ := hq; exact kk r I' P' hq)
theorem ft_S4v {a1 a2 a3 a4 : Value} {post : fc_I → fc_P → Prop} (hc : fc_cfS m.1.cls idx m' 4) (hC : fc_Cv m' d [a1, a2, a3, a4] sh I P post) (hst : (st.map fun v => v.category).sum ≤ 8) (hd : decode m.2.1 pc = .ok (.invokestatic idx, 3)) (kk : ∀ (I' : fc_I) (P' : fc_P), post I' P' → fc_T m (d + 1) nb zb (pc + 3) ls st sh I' P' Q) : fc_T m (d + 1) nb zb pc ls (a4 :: a3 :: a2 :: a1 :: st) sh I P Q := fc_calLS (As := [a1, a2, a3, a4]) hc hC (fun v sh' I' P' h => h.1) rfl hst hd (fun v I' P' hq => by obtain ⟨_, rfl, hq⟩ := hq; exact kk I' P' hq)
theorem ft_S5i {a1 a2 a3 a4 a5 : Value} {post : Int32 → fc_I → fc_P → Prop} (hc : fc_cfS m.1.cls idx m' 5) (hC : fc_Ci m' d [a1, a2, a3, a4, a5] sh I P post) (hst : (st.map fun v => v.category).sum ≤ 8) (hd : decode m.2.1 pc = .ok (.invokestatic idx, 3)) (kk : ∀ (r : Int32) (I' : fc_I) (P' : fc_P), post r I' P' → fc_T m (d + 1) nb zb (pc + 3) ls (.int r :: st) sh I' P' Q) : fc_T m (d + 1) nb zb pc ls (a5 :: a4 :: a3 :: a2 :: a1 :: st) sh I P Q := fc_calLS (As := [a1, a2, a3, a4, a5]) hc hC (fun v sh' I' P' h => h.1) rfl hst hd (fun v I' P' hq => by obtain ⟨_, r, rfl, hq⟩ := hq; exact kk r I' P' hq)
theorem ft_S5p {a1 a2 a3 a4 a5 : Value} {x : Int32} (hc : fc_cfS m.1.cls idx m' 5) (hC : fc_Cp m' d [a1, a2, a3, a4, a5] sh I P x) (hst : (st.map fun v => v.category).sum ≤ 8) (hd : decode m.2.1 pc = .ok (.invokestatic idx, 3)) (kk : fc_T m (d + 1) nb zb (pc + 3) ls (.int x :: st) sh I P Q) : fc_T m (d + 1) nb zb pc ls (a5 :: a4 :: a3 :: a2 :: a1 :: st) sh I P Q := fc_calLS (As := [a1, a2, a3, a4, a5]) hc hC (fun v sh' I' P' h => h.1) rfl hst hd (fun v I' P' hq => by obtain ⟨_, r, rfl, rfl, rfl, rfl⟩ := hq; exact kk)
theorem ft_S5l {a1 a2 a3 a4 a5 : Value} {post : Int64 → fc_I → fc_P → Prop} (hc : fc_cfS m.1.cls idx m' 5) (hC : fc_Cl m' d [a1, a2, a3, a4, a5] sh I P post) (hst : (st.map fun v => v.category).sum ≤ 8) (hd : decode m.2.1 pc = .ok (.invokestatic idx, 3)) (kk : ∀ (r : Int64) (I' : fc_I) (P' : fc_P), post r I' P' → fc_T m (d + 1) nb zb (pc + 3) ls (.long r :: st) sh I' P' Q) : fc_T m (d + 1) nb zb pc ls (a5 :: a4 :: a3 :: a2 :: a1 :: st) sh I P Q := fc_calLS (As := [a1, a2, a3, a4, a5]) hc hC (fun v sh' I' P' h => h.1) rfl hst hd (fun v I' P' hq => by obtain ⟨_, r, rfl, hq⟩ := hq; exact kk r I' P' hq)
theorem ft_S5v {a1 a2 a3 a4 a5 : Value} {post : fc_I → fc_P → Prop} (hc : fc_cfS m.1.cls idx m' 5) (hC : fc_Cv m' d [a1, a2, a3, a4, a5] sh I P post) (hst : (st.map fun v => v.category).sum ≤ 8) (hd : decode m.2.1 pc = .ok (.invokestatic idx, 3)) (kk : ∀ (I' : fc_I) (P' : fc_P), post I' P' → fc_T m (d + 1) nb zb (pc + 3) ls st sh I' P' Q) : fc_T m (d + 1) nb zb pc ls (a5 :: a4 :: a3 :: a2 :: a1 :: st) sh I P Q := fc_calLS (As := [a1, a2, a3, a4, a5]) hc hC (fun v sh' I' P' h => h.1) rfl hst hd (fun v I' P' hq => by obtain ⟨_, rfl, hq⟩ := hq; exact kk I' P' hq)
theorem ft_S6i {a1 a2 a3 a4 a5 a6 : Value} {post : Int32 → fc_I → fc_P → Prop} (hc : fc_cfS m.1.cls idx m' 6) (hC : fc_Ci m' d [a1, a2, a3, a4, a5, a6] sh I P post) (hst : (st.map fun v => v.category).sum ≤ 8) (hd : decode m.2.1 pc = .ok (.invokestatic idx, 3)) (kk : ∀ (r : Int32) (I' : fc_I) (P' : fc_P), post r I' P' → fc_T m (d + 1) nb zb (pc + 3) ls (.int r :: st) sh I' P' Q) : fc_T m (d + 1) nb zb pc ls (a6 :: a5 :: a4 :: a3 :: a2 :: a1 :: st) sh I P Q := fc_calLS (As := [a1, a2, a3, a4, a5, a6]) hc hC (fun v sh' I' P' h => h.1) rfl hst hd (fun v I' P' hq => by obtain ⟨_, r, rfl, hq⟩ := hq; exact kk r I' P' hq)
theorem ft_S6p {a1 a2 a3 a4 a5 a6 : Value} {x : Int32} (hc : fc_cfS m.1.cls idx m' 6) (hC : fc_Cp m' d [a1, a2, a3, a4, a5, a6] sh I P x) (hst : (st.map fun v => v.category).sum ≤ 8) (hd : decode m.2.1 pc = .ok (.invokestatic idx, 3)) (kk : fc_T m (d + 1) nb zb (pc + 3) ls (.int x :: st) sh I P Q) : fc_T m (d + 1) nb zb pc ls (a6 :: a5 :: a4 :: a3 :: a2 :: a1 :: st) sh I P Q := fc_calLS (As := [a1, a2, a3, a4, a5, a6]) hc hC (fun v sh' I' P' h => h.1) rfl hst hd (fun v I' P' hq => by obtain ⟨_, r, rfl, rfl, rfl, rfl⟩ := hq; exact kk)
theorem ft_S6l {a1 a2 a3 a4 a5 a6 : Value} {post : Int64 → fc_I → fc_P → Prop} (hc : fc_cfS m.1.cls idx m' 6) (hC : fc_Cl m' d [a1, a2, a3, a4, a5, a6] sh I P post) (hst : (st.map fun v => v.category).sum ≤ 8) (hd : decode m.2.1 pc = .ok (.invokestatic idx, 3)) (kk : ∀ (r : Int64) (I' : fc_I) (P' : fc_P), post r I' P' → fc_T m (d + 1) nb zb (pc + 3) ls (.long r :: st) sh I' P' Q) : fc_T m (d + 1) nb zb pc ls (a6 :: a5 :: a4 :: a3 :: a2 :: a1 :: st) sh I P Q := fc_calLS (As := [a1, a2, a3, a4, a5, a6]) hc hC (fun v sh' I' P' h => h.1) rfl hst hd (fun v I' P' hq => by obtain ⟨_, r, rfl, hq⟩ := hq; exact kk r I' P' hq)
theorem ft_S6v {a1 a2 a3 a4 a5 a6 : Value} {post : fc_I → fc_P → Prop} (hc : fc_cfS m.1.cls idx m' 6) (hC : fc_Cv m' d [a1, a2, a3, a4, a5, a6] sh I P post) (hst : (st.map fun v => v.category).sum ≤ 8) (hd : decode m.2.1 pc = .ok (.invokestatic idx, 3)) (kk : ∀ (I' : fc_I) (P' : fc_P), post I' P' → fc_T m (d + 1) nb zb (pc + 3) ls st sh I' P' Q) : fc_T m (d + 1) nb zb pc ls (a6 :: a5 :: a4 :: a3 :: a2 :: a1 :: st) sh I P Q := fc_calLS (As := [a1, a2, a3, a4, a5, a6]) hc hC (fun v sh' I' P' h => h.1) rfl hst hd (fun v I' P' hq => by obtain ⟨_, rfl, hq⟩ := hq; exact kk I' P' hq)
theorem ft_SN1i {host : String} {a1 : Value} {post : Int32 → fc_I → fc_P → Prop} (hc : fc_cfSN m.1.cls idx m' host 1) (hC : fc_Ci m' d [a1] sh I P post) (hst : (st.map fun v => v.category).sum ≤ 8) (hd : decode m.2.1 pc = .ok (.invokestatic idx, 3)) (kk : ∀ (r : Int32) (I' : fc_I) (P' : fc_P), post r I' P' → fc_T m (d + 1) nb zb (pc + 3) ls (.int r :: st) sh I' P' Q) : fc_T m (d + 1) nb zb pc ls (a1 :: st) sh I P Q := fc_calLSN (As := [a1]) hc hC (fun v sh' I' P' h => h.1) rfl hst hd (fun v I' P' hq => by obtain ⟨_, r, rfl, hq⟩ := hq; exact kk r I' P' hq)
theorem ft_SN1p {host : String} {a1 : Value} {x : Int32} (hc : fc_cfSN m.1.cls idx m' host 1) (hC : fc_Cp m' d [a1] sh I P x) (hst : (st.map fun v => v.category).sum ≤ 8) (hd : decode m.2.1 pc = .ok (.invokestatic idx, 3)) (kk : fc_T m (d + 1) nb zb (pc + 3) ls (.int x :: st) sh I P Q) : fc_T m (d + 1) nb zb pc ls (a1 :: st) sh I P Q := fc_calLSN (As := [a1]) hc hC (fun v sh' I' P' h => h.1) rfl hst hd (fun v I' P' hq => by obtain ⟨_, r, rfl, rfl, rfl, rfl⟩ := hq; exact kk)
theorem ft_SN3i {host : String} {a1 a2 a3 : Value} {post : Int32 → fc_I → fc_P → Prop} (hc : fc_cfSN m.1.cls idx m' host 3) (hC : fc_Ci m' d [a1, a2, a3] sh I P post) (hst : (st.map fun v => v.category).sum ≤ 8) (hd : decode m.2.1 pc = .ok (.invokestatic idx, 3)) (kk : ∀ (r : Int32) (I' : fc_I) (P' : fc_P), post r I' P' → fc_T m (d + 1) nb zb (pc + 3) ls (.int r :: st) sh I' P' Q) : fc_T m (d + 1) nb zb pc ls (a3 :: a2 :: a1 :: st) sh I P Q := fc_calLSN (As := [a1, a2, a3]) hc hC (fun v sh' I' P' h => h.1) rfl hst hd (fun v I' P' hq => by obtain ⟨_, r, rfl, hq⟩ := hq; exact kk r I' P' hq)
theorem ft_SN3p {host : String} {a1 a2 a3 : Value} {x : Int32} (hc : fc_cfSN m.1.cls idx m' host 3) (hC : fc_Cp m' d [a1, a2, a3] sh I P x) (hst : (st.map fun v => v.category).sum ≤ 8) (hd : decode m.2.1 pc = .ok (.invokestatic idx, 3)) (kk : fc_T m (d + 1) nb zb (pc + 3) ls (.int x :: st) sh I P Q) : fc_T m (d + 1) nb zb pc ls (a3 :: a2 :: a1 :: st) sh I P Q := fc_calLSN (As := [a1, a2, a3]) hc hC (fun v sh' I' P' h => h.1) rfl hst hd (fun v I' P' hq => by obtain ⟨_, r, rfl, rfl, rfl, rfl⟩ := hq; exact kk)
theorem ft_VS0i {k : Nat} {post : Int32 → fc_I → fc_P → Prop} (hc : fc_cfVS m.1.cls idx m' 0) (hk : k < 12) (hC : fc_Ci m' d [.ref (1000 + k)] sh I P post) (hst : (st.map fun v => v.category).sum ≤ 8) (hd : decode m.2.1 pc = .ok (.invokevirtual idx, 3)) (kk : ∀ (r : Int32) (I' : fc_I) (P' : fc_P), post r I' P' → fc_T m (d + 1) nb zb (pc + 3) ls (.int r :: st) sh I' P' Q) : fc_T m (d + 1) nb zb pc ls (.ref (1000 + k) :: st) sh I P Q := fc_calLVS (As := []) hc hk hC (fun v sh' I' P' h => h.1) rfl hst hd (fun v I' P' hq => by obtain ⟨_, r, rfl, hq⟩ := hq; exact kk r I' P' hq)
theorem ft_VS0p {k : Nat} {x : Int32} (hc : fc_cfVS m.1.cls idx m' 0) (hk : k < 12) (hC : fc_Cp m' d [.ref (1000 + k)] sh I P x) (hst : (st.map fun v => v.category).sum ≤ 8) (hd : decode m.2.1 pc = .ok (.invokevirtual idx, 3)) (kk : fc_T m (d + 1) nb zb (pc + 3) ls (.int x :: st) sh I P Q) : fc_T m (d + 1) nb zb pc ls (.ref (1000 + k) :: st) sh I P Q := fc_calLVS (As := []) hc hk hC (fun v sh' I' P' h => h.1) rfl hst hd (fun v I' P' hq => by obtain ⟨_, r, rfl, rfl, rfl, rfl⟩ := hq; exact kk)
theorem ft_VS1i {k : Nat} {a1 : Value} {post : Int32 → fc_I → fc_P → Prop} (hc : fc_cfVS m.1.cls idx m' 1) (hk : k < 12) (hC : fc_Ci m' d [.ref (1000 + k), a1] sh I P post) (hst : (st.map fun v => v.category).sum ≤ 8) (hd : decode m.2.1 pc = .ok (.invokevirtual idx, 3)) (kk : ∀ (r : Int32) (I' : fc_I) (P' : fc_P), post r I' P' → fc_T m (d + 1) nb zb (pc + 3) ls (.int r :: st) sh I' P' Q) : fc_T m (d + 1) nb zb pc ls (a1 :: .ref (1000 + k) :: st) sh I P Q := fc_calLVS (As := [a1]) hc hk hC (fun v sh' I' P' h => h.1) rfl hst hd (fun v I' P' hq => by obtain ⟨_, r, rfl, hq⟩ := hq; exact kk r I' P' hq)
theorem ft_VS1p {k : Nat} {a1 : Value} {x : Int32} (hc : fc_cfVS m.1.cls idx m' 1) (hk : k < 12) (hC : fc_Cp m' d [.ref (1000 + k), a1] sh I P x) (hst : (st.map fun v => v.category).sum ≤ 8) (hd : decode m.2.1 pc = .ok (.invokevirtual idx, 3)) (kk : fc_T m (d + 1) nb zb (pc + 3) ls (.int x :: st) sh I P Q) : fc_T m (d + 1) nb zb pc ls (a1 :: .ref (1000 + k) :: st) sh I P Q := fc_calLVS (As := [a1]) hc hk hC (fun v sh' I' P' h => h.1) rfl hst hd (fun v I' P' hq => by obtain ⟨_, r, rfl, rfl, rfl, rfl⟩ := hq; exact kk)
theorem ft_bz {c : Prop} [Decidable c] {off : Int} {tgt : Nat} (hd : decode m.2.1 pc = .ok (.ifCond .eq off, 3)) (ht : (pc : Int) + off = (tgt : Int)) (kt : ¬ c → fc_T m d nb zb tgt ls st sh I P Q) (kf : c → fc_T m d nb zb (pc + 3) ls st sh I P Q) : fc_T m d nb zb pc ls (.int (if c then 1 else 0) :: st) sh I P Q := by
  by_cases h : c
  · rw [if_pos h]; exact ft_if_eq hd ht (fun q => absurd q (by decide)) (fun _ => kf h)
  · rw [if_neg h]; exact ft_if_eq hd ht (fun _ => kt h) (fun q => absurd rfl q)
theorem ft_bnz {c : Prop} [Decidable c] {off : Int} {tgt : Nat} (hd : decode m.2.1 pc = .ok (.ifCond .ne off, 3)) (ht : (pc : Int) + off = (tgt : Int)) (kt : c → fc_T m d nb zb tgt ls st sh I P Q) (kf : ¬ c → fc_T m d nb zb (pc + 3) ls st sh I P Q) : fc_T m d nb zb pc ls (.int (if c then 1 else 0) :: st) sh I P Q := by
  by_cases h : c
  · rw [if_pos h]; exact ft_if_ne hd ht (fun _ => kt h) (fun q => absurd q (by decide))
  · rw [if_neg h]; exact ft_if_ne hd ht (fun q => absurd rfl q) (fun _ => kf h)
theorem fc_nb {c : Prop} [Decidable c] : narrow .boolean (.int (if c then 1 else 0)) = .int (if c then 1 else 0) := by
  by_cases h : c
  · rw [if_pos h]; rfl
  · rw [if_neg h]; rfl

end STEADY
end
section
/-! ===== makings ===== -/
def fc_zI (I : fc_I) (c : Nat) : fc_I := fun c' k => if c' = c then 0 else I c' k
def fc_zP (P : fc_P) (c : Nat) : fc_P := fun c' k => if c' = c then none else P c' k
def fc_aa (as : Nat → Nat) (n a : Nat) : Nat → Nat := fun c => if c = n then a else as c
theorem fc_aa_ext {as : Nat → Nat} {n a : Nat} : fc_ext n (n + 1) as (fc_aa as n a) := fun c h => by
  unfold fc_aa
  rw [if_neg (by omega)]
theorem fc_map_aa {P : fc_P} {sh : fc_Sh} {as : Nat → Nat} {a i j : Nat} (hok : fc_ok sh P) : (P i j).map (fc_aa as sh.length a) = (P i j).map as := by
  cases hp : P i j with
  | none => rfl
  | some v =>
    have := hok.2 i j v hp
    simp [fc_aa, Nat.ne_of_lt this]
theorem fc_w_push {β : Nat → ClassId} {as : Nat → Nat} {sh : fc_Sh} {I : fc_I} {P : fc_P} {a : Nat} {q : Nat × Nat} (hok : fc_ok sh P) : fc_w β (fc_aa as sh.length a) (sh ++ [q]) (fc_zI I sh.length) (fc_zP P sh.length) = fc_w β as sh I P ++ [(a, fc_cell β (fc_aa as sh.length a) (fc_zI I sh.length) (fc_zP P sh.length) sh.length q)] := by
  apply List.ext_getElem?
  intro i
  unfold fc_w
  rw [List.mapIdx_append]
  by_cases hi : i < sh.length
  · rw [List.getElem?_append_left (by simpa using hi), List.getElem?_append_left (by simpa using hi)]
    simp only [List.getElem?_mapIdx]
    cases hs : sh[i]? with
    | none => rfl
    | some r =>
      have hne : i ≠ sh.length := Nat.ne_of_lt hi
      have eI : fc_zI I sh.length i = I i := by funext k; simp [fc_zI, hne]
      have eP : ∀ j, fc_zP P sh.length i j = P i j := fun j => by simp [fc_zP, hne]
      have ea : fc_aa as sh.length a i = as i := by simp [fc_aa, hne]
      simp only [Option.map_some, Option.some.injEq, Prod.mk.injEq, ea, true_and]
      unfold fc_cell fc_fv
      simp only [eI, eP, fc_map_aa hok]
  · rw [List.getElem?_append_right (by simpa using hi), List.getElem?_append_right (by simpa using hi)]
    simp [fc_aa]
theorem fc_ok_push {sh : fc_Sh} {P : fc_P} {q : Nat × Nat} (hok : fc_ok sh P) (h : sh.length < 1000) : fc_ok (sh ++ [q]) (fc_zP P sh.length) := by
  refine ⟨by simp; omega, fun c j v hv => ?_⟩
  unfold fc_zP at hv
  split at hv
  · cases hv
  · have := hok.2 c j v hv
    simp
    omega
section ALLOC
variable {m : fc_MI} {d nb zb pc : Nat} {ls : List (Option Value)} {st : List Value} {sh : fc_Sh} {I : fc_I} {P : fc_P} {Q : fc_Q}
set_option maxHeartbeats 4000000 in
theorem ft_new {ci idx : Nat} {q : vw_C} (hcq : fc_cl[ci]? = some q) (hw : Cond.classLink m.1.cls idx q.1 ∈ fc_tbl ∧ Cond.instantiable q.1 q.2.2 ∈ fc_tbl ∧ Cond.initialized q.1 ∈ fc_tbl) (hty : ∀ j, j < q.2.2 → fc_ty ci j = .int ∨ fc_isR (fc_ty ci j) = true) (hks : fc_oks sh.length ls st = true) (hlen : sh.length < 1000) (hd : decode m.2.1 pc = .ok (.new idx, 3)) (kk : fc_T m d nb zb (pc + 3) ls ([.ref sh.length] ++ st) (sh ++ [(10 + ci, q.2.2)]) (fc_zI I sh.length) (fc_zP P sh.length) Q) : fc_T m d (nb + 1) (zb + q.2.2) pc ls st sh I P Q := fun p l e R s mm args below meth cd β D A as H locs cells slots Nt Zt lsA QF C hb h1 hW hS hl hF => by
  obtain ⟨hx, hbb, hml, hown, hts, hnm, hfr, hlo, hA, hE, hscr⟩ := id C
  obtain ⟨C0, T0, N0⟩ := q
  refine va_new (ci := ci) (fs := (List.range N0).map (fun k => fc_fv as (fc_zI I sh.length) (fc_zP P sh.length) sh.length ci k)) hx hbb hts (fc_in ci _ hcq) (fc_ty ci) (fc_nm ci _ hcq).2 hown (hts _ hw.1) (hts _ hw.2.1) (hts _ hw.2.2) hW.2.2 hW.1 hW.2.1 hS hA hcq ?_ (by omega) (by show slots + N0 ≤ _; have h2 : slots + (zb + N0) ≤ Zt := hb.2.1; omega) hd (fun a H1 hP1 hD1 hS1 => ?_)
  · intro j hj
    have hj : j < N0 := hj
    have ev : vp_V ((List.range N0).map (fun k => fc_fv as (fc_zI I sh.length) (fc_zP P sh.length) sh.length ci k)) j = fc_fv as (fc_zI I sh.length) (fc_zP P sh.length) sh.length ci j := by
      simp [vp_V, hj]
    rw [ev]
    rcases hty j hj with h | h
    · simp [fc_fv, h, fc_isR, fc_zI, defaultValue]
    · unfold fc_fv
      rw [if_pos h]
      generalize fc_ty ci j = t at h
      cases t <;> first | (simp [fc_isR] at h; done) | simp [fc_zP, va_rf, defaultValue]
  · have ec : (Sum.inr (ci, (List.range N0).map (fun k => fc_fv as (fc_zI I sh.length) (fc_zP P sh.length) sh.length ci k)) : va_E) = fc_cell β (fc_aa as sh.length a) (fc_zI I sh.length) (fc_zP P sh.length) sh.length (10 + ci, N0) := by
      rw [fc_cell_o]
      simp [fc_fv, fc_zP]
    rw [ec, ← fc_w_push h1] at hP1 hD1
    have h2 : slots + (zb + N0) ≤ Zt := hb.2.1
    have hg := fc_go (ls := ls) (st := st) (sh := sh) (vs := [.ref sh.length]) (nb := nb) (zb := zb) (cells1 := cells + 1) (slots1 := slots + N0) (as' := fc_aa as sh.length a) C ⟨by omega, by omega, hb.2.2.1, hb.2.2.2⟩ (by simp) (fc_ok_push h1 hlen) (by rw [List.length_append]; exact fc_aa_ext) hks ⟨hP1, hD1, hW.2.2⟩ hS1 hl hF kk
    have ev : [Value.ref sh.length].map (fc_cv (fc_aa as sh.length a)) = [.ref a] := by simp [fc_cv, fc_aa]
    rw [ev] at hg
    exact hg
set_option maxHeartbeats 4000000 in
theorem fc_newarr {t N : Nat} {atype : ArrayType} {ty : FieldType} {n : Int32} (hty : newarray.typeOf atype = ty) (ht : t < 4) (htt : ∀ β, (fc_tys β)[t]? = some (β t, ty)) (hRA : ∀ (U : State) (cA : ClassId), va_RA U cA ty → U.vm.findClass ("[" ++ ty.toString) = some cA) (hdv : defaultValue ty = .int 0) (hw : Cond.arrayClass ty ∈ fc_tbl) (hn : ¬ n < 0) (hN : n.toNatClampNeg = N) (hbytes : N * componentBytes ty ≤ 536870912) (hks : fc_oks sh.length ls st = true) (hlen : sh.length < 1000) (hd : decode m.2.1 pc = .ok (.newarray atype, 2)) (kk : fc_T m d nb zb (pc + 2) ls ([.ref sh.length] ++ st) (sh ++ [(t, N)]) (fc_zI I sh.length) (fc_zP P sh.length) Q) : fc_T m d (nb + 1) (zb + N) pc ls (.int n :: st) sh I P Q := fun p l e R s mm args below meth cd β D A as H locs cells slots Nt Zt lsA QF C hb h1 hW hS hl hF => by
  obtain ⟨hx, hbb, hml, hown, hts, hnm, hfr, hlo, hA, hE, hscr⟩ := id C
  refine va_newa (atype := atype) (a0 := (N, .inl (fun _ => 0))) hx hbb (by rw [hty]; exact hts _ hw) hty hW.2.2 hW.1 hW.2.1 hS hA (fun cA => by rw [hdv]; rfl) hn hN hbytes (by omega) (by omega) hd (fun a cA H1 hK1 hP1 hD1 hS1 => ?_)
  have e0 : cA = β t := by
    have h5 := (hK1.2 5 (cA, ty) rfl).2
    have h6 := (hW.2.2.2 t (β t, ty) (htt β)).2
    exact Option.some.inj ((hRA _ _ h5).symm.trans (hRA _ _ h6))
  subst e0
  have ec : (Sum.inl (β t, N, Sum.inl (fun _ => 0)) : va_E) = fc_cell β (fc_aa as sh.length a) (fc_zI I sh.length) (fc_zP P sh.length) sh.length (t, N) := by
    rw [fc_cell_a ht, show fc_zI I sh.length sh.length = fun _ => 0 from funext fun k => by simp [fc_zI]]
  rw [ec, ← fc_w_push h1] at hP1 hD1
  have hg := fc_go (ls := ls) (st := st) (sh := sh) (vs := [.ref sh.length]) (nb := nb) (zb := zb) (cells1 := cells + 1) (slots1 := slots + N) (as' := fc_aa as sh.length a) C ⟨by omega, by omega, hb.2.2.1, hb.2.2.2⟩ (by simp) (fc_ok_push h1 hlen) (by rw [List.length_append]; exact fc_aa_ext) hks ⟨hP1, hD1, hW.2.2⟩ hS1 hl hF kk
  have ev : [Value.ref sh.length].map (fc_cv (fc_aa as sh.length a)) = [.ref a] := by simp [fc_cv, fc_aa]
  rw [ev] at hg
  exact hg
theorem ft_newI {N : Nat} {n : Int32} (hw : Cond.arrayClass .int ∈ fc_tbl) (hn : ¬ n < 0) (hN : n.toNatClampNeg = N) (hbytes : N ≤ 100000) (hks : fc_oks sh.length ls st = true) (hlen : sh.length < 1000) (hd : decode m.2.1 pc = .ok (.newarray .int, 2)) (kk : fc_T m d nb zb (pc + 2) ls ([.ref sh.length] ++ st) (sh ++ [(0, N)]) (fc_zI I sh.length) (fc_zP P sh.length) Q) : fc_T m d (nb + 1) (zb + N) pc ls (.int n :: st) sh I P Q := fc_newarr (atype := .int) (t := 0) rfl (by decide) (fun _ => rfl) (fun _ _ h => h) rfl hw hn hN (by show N * 4 ≤ _; omega) hks hlen hd kk
theorem ft_newB {N : Nat} {n : Int32} (hw : Cond.arrayClass .byte ∈ fc_tbl) (hn : ¬ n < 0) (hN : n.toNatClampNeg = N) (hbytes : N ≤ 100000) (hks : fc_oks sh.length ls st = true) (hlen : sh.length < 1000) (hd : decode m.2.1 pc = .ok (.newarray .byte, 2)) (kk : fc_T m d nb zb (pc + 2) ls ([.ref sh.length] ++ st) (sh ++ [(1, N)]) (fc_zI I sh.length) (fc_zP P sh.length) Q) : fc_T m d (nb + 1) (zb + N) pc ls (.int n :: st) sh I P Q := fc_newarr (atype := .byte) (t := 1) rfl (by decide) (fun _ => rfl) (fun _ _ h => h) rfl hw hn hN (by show N * 1 ≤ _; omega) hks hlen hd kk
theorem ft_newZ {N : Nat} {n : Int32} (hw : Cond.arrayClass .boolean ∈ fc_tbl) (hn : ¬ n < 0) (hN : n.toNatClampNeg = N) (hbytes : N ≤ 100000) (hks : fc_oks sh.length ls st = true) (hlen : sh.length < 1000) (hd : decode m.2.1 pc = .ok (.newarray .boolean, 2)) (kk : fc_T m d nb zb (pc + 2) ls ([.ref sh.length] ++ st) (sh ++ [(2, N)]) (fc_zI I sh.length) (fc_zP P sh.length) Q) : fc_T m d (nb + 1) (zb + N) pc ls (.int n :: st) sh I P Q := fc_newarr (atype := .boolean) (t := 2) rfl (by decide) (fun _ => rfl) (fun _ _ h => h) rfl hw hn hN (by show N * 1 ≤ _; omega) hks hlen hd kk
theorem ft_newC {N : Nat} {n : Int32} (hw : Cond.arrayClass .char ∈ fc_tbl) (hn : ¬ n < 0) (hN : n.toNatClampNeg = N) (hbytes : N ≤ 100000) (hks : fc_oks sh.length ls st = true) (hlen : sh.length < 1000) (hd : decode m.2.1 pc = .ok (.newarray .char, 2)) (kk : fc_T m d nb zb (pc + 2) ls ([.ref sh.length] ++ st) (sh ++ [(3, N)]) (fc_zI I sh.length) (fc_zP P sh.length) Q) : fc_T m d (nb + 1) (zb + N) pc ls (.int n :: st) sh I P Q := fc_newarr (atype := .char) (t := 3) rfl (by decide) (fun _ => rfl) (fun _ _ h => h) rfl hw hn hN (by show N * 2 ≤ _; omega) hks hlen hd kk
def fc_mI (I : fc_I) (n N : Nat) : fc_I := fun c k => if n ≤ c ∧ c < n + 1 + N then 0 else I c k
def fc_mP (P : fc_P) (n N : Nat) : fc_P := fun c j => if c = n then (if j < N then some (n + 1 + j) else none) else if n < c ∧ c < n + 1 + N then none else P c j
def fc_ma (as : Nat → Nat) (n N a : Nat) (r : Nat → Nat) : Nat → Nat := fun c => if c = n then a else if n < c ∧ c < n + 1 + N then r (c - (n + 1)) else as c
theorem fc_ma_ext {as : Nat → Nat} {n N a : Nat} {r : Nat → Nat} : fc_ext n (n + (N + 1)) as (fc_ma as n N a r) := fun c h => by
  unfold fc_ma
  rw [if_neg (by omega), if_neg (by omega)]
theorem fc_w_mna {β : Nat → ClassId} {as : Nat → Nat} {sh : fc_Sh} {I : fc_I} {P : fc_P} {a N K : Nat} {r : Nat → Nat} (hok : fc_ok sh P) : fc_w β (fc_ma as sh.length N a r) (sh ++ ((4, N) :: List.replicate N (0, K))) (fc_mI I sh.length N) (fc_mP P sh.length N) = (fc_w β as sh I P ++ [(a, .inl (β 4, N, .inr (.inr (.inr (.inr (fun i => if i < N then some (r i) else none))))))]) ++ (List.range N).map (fun i => (r i, .inl (β 0, K, .inl (fun _ => 0)))) := by
  apply List.ext_getElem?
  intro i
  rw [List.append_assoc]
  unfold fc_w
  rw [List.mapIdx_append]
  by_cases hi : i < sh.length
  · rw [List.getElem?_append_left (by simpa using hi), List.getElem?_append_left (by simpa using hi)]
    simp only [List.getElem?_mapIdx]
    cases hs : sh[i]? with
    | none => rfl
    | some q =>
      have hne : i ≠ sh.length := Nat.ne_of_lt hi
      have eI : fc_mI I sh.length N i = I i := by funext k; unfold fc_mI; rw [if_neg (by omega)]
      have eP : ∀ j, fc_mP P sh.length N i j = P i j := fun j => by unfold fc_mP; rw [if_neg hne, if_neg (by omega)]
      have ea : fc_ma as sh.length N a r i = as i := by unfold fc_ma; rw [if_neg hne, if_neg (by omega)]
      have em : ∀ j, (P i j).map (fc_ma as sh.length N a r) = (P i j).map as := fun j => by
        cases hp : P i j with
        | none => rfl
        | some v =>
          have hv := hok.2 i j v hp
          simp only [Option.map_some, Option.some.injEq]
          unfold fc_ma
          rw [if_neg (by omega), if_neg (by omega)]
      simp only [Option.map_some, Option.some.injEq, Prod.mk.injEq, ea, true_and]
      unfold fc_cell fc_fv
      simp only [eI, eP, em]
  · rw [List.getElem?_append_right (by simpa using hi), List.getElem?_append_right (by simpa using hi)]
    simp only [List.length_mapIdx]
    obtain ⟨j, rfl⟩ : ∃ j, i = sh.length + j := ⟨i - sh.length, by omega⟩
    rw [show sh.length + j - sh.length = j by omega]
    match j with
    | 0 =>
      simp only [List.mapIdx_cons, List.getElem?_cons_zero, Nat.zero_add, List.singleton_append]
      rw [fc_cell_r]
      simp only [Option.some.injEq, Prod.mk.injEq]
      refine ⟨by simp [fc_ma], ?_⟩
      have ef : (fun j => Option.map (fc_ma as sh.length N a r) (fc_mP P sh.length N sh.length j)) = (fun i => if i < N then some (r i) else none) := funext fun j => by
        simp only [fc_mP, if_true]
        by_cases hj : j < N
        · rw [if_pos hj, if_pos hj]
          simp only [Option.map_some, Option.some.injEq]
          unfold fc_ma
          rw [if_neg (by omega), if_pos (by omega)]
          congr 1
          omega
        · rw [if_neg hj, if_neg hj]; rfl
      rw [ef]
    | j + 1 =>
      simp only [List.mapIdx_cons, List.getElem?_cons_succ, List.singleton_append, List.getElem?_mapIdx, List.getElem?_map]
      by_cases hj : j < N
      · rw [List.getElem?_replicate, if_pos hj, List.getElem?_range hj]
        simp only [Option.map_some, Option.some.injEq, Prod.mk.injEq]
        rw [fc_cell_a (by decide)]
        refine ⟨?_, ?_⟩
        · unfold fc_ma
          rw [if_neg (by omega), if_pos (by omega)]
          congr 1
          omega
        · have ef : fc_mI I sh.length N (j + 1 + sh.length) = fun _ => 0 := funext fun k => by
            unfold fc_mI
            rw [if_pos (by omega)]
          rw [ef]
      · rw [List.getElem?_replicate, if_neg hj, List.getElem?_eq_none (by simpa using hj)]
        rfl
theorem fc_ok_mna {sh : fc_Sh} {P : fc_P} {N K : Nat} (hok : fc_ok sh P) (h : sh.length + N < 1000) : fc_ok (sh ++ ((4, N) :: List.replicate N (0, K))) (fc_mP P sh.length N) := by
  refine ⟨by simp; omega, fun c j v hv => ?_⟩
  unfold fc_mP at hv
  simp only [List.length_append, List.length_cons, List.length_replicate]
  split at hv
  · split at hv
    · cases hv; omega
    · cases hv
  · split at hv
    · cases hv
    · have := hok.2 c j v hv
      omega
set_option maxHeartbeats 4000000 in
theorem ft_mna {N K idx : Nat} {n k : Int32} (hw : Cond.classLink m.1.cls idx "[[I" ∈ fc_tbl ∧ Cond.arrayOver (.array .int) ∈ fc_tbl ∧ Cond.arrayClass .int ∈ fc_tbl) (hn : ¬ n < 0) (hk : ¬ k < 0) (hN : n.toNatClampNeg = N) (hK : k.toNatClampNeg = K) (h2 : N ≤ 1000 ∧ K ≤ 1000) (hks : fc_oks sh.length ls st = true) (hlen : sh.length + N < 1000) (hd : decode m.2.1 pc = .ok (.multianewarray idx 2, 4)) (kk : fc_T m d nb zb (pc + 4) ls ([.ref sh.length] ++ st) (sh ++ ((4, N) :: List.replicate N (0, K))) (fc_mI I sh.length N) (fc_mP P sh.length N) Q) : fc_T m d (nb + (N + 1)) (zb + (N + N * K)) pc ls (.int k :: .int n :: st) sh I P Q := fun p l e R s mm args below meth cd β D A as H locs cells slots Nt Zt lsA QF C hb h1 hW hS hl hF => by
  obtain ⟨hx, hbb, hml, hown, hts, hnm, hfr, hlo, hA, hE, hscr⟩ := id C
  have hb2 : slots + (zb + (N + N * K)) ≤ Zt := hb.2.1
  have hcy : s.vm.findClass (FieldType.array .int).toString = some (β 0) := (hW.2.2.2 0 _ rfl).2
  have eX : fc_w β as sh I P = fc_w β as sh I P ++ va_pl [] (fun _ => .inr (0, [])) := by simp [va_pl]
  have hP0 := hW.1
  have hD0 := hW.2.1
  rw [eX] at hP0 hD0
  refine va_mna (ty := .int) (cy := β 0) (z := (K, .inl (fun _ => 0))) hx hbb hown (hts _ hw.1) (hts _ hw.2.1) (hts _ hw.2.2) hcy hW.2.2 hP0 hD0 hS hA hn hk hN hK (by omega) (by show K * 4 ≤ _; omega) (by omega) rfl rfl (by omega) (by omega) (fun cA => ?_) hd (fun a r cA H1 hr1 hr2 hK1 hP1 hD1 hS1 => ?_)
  · show ({ cls := cA, slots := Array.replicate K (Value.int 0), vm := .none } : Cell) = arrV cA K (fun _ => .int 0)
    rw [arrV_new]
  · have e0 : cA = β 4 := by
      have h5 := (hK1.2 5 (cA, .array .int) rfl).2
      have h6 := (hW.2.2.2 4 (β 4, .array .int) rfl).2
      have h5 : s.vm.findClass ("[" ++ (FieldType.array .int).toString) = some cA := h5
      have h6 : s.vm.findClass ("[" ++ (FieldType.array .int).toString) = some (β 4) := h6
      exact Option.some.inj (h5.symm.trans h6)
    subst e0
    have er : va_pl ([] ++ (List.range N).map r) (vr_up (fun _ => .inr (0, [])) ((List.range N).map r) (.inl (β 0, K, .inl (fun _ => 0)))) = (List.range N).map (fun i => (r i, (.inl (β 0, K, .inl (fun _ => 0)) : va_E))) := by
      unfold va_pl
      rw [List.nil_append, List.map_map]
      apply List.map_congr_left
      intro i hi
      simp only [Function.comp, Prod.mk.injEq, true_and]
      exact vr_up_in (List.mem_map.mpr ⟨i, hi, rfl⟩)
    rw [er, ← fc_w_mna h1] at hP1 hD1
    have hg := fc_go (ls := ls) (st := st) (sh := sh) (vs := [.ref sh.length]) (nb := nb) (zb := zb) (cells1 := cells + 1 + N) (slots1 := slots + N + N * K) (as' := fc_ma as sh.length N a r) C ⟨by omega, by omega, hb.2.2.1, hb.2.2.2⟩ (by simp) (fc_ok_mna h1 hlen) (by simp only [List.length_append, List.length_cons, List.length_replicate]; exact fc_ma_ext) hks ⟨hP1, hD1, hW.2.2⟩ hS1 hl hF kk
    have ev : [Value.ref sh.length].map (fc_cv (fc_ma as sh.length N a r)) = [.ref a] := by simp [fc_cv, fc_ma]
    rw [ev] at hg
    exact hg
end ALLOC
end
section
/-! ===== what is outside the world: texts, a static row, the law's script ===== -/
section OUT
variable {m : fc_MI} {d nb zb pc : Nat} {ls : List (Option Value)} {st : List Value} {sh : fc_Sh} {I : fc_I} {P : fc_P} {Q : fc_Q}
theorem ft_ldcS {idx k : Nat} {tx : String} (hq : (m.1.cls, idx, tx, k) ∈ fc_strs) (hd : decode m.2.1 pc = .ok (.ldc idx, 2)) (kk : fc_T m d nb zb (pc + 2) ls (.ref (1000 + k) :: st) sh I P Q) : fc_T m d nb zb pc ls st sh I P Q := fun p l e R s mm args below meth cd β D A as H locs cells slots Nt Zt lsA QF C hb h1 hW hS hl hF => by
  obtain ⟨hx, hbb, hml, hown, hts, hnm, hfr, hlo, hA, hE, hscr⟩ := id C
  exact va_ldcS hx hbb hown (hE.2.1 _ hq) hd (kk p l e R s mm args below meth cd β D A as H locs cells slots Nt Zt lsA QF C hb h1 hW hS hl hF)
theorem ft_strV {idx k : Nat} (hk : k < 12) (hw : Cond.fieldLink m.1.cls idx "java/lang/String" "value" "[B" ∈ fc_tbl) (hd : decode m.2.1 pc = .ok (.getfield idx, 3)) (kk : fc_T m d nb zb (pc + 3) ls (.ref (1000 + (200 + k)) :: st) sh I P Q) : fc_T m d nb zb pc ls (.ref (1000 + k) :: st) sh I P Q := fun p l e R s mm args below meth cd β D A as H locs cells slots Nt Zt lsA QF C hb h1 hW hS hl hF => by
  obtain ⟨hx, hbb, hml, hown, hts, hnm, hfr, hlo, hA, hE, hscr⟩ := id C
  exact vk_getf hx hbb (hE.1.1 k hk).2.2.1 hS hown (hts _ hw) (fun x h => h) hd (kk p l e R s mm args below meth cd β D A as H locs cells slots Nt Zt lsA QF C hb h1 hW hS hl hF)
theorem ft_strC {idx k : Nat} (hk : k < 12) (hw : Cond.fieldLink m.1.cls idx "java/lang/String" "coder" "B" ∈ fc_tbl) (hd : decode m.2.1 pc = .ok (.getfield idx, 3)) (kk : fc_T m d nb zb (pc + 3) ls (.int 0 :: st) sh I P Q) : fc_T m d nb zb pc ls (.ref (1000 + k) :: st) sh I P Q := fun p l e R s mm args below meth cd β D A as H locs cells slots Nt Zt lsA QF C hb h1 hW hS hl hF => by
  obtain ⟨hx, hbb, hml, hown, hts, hnm, hfr, hlo, hA, hE, hscr⟩ := id C
  exact vk_getf hx hbb (hE.1.1 k hk).2.1 hS hown (hts _ hw) (fun x h => h) hd (kk p l e R s mm args below meth cd β D A as H locs cells slots Nt Zt lsA QF C hb h1 hW hS hl hF)
theorem ft_strL {k : Nat} {v : Int32} (hk : k < 12) (hv : Int32.ofNat (fc_len.getD k 0) = v) (hd : decode m.2.1 pc = .ok (.arraylength, 1)) (kk : fc_T m d nb zb (pc + 1) ls (.int v :: st) sh I P Q) : fc_T m d nb zb pc ls (.ref (1000 + (200 + k)) :: st) sh I P Q := fun p l e R s mm args below meth cd β D A as H locs cells slots Nt Zt lsA QF C hb h1 hW hS hl hF => by
  obtain ⟨hx, hbb, hml, hown, hts, hnm, hfr, hlo, hA, hE, hscr⟩ := id C
  exact va_tlen hx hbb (hE.1.1 k hk).2.2.2 hS hv hd (kk p l e R s mm args below meth cd β D A as H locs cells slots Nt Zt lsA QF C hb h1 hW hS hl hF)
theorem ft_strB {k : Nat} {i : Int32} (hk : k < 12) (hi : vp_in i (fc_len.getD k 0)) (hd : decode m.2.1 pc = .ok (.baload, 1)) (kk : fc_T m d nb zb (pc + 1) ls (.int ((fc_byt.getD k []).getD i.toNatClampNeg 0) :: st) sh I P Q) : fc_T m d nb zb pc ls (.int i :: .ref (1000 + (200 + k)) :: st) sh I P Q := fun p l e R s mm args below meth cd β D A as H locs cells slots Nt Zt lsA QF C hb h1 hW hS hl hF => by
  obtain ⟨hx, hbb, hml, hown, hts, hnm, hfr, hlo, hA, hE, hscr⟩ := id C
  exact va_tb hx hbb (hE.1.1 k hk).2.2.2 hS hi rfl hd (kk p l e R s mm args below meth cd β D A as H locs cells slots Nt Zt lsA QF C hb h1 hW hS hl hF)
theorem ft_compact {idx : Nat} (hw : Cond.fieldLink m.1.cls idx "java/lang/String" "COMPACT_STRINGS" "Z" ∈ fc_tbl) (hd : decode m.2.1 pc = .ok (.getstatic idx, 3)) (kk : fc_T m d nb zb (pc + 3) ls (.int 1 :: st) sh I P Q) : fc_T m d nb zb pc ls st sh I P Q := fun p l e R s mm args below meth cd β D A as H locs cells slots Nt Zt lsA QF C hb h1 hW hS hl hF => by
  obtain ⟨hx, hbb, hml, hown, hts, hnm, hfr, hlo, hA, hE, hscr⟩ := id C
  exact va_gets hx hbb hE.2.2.2.2.1 hS hown (hts _ hw) (fun x h => h) hd (kk p l e R s mm args below meth cd β D A as H locs cells slots Nt Zt lsA QF C hb h1 hW hS hl hF)
theorem ft_fmt {idx : Nat} (hw : Cond.fieldLink m.1.cls idx "jdk/internal/util/Preconditions" "SIOOBE_FORMATTER" "Ljava/util/function/BiFunction;" ∈ fc_tbl) (hd : decode m.2.1 pc = .ok (.getstatic idx, 3)) (kk : ∀ v : Value, v = .null ∨ v = .ref 1300 → fc_T m d nb zb (pc + 3) ls (v :: st) sh I P Q) : fc_T m d nb zb pc ls st sh I P Q := fun p l e R s mm args below meth cd β D A as H locs cells slots Nt Zt lsA QF C hb h1 hW hS hl hF => by
  obtain ⟨hx, hbb, hml, hown, hts, hnm, hfr, hlo, hA, hE, hscr⟩ := id C
  rcases hE.2.2.2.2.2.1 with hZ | hZ
  · exact va_gets hx hbb hZ hS hown (hts _ hw) (fun x h => h) hd (kk .null (Or.inl rfl) p l e R s mm args below meth cd β D A as H locs cells slots Nt Zt lsA QF C hb h1 hW hS hl hF)
  · exact va_gets hx hbb hZ hS hown (hts _ hw) (fun x h => h) hd (kk (.ref 1300) (Or.inr rfl) p l e R s mm args below meth cd β D A as H locs cells slots Nt Zt lsA QF C hb h1 hW hS hl hF)
theorem ft_kab {idx : Nat} (hm : m.1.cls = "FloodCity$Roads" ∧ idx = 31) (hd : decode m.2.1 pc = .ok (.getstatic idx, 3)) (kk : fc_T m d nb zb (pc + 3) ls (.ref (1000 + 100) :: st) sh I P Q) : fc_T m d nb zb pc ls st sh I P Q := fun p l e R s mm args below meth cd β D A as H locs cells slots Nt Zt lsA QF C hb h1 hW hS hl hF => by
  obtain ⟨hx, hbb, hml, hown, hts, hnm, hfr, hlo, hA, hE, hscr⟩ := id C
  obtain ⟨hm1, rfl⟩ := hm
  rw [hm1] at hown
  exact va_getsN hx hbb hE.2.2.1 hS hown (va_Nw.use rfl hE.2.2.2.2.2.2.2) (fun x h => h) hd (kk p l e R s mm args below meth cd β D A as H locs cells slots Nt Zt lsA QF C hb h1 hW hS hl hF)
theorem ft_kabI {i : Int32} (hi : vp_in i 6) (hd : decode m.2.1 pc = .ok (.iaload, 1)) (kk : fc_T m d nb zb (pc + 1) ls (.int (fc_kab.getD i.toNatClampNeg 0) :: st) sh I P Q) : fc_T m d nb zb pc ls (.int i :: .ref (1000 + 100) :: st) sh I P Q := fun p l e R s mm args below meth cd β D A as H locs cells slots Nt Zt lsA QF C hb h1 hW hS hl hF => by
  obtain ⟨hx, hbb, hml, hown, hts, hnm, hfr, hlo, hA, hE, hscr⟩ := id C
  exact va_ti hx hbb hE.2.2.2.1 hS hi rfl hd (kk p l e R s mm args below meth cd β D A as H locs cells slots Nt Zt lsA QF C hb h1 hW hS hl hF)
theorem ft_sld {i : Int32} {L : Nat} {xs : Nat → Int32} (hm : m.2.2.2.2 = some (L, xs)) (hi : vp_in i L) (hd : decode m.2.1 pc = .ok (.iaload, 1)) (kk : fc_T m d nb zb (pc + 1) ls (.int (xs i.toNatClampNeg) :: st) sh I P Q) : fc_T m d nb zb pc ls (.int i :: .ref (1000 + 400) :: st) sh I P Q := fun p l e R s mm args below meth cd β D A as H locs cells slots Nt Zt lsA QF C hb h1 hW hS hl hF => by
  obtain ⟨hx, hbb, hml, hown, hts, hnm, hfr, hlo, hA, hE, hscr⟩ := id C
  obtain ⟨z1, z2, z3⟩ := hscr L xs hm
  exact va_sld hx hbb z1 z2 z3 hS hi hd (kk p l e R s mm args below meth cd β D A as H locs cells slots Nt Zt lsA QF C hb h1 hW hS hl hF)
theorem ft_slen {L : Nat} {xs : Nat → Int32} {v : Int32} (hm : m.2.2.2.2 = some (L, xs)) (hv : Int32.ofNat L = v) (hd : decode m.2.1 pc = .ok (.arraylength, 1)) (kk : fc_T m d nb zb (pc + 1) ls (.int v :: st) sh I P Q) : fc_T m d nb zb pc ls (.ref (1000 + 400) :: st) sh I P Q := fun p l e R s mm args below meth cd β D A as H locs cells slots Nt Zt lsA QF C hb h1 hW hS hl hF => by
  obtain ⟨hx, hbb, hml, hown, hts, hnm, hfr, hlo, hA, hE, hscr⟩ := id C
  obtain ⟨z1, z2, z3⟩ := hscr L xs hm
  subst hv
  exact va_slen hx hbb z1 z2 z3 hS hd (kk p l e R s mm args below meth cd β D A as H locs cells slots Nt Zt lsA QF C hb h1 hW hS hl hF)
end OUT
end
section
theorem fc_b0 {w : Cond} (i : Nat) (h : (k2_sels lw_privs)[i]? = some w) (g : goodWord w = true) : w ∈ fc_tbl := List.mem_filter.mpr ⟨List.mem_append_left _ (List.mem_of_getElem? h), g⟩
theorem fc_b1 {w : Cond} (i : Nat) (h : tables_1_1[i]? = some w) (g : goodWord w = true) : w ∈ fc_tbl := List.mem_filter.mpr ⟨List.mem_append_right _ (List.mem_append_left _ (List.mem_of_getElem? h)), g⟩
theorem fc_b2 {w : Cond} (i : Nat) (h : tables_1_2[i]? = some w) (g : goodWord w = true) : w ∈ fc_tbl := List.mem_filter.mpr ⟨List.mem_append_right _ (List.mem_append_right _ (List.mem_append_left _ (List.mem_of_getElem? h))), g⟩
theorem fc_b3 {w : Cond} (i : Nat) (h : tables_1_3[i]? = some w) (g : goodWord w = true) : w ∈ fc_tbl := List.mem_filter.mpr ⟨List.mem_append_right _ (List.mem_append_right _ (List.mem_append_right _ (List.mem_append_left _ (List.mem_of_getElem? h)))), g⟩
theorem fc_b4 {w : Cond} (i : Nat) (h : tables_1_4[i]? = some w) (g : goodWord w = true) : w ∈ fc_tbl := List.mem_filter.mpr ⟨List.mem_append_right _ (List.mem_append_right _ (List.mem_append_right _ (List.mem_append_right _ (List.mem_append_left _ (List.mem_of_getElem? h))))), g⟩
theorem fc_b5 {w : Cond} (i : Nat) (h : tables_1_5[i]? = some w) (g : goodWord w = true) : w ∈ fc_tbl := List.mem_filter.mpr ⟨List.mem_append_right _ (List.mem_append_right _ (List.mem_append_right _ (List.mem_append_right _ (List.mem_append_right _ (List.mem_append_left _ (List.mem_of_getElem? h)))))), g⟩
theorem fc_b6 {w : Cond} (i : Nat) (h : tables_1_6[i]? = some w) (g : goodWord w = true) : w ∈ fc_tbl := List.mem_filter.mpr ⟨List.mem_append_right _ (List.mem_append_right _ (List.mem_append_right _ (List.mem_append_right _ (List.mem_append_right _ (List.mem_append_right _ (List.mem_of_getElem? h)))))), g⟩
abbrev J0_charAt_5068e : fc_MI := (yJ0_charAt_5068e, cJ0_charAt_5068e, 2, (some .char), none)
theorem mf_J0_charAt_5068e : fc_mf J0_charAt_5068e 1 := ⟨fc_b1 9 rfl rfl, fc_b2 29 rfl rfl, ⟨by decide +kernel, by decide +kernel, by decide +kernel⟩, by decide⟩
abbrev J0_checkIndex_df160 : fc_MI := (yJ0_checkIndex_df160, cJ0_checkIndex_df160, 2, (none : Option ClassFile.FieldType), none)
theorem mf_J0_checkIndex_df160 : fc_mf J0_checkIndex_df160 2 := ⟨fc_b1 9 rfl rfl, fc_b2 39 rfl rfl, ⟨by decide +kernel, by decide +kernel, by decide +kernel⟩, by decide⟩
abbrev J0_coder_7d493 : fc_MI := (yJ0_coder_7d493, cJ0_coder_7d493, 1, (some .byte), none)
theorem mf_J0_coder_7d493 : fc_mf J0_coder_7d493 0 := ⟨fc_b1 9 rfl rfl, fc_b2 23 rfl rfl, ⟨by decide +kernel, by decide +kernel, by decide +kernel⟩, by decide⟩
abbrev J0_isLatin1_aae02 : fc_MI := (yJ0_isLatin1_aae02, cJ0_isLatin1_aae02, 1, (some .boolean), none)
theorem mf_J0_isLatin1_aae02 : fc_mf J0_isLatin1_aae02 0 := ⟨fc_b1 9 rfl rfl, fc_b2 33 rfl rfl, ⟨by decide +kernel, by decide +kernel, by decide +kernel⟩, by decide⟩
abbrev J0_length_8abf5 : fc_MI := (yJ0_length_8abf5, cJ0_length_8abf5, 1, (some .int), none)
theorem mf_J0_length_8abf5 : fc_mf J0_length_8abf5 0 := ⟨fc_b1 9 rfl rfl, fc_b2 19 rfl rfl, ⟨by decide +kernel, by decide +kernel, by decide +kernel⟩, by decide⟩
abbrev J1_charAt_3b067 : fc_MI := (yJ1_charAt_3b067, cJ1_charAt_3b067, 2, (some .char), none)
theorem mf_J1_charAt_3b067 : fc_mf J1_charAt_3b067 2 := ⟨fc_b1 10 rfl rfl, fc_b2 36 rfl rfl, ⟨by decide +kernel, by decide +kernel, by decide +kernel⟩, by decide⟩
abbrev J2_charAt_3b067 : fc_MI := (yJ2_charAt_3b067, cJ2_charAt_3b067, 2, (some .char), none)
theorem mf_J2_charAt_3b067 : fc_mf J2_charAt_3b067 2 := ⟨fc_b1 12 rfl rfl, fc_b2 47 rfl rfl, ⟨by decide +kernel, by decide +kernel, by decide +kernel⟩, by decide⟩
abbrev J2_checkIndex_2214a : fc_MI := (yJ2_checkIndex_2214a, cJ2_checkIndex_2214a, 2, (none : Option ClassFile.FieldType), none)
theorem mf_J2_checkIndex_2214a : fc_mf J2_checkIndex_2214a 2 := ⟨fc_b1 12 rfl rfl, fc_b2 50 rfl rfl, ⟨by decide +kernel, by decide +kernel, by decide +kernel⟩, by decide⟩
abbrev J2_getChar_3b067 : fc_MI := (yJ2_getChar_3b067, cJ2_getChar_3b067, 2, (some .char), none)
theorem mf_J2_getChar_3b067 : fc_mf J2_getChar_3b067 2 := ⟨fc_b1 12 rfl rfl, fc_b2 57 rfl rfl, ⟨by decide +kernel, by decide +kernel, by decide +kernel⟩, by decide⟩
abbrev J2_length_9d52b : fc_MI := (yJ2_length_9d52b, cJ2_length_9d52b, 1, (some .int), none)
theorem mf_J2_length_9d52b : fc_mf J2_length_9d52b 1 := ⟨fc_b1 12 rfl rfl, fc_b2 53 rfl rfl, ⟨by decide +kernel, by decide +kernel, by decide +kernel⟩, by decide⟩
abbrev J3_checkIndex_8e157 : fc_MI := (yJ3_checkIndex_8e157, cJ3_checkIndex_8e157, 3, (some .int), none)
theorem mf_J3_checkIndex_8e157 : fc_mf J3_checkIndex_8e157 3 := ⟨fc_b1 11 rfl rfl, fc_b2 44 rfl rfl, ⟨by decide +kernel, by decide +kernel, by decide +kernel⟩, by decide⟩
abbrev J6_bitCount_0f7a4 : fc_MI := (yJ6_bitCount_0f7a4, cJ6_bitCount_0f7a4, 1, (some .int), none)
theorem mf_J6_bitCount_0f7a4 : fc_mf J6_bitCount_0f7a4 1 := ⟨fc_b1 20 rfl rfl, fc_b4 79 rfl rfl, ⟨by decide +kernel, by decide +kernel, by decide +kernel⟩, by decide⟩
abbrev J7_fill_53178 : fc_MI := (yJ7_fill_53178, cJ7_fill_53178, 4, (none : Option ClassFile.FieldType), none)
theorem mf_J7_fill_53178 : fc_mf J7_fill_53178 2 := ⟨fc_b1 3 rfl rfl, fc_b1 37 rfl rfl, ⟨by decide +kernel, by decide +kernel, by decide +kernel⟩, by decide⟩
abbrev J9_max_7cf53 : fc_MI := (yJ9_max_7cf53, cJ9_max_7cf53, 2, (some .int), none)
theorem mf_J9_max_7cf53 : fc_mf J9_max_7cf53 2 := ⟨fc_b1 18 rfl rfl, fc_b4 22 rfl rfl, ⟨by decide +kernel, by decide +kernel, by decide +kernel⟩, by decide⟩
abbrev J9_min_7cf53 : fc_MI := (yJ9_min_7cf53, cJ9_min_7cf53, 2, (some .int), none)
theorem mf_J9_min_7cf53 : fc_mf J9_min_7cf53 2 := ⟨fc_b1 18 rfl rfl, fc_b4 3 rfl rfl, ⟨by decide +kernel, by decide +kernel, by decide +kernel⟩, by decide⟩
abbrev X0_append : fc_MI := (yX0_append, cX0_append, 5, (some .int), none)
theorem mf_X0_append : fc_mf X0_append 2 := ⟨fc_b1 7 rfl rfl, fc_b3 200 rfl rfl, ⟨by decide +kernel, by decide +kernel, by decide +kernel⟩, by decide⟩
abbrev X0_init : fc_MI := (yX0_init, cX0_init, 1, (none : Option ClassFile.FieldType), none)
theorem mf_X0_init : fc_mf X0_init 0 := ⟨fc_b1 7 rfl rfl, fc_b1 177 rfl rfl, ⟨by decide +kernel, by decide +kernel, by decide +kernel⟩, by decide⟩
abbrev X0_joined : fc_MI := (yX0_joined, cX0_joined, 3, (some .int), none)
theorem mf_X0_joined : fc_mf X0_joined 3 := ⟨fc_b1 7 rfl rfl, fc_b3 228 rfl rfl, ⟨by decide +kernel, by decide +kernel, by decide +kernel⟩, by decide⟩
abbrev X0_learn : fc_MI := (yX0_learn, cX0_learn, 2, (some .int), none)
theorem mf_X0_learn : fc_mf X0_learn 0 := ⟨fc_b1 7 rfl rfl, fc_b2 67 rfl rfl, ⟨by decide +kernel, by decide +kernel, by decide +kernel⟩, by decide⟩
abbrev X0_worth : fc_MI := (yX0_worth, cX0_worth, 9, (some .int), none)
theorem mf_X0_worth : fc_mf X0_worth 2 := ⟨fc_b1 7 rfl rfl, fc_b3 225 rfl rfl, ⟨by decide +kernel, by decide +kernel, by decide +kernel⟩, by decide⟩
abbrev X0_write : fc_MI := (yX0_write, cX0_write, 3, (none : Option ClassFile.FieldType), none)
theorem mf_X0_write : fc_mf X0_write 1 := ⟨fc_b1 7 rfl rfl, fc_b2 15 rfl rfl, ⟨by decide +kernel, by decide +kernel, by decide +kernel⟩, by decide⟩
abbrev X10_best : fc_MI := (yX10_best, cX10_best, 3, (some .long), none)
theorem mf_X10_best : fc_mf X10_best 1 := ⟨fc_b1 1 rfl rfl, fc_b4 76 rfl rfl, ⟨by decide +kernel, by decide +kernel, by decide +kernel⟩, by decide⟩
abbrev X10_bestCall : fc_MI := (yX10_bestCall, cX10_bestCall, 2, (some .int), none)
theorem mf_X10_bestCall : fc_mf X10_bestCall 1 := ⟨fc_b1 1 rfl rfl, fc_b4 101 rfl rfl, ⟨by decide +kernel, by decide +kernel, by decide +kernel⟩, by decide⟩
abbrev X10_bus : fc_MI := (yX10_bus, cX10_bus, 5, (some .int), none)
theorem mf_X10_bus : fc_mf X10_bus 4 := ⟨fc_b1 1 rfl rfl, fc_b3 114 rfl rfl, ⟨by decide +kernel, by decide +kernel, by decide +kernel⟩, by decide⟩
abbrev X10_busTold : fc_MI := (yX10_busTold, cX10_busTold, 3, (some .int), none)
theorem mf_X10_busTold : fc_mf X10_busTold 2 := ⟨fc_b1 1 rfl rfl, fc_b3 151 rfl rfl, ⟨by decide +kernel, by decide +kernel, by decide +kernel⟩, by decide⟩
abbrev X10_call : fc_MI := (yX10_call, cX10_call, 2, (some .int), none)
theorem mf_X10_call : fc_mf X10_call 1 := ⟨fc_b1 1 rfl rfl, fc_b3 232 rfl rfl, ⟨by decide +kernel, by decide +kernel, by decide +kernel⟩, by decide⟩
abbrev X10_cell : fc_MI := (yX10_cell, cX10_cell, 4, (some .int), none)
theorem mf_X10_cell : fc_mf X10_cell 3 := ⟨fc_b1 1 rfl rfl, fc_b4 123 rfl rfl, ⟨by decide +kernel, by decide +kernel, by decide +kernel⟩, by decide⟩
abbrev X10_copy : fc_MI := (yX10_copy, cX10_copy, 6, (some .int), none)
theorem mf_X10_copy : fc_mf X10_copy 5 := ⟨fc_b1 1 rfl rfl, fc_b4 131 rfl rfl, ⟨by decide +kernel, by decide +kernel, by decide +kernel⟩, by decide⟩
abbrev X10_count : fc_MI := (yX10_count, cX10_count, 2, (some .int), none)
theorem mf_X10_count : fc_mf X10_count 1 := ⟨fc_b1 1 rfl rfl, fc_b4 105 rfl rfl, ⟨by decide +kernel, by decide +kernel, by decide +kernel⟩, by decide⟩
abbrev X10_end : fc_MI := (yX10_end, cX10_end, 3, (some .int), none)
theorem mf_X10_end : fc_mf X10_end 1 := ⟨fc_b1 1 rfl rfl, fc_b3 155 rfl rfl, ⟨by decide +kernel, by decide +kernel, by decide +kernel⟩, by decide⟩
abbrev X10_feed : fc_MI := (yX10_feed, cX10_feed, 4, (some .int), none)
theorem mf_X10_feed : fc_mf X10_feed 2 := ⟨fc_b1 1 rfl rfl, fc_b3 196 rfl rfl, ⟨by decide +kernel, by decide +kernel, by decide +kernel⟩, by decide⟩
abbrev X10_force : fc_MI := (yX10_force, cX10_force, 3, (some .int), none)
theorem mf_X10_force : fc_mf X10_force 1 := ⟨fc_b1 1 rfl rfl, fc_b3 208 rfl rfl, ⟨by decide +kernel, by decide +kernel, by decide +kernel⟩, by decide⟩
abbrev X10_foresee : fc_MI := (yX10_foresee, cX10_foresee, 9, (some .long), none)
theorem mf_X10_foresee : fc_mf X10_foresee 2 := ⟨fc_b1 1 rfl rfl, fc_b4 52 rfl rfl, ⟨by decide +kernel, by decide +kernel, by decide +kernel⟩, by decide⟩
abbrev X10_good : fc_MI := (yX10_good, cX10_good, 3, (some .int), none)
theorem mf_X10_good : fc_mf X10_good 1 := ⟨fc_b1 1 rfl rfl, fc_b3 236 rfl rfl, ⟨by decide +kernel, by decide +kernel, by decide +kernel⟩, by decide⟩
abbrev X10_inWater : fc_MI := (yX10_inWater, cX10_inWater, 1, (some .int), none)
theorem mf_X10_inWater : fc_mf X10_inWater 0 := ⟨fc_b1 1 rfl rfl, fc_b4 44 rfl rfl, ⟨by decide +kernel, by decide +kernel, by decide +kernel⟩, by decide⟩
abbrev X10_init : fc_MI := (yX10_init, cX10_init, 1, (none : Option ClassFile.FieldType), none)
theorem mf_X10_init : fc_mf X10_init 0 := ⟨fc_b1 1 rfl rfl, fc_b1 25 rfl rfl, ⟨by decide +kernel, by decide +kernel, by decide +kernel⟩, by decide⟩
abbrev X10_isNoGoal : fc_MI := (yX10_isNoGoal, cX10_isNoGoal, 2, (some .boolean), none)
theorem mf_X10_isNoGoal : fc_mf X10_isNoGoal 1 := ⟨fc_b1 1 rfl rfl, fc_b3 94 rfl rfl, ⟨by decide +kernel, by decide +kernel, by decide +kernel⟩, by decide⟩
abbrev X10_isNoRoad : fc_MI := (yX10_isNoRoad, cX10_isNoRoad, 2, (some .boolean), none)
theorem mf_X10_isNoRoad : fc_mf X10_isNoRoad 1 := ⟨fc_b1 1 rfl rfl, fc_b3 106 rfl rfl, ⟨by decide +kernel, by decide +kernel, by decide +kernel⟩, by decide⟩
abbrev X10_isNoSheet : fc_MI := (yX10_isNoSheet, cX10_isNoSheet, 1, (some .boolean), none)
theorem mf_X10_isNoSheet : fc_mf X10_isNoSheet 1 := ⟨fc_b1 1 rfl rfl, fc_b4 115 rfl rfl, ⟨by decide +kernel, by decide +kernel, by decide +kernel⟩, by decide⟩
abbrev X10_isNoShelter : fc_MI := (yX10_isNoShelter, cX10_isNoShelter, 2, (some .boolean), none)
theorem mf_X10_isNoShelter : fc_mf X10_isNoShelter 1 := ⟨fc_b1 1 rfl rfl, fc_b3 118 rfl rfl, ⟨by decide +kernel, by decide +kernel, by decide +kernel⟩, by decide⟩
abbrev X10_isNoTrack : fc_MI := (yX10_isNoTrack, cX10_isNoTrack, 1, (some .boolean), none)
theorem mf_X10_isNoTrack : fc_mf X10_isNoTrack 1 := ⟨fc_b1 1 rfl rfl, fc_b3 162 rfl rfl, ⟨by decide +kernel, by decide +kernel, by decide +kernel⟩, by decide⟩
abbrev X10_isNoZone : fc_MI := (yX10_isNoZone, cX10_isNoZone, 2, (some .boolean), none)
theorem mf_X10_isNoZone : fc_mf X10_isNoZone 1 := ⟨fc_b1 1 rfl rfl, fc_b3 90 rfl rfl, ⟨by decide +kernel, by decide +kernel, by decide +kernel⟩, by decide⟩
abbrev X10_isOutside : fc_MI := (yX10_isOutside, cX10_isOutside, 3, (some .boolean), none)
theorem mf_X10_isOutside : fc_mf X10_isOutside 3 := ⟨fc_b1 1 rfl rfl, fc_b3 77 rfl rfl, ⟨by decide +kernel, by decide +kernel, by decide +kernel⟩, by decide⟩
abbrev X10_known : fc_MI := (yX10_known, cX10_known, 5, (some .int), none)
theorem mf_X10_known : fc_mf X10_known 4 := ⟨fc_b1 1 rfl rfl, fc_b3 180 rfl rfl, ⟨by decide +kernel, by decide +kernel, by decide +kernel⟩, by decide⟩
abbrev X10_likely : fc_MI := (yX10_likely, cX10_likely, 4, (some .int), none)
theorem mf_X10_likely : fc_mf X10_likely 2 := ⟨fc_b1 1 rfl rfl, fc_b3 159 rfl rfl, ⟨by decide +kernel, by decide +kernel, by decide +kernel⟩, by decide⟩
abbrev X10_news : fc_MI := (yX10_news, cX10_news, 6, (some .int), none)
theorem mf_X10_news : fc_mf X10_news 5 := ⟨fc_b1 1 rfl rfl, fc_b3 170 rfl rfl, ⟨by decide +kernel, by decide +kernel, by decide +kernel⟩, by decide⟩
abbrev X10_newsRow : fc_MI := (yX10_newsRow, cX10_newsRow, 10, (some .int), none)
theorem mf_X10_newsRow : fc_mf X10_newsRow 5 := ⟨fc_b1 1 rfl rfl, fc_b4 140 rfl rfl, ⟨by decide +kernel, by decide +kernel, by decide +kernel⟩, by decide⟩
abbrev X10_pass : fc_MI := (yX10_pass, cX10_pass, 3, (some .int), none)
theorem mf_X10_pass : fc_mf X10_pass 1 := ⟨fc_b1 1 rfl rfl, fc_b4 8 rfl rfl, ⟨by decide +kernel, by decide +kernel, by decide +kernel⟩, by decide⟩
abbrev X10_road : fc_MI := (yX10_road, cX10_road, 5, (some .int), none)
theorem mf_X10_road : fc_mf X10_road 4 := ⟨fc_b1 1 rfl rfl, fc_b3 86 rfl rfl, ⟨by decide +kernel, by decide +kernel, by decide +kernel⟩, by decide⟩
abbrev X10_roadTold : fc_MI := (yX10_roadTold, cX10_roadTold, 3, (some .int), none)
theorem mf_X10_roadTold : fc_mf X10_roadTold 2 := ⟨fc_b1 1 rfl rfl, fc_b3 138 rfl rfl, ⟨by decide +kernel, by decide +kernel, by decide +kernel⟩, by decide⟩
abbrev X10_says : fc_MI := (yX10_says, cX10_says, 3, (some .long), none)
theorem mf_X10_says : fc_mf X10_says 2 := ⟨fc_b1 1 rfl rfl, fc_b3 212 rfl rfl, ⟨by decide +kernel, by decide +kernel, by decide +kernel⟩, by decide⟩
abbrev X10_sheet : fc_MI := (yX10_sheet, cX10_sheet, 4, (some .int), none)
theorem mf_X10_sheet : fc_mf X10_sheet 3 := ⟨fc_b1 1 rfl rfl, fc_b4 112 rfl rfl, ⟨by decide +kernel, by decide +kernel, by decide +kernel⟩, by decide⟩
abbrev X10_shelter : fc_MI := (yX10_shelter, cX10_shelter, 3, (some .int), none)
theorem mf_X10_shelter : fc_mf X10_shelter 1 := ⟨fc_b1 1 rfl rfl, fc_b3 82 rfl rfl, ⟨by decide +kernel, by decide +kernel, by decide +kernel⟩, by decide⟩
abbrev X10_shelterTold : fc_MI := (yX10_shelterTold, cX10_shelterTold, 3, (some .int), none)
theorem mf_X10_shelterTold : fc_mf X10_shelterTold 2 := ⟨fc_b1 1 rfl rfl, fc_b3 134 rfl rfl, ⟨by decide +kernel, by decide +kernel, by decide +kernel⟩, by decide⟩
abbrev X10_sum : fc_MI := (yX10_sum, cX10_sum, 6, (some .int), none)
theorem mf_X10_sum : fc_mf X10_sum 1 := ⟨fc_b1 1 rfl rfl, fc_b4 108 rfl rfl, ⟨by decide +kernel, by decide +kernel, by decide +kernel⟩, by decide⟩
abbrev X10_taken : fc_MI := (yX10_taken, cX10_taken, 3, (some .int), none)
theorem mf_X10_taken : fc_mf X10_taken 2 := ⟨fc_b1 1 rfl rfl, fc_b4 144 rfl rfl, ⟨by decide +kernel, by decide +kernel, by decide +kernel⟩, by decide⟩
abbrev X10_text : fc_MI := (yX10_text, cX10_text, 1, (some .int), none)
theorem mf_X10_text : fc_mf X10_text 0 := ⟨fc_b1 1 rfl rfl, fc_b3 204 rfl rfl, ⟨by decide +kernel, by decide +kernel, by decide +kernel⟩, by decide⟩
abbrev X10_truth : fc_MI := (yX10_truth, cX10_truth, 3, (some .int), none)
theorem mf_X10_truth : fc_mf X10_truth 1 := ⟨fc_b1 1 rfl rfl, fc_b3 166 rfl rfl, ⟨by decide +kernel, by decide +kernel, by decide +kernel⟩, by decide⟩
abbrev X10_turn : fc_MI := (yX10_turn, cX10_turn, 2, (some .int), none)
theorem mf_X10_turn : fc_mf X10_turn 1 := ⟨fc_b1 1 rfl rfl, fc_b3 110 rfl rfl, ⟨by decide +kernel, by decide +kernel, by decide +kernel⟩, by decide⟩
abbrev X10_use : fc_MI := (yX10_use, cX10_use, 4, (some .int), none)
theorem mf_X10_use : fc_mf X10_use 1 := ⟨fc_b1 1 rfl rfl, fc_b3 102 rfl rfl, ⟨by decide +kernel, by decide +kernel, by decide +kernel⟩, by decide⟩
abbrev X10_zone : fc_MI := (yX10_zone, cX10_zone, 5, (some .int), none)
theorem mf_X10_zone : fc_mf X10_zone 3 := ⟨fc_b1 1 rfl rfl, fc_b3 74 rfl rfl, ⟨by decide +kernel, by decide +kernel, by decide +kernel⟩, by decide⟩
abbrev X10_zoneTold : fc_MI := (yX10_zoneTold, cX10_zoneTold, 3, (some .int), none)
theorem mf_X10_zoneTold : fc_mf X10_zoneTold 2 := ⟨fc_b1 1 rfl rfl, fc_b3 126 rfl rfl, ⟨by decide +kernel, by decide +kernel, by decide +kernel⟩, by decide⟩
abbrev X11_ahead : fc_MI := (yX11_ahead, cX11_ahead, 3, (some .boolean), none)
theorem mf_X11_ahead : fc_mf X11_ahead 1 := ⟨fc_b1 17 rfl rfl, fc_b5 83 rfl rfl, ⟨by decide +kernel, by decide +kernel, by decide +kernel⟩, by decide⟩
abbrev X11_await : fc_MI := (yX11_await, cX11_await, 2, (none : Option ClassFile.FieldType), none)
theorem mf_X11_await : fc_mf X11_await 1 := ⟨fc_b1 17 rfl rfl, fc_b5 87 rfl rfl, ⟨by decide +kernel, by decide +kernel, by decide +kernel⟩, by decide⟩
abbrev X11_best : fc_MI := (yX11_best, cX11_best, 9, (some .long), none)
theorem mf_X11_best : fc_mf X11_best 1 := ⟨fc_b1 17 rfl rfl, fc_b6 174 rfl rfl, ⟨by decide +kernel, by decide +kernel, by decide +kernel⟩, by decide⟩
abbrev X11_bestCall : fc_MI := (yX11_bestCall, cX11_bestCall, 2, (some .int), none)
theorem mf_X11_bestCall : fc_mf X11_bestCall 1 := ⟨fc_b1 17 rfl rfl, fc_b6 193 rfl rfl, ⟨by decide +kernel, by decide +kernel, by decide +kernel⟩, by decide⟩
abbrev X11_between : fc_MI := (yX11_between, cX11_between, 2, (some .boolean), none)
theorem mf_X11_between : fc_mf X11_between 0 := ⟨fc_b1 17 rfl rfl, fc_b5 91 rfl rfl, ⟨by decide +kernel, by decide +kernel, by decide +kernel⟩, by decide⟩
abbrev X11_bringBack : fc_MI := (yX11_bringBack, cX11_bringBack, 2, (none : Option ClassFile.FieldType), none)
theorem mf_X11_bringBack : fc_mf X11_bringBack 0 := ⟨fc_b1 17 rfl rfl, fc_b6 170 rfl rfl, ⟨by decide +kernel, by decide +kernel, by decide +kernel⟩, by decide⟩
abbrev X11_bus : fc_MI := (yX11_bus, cX11_bus, 5, (some .int), none)
theorem mf_X11_bus : fc_mf X11_bus 4 := ⟨fc_b1 17 rfl rfl, fc_b4 199 rfl rfl, ⟨by decide +kernel, by decide +kernel, by decide +kernel⟩, by decide⟩
abbrev X11_busTold : fc_MI := (yX11_busTold, cX11_busTold, 3, (some .int), none)
theorem mf_X11_busTold : fc_mf X11_busTold 2 := ⟨fc_b1 17 rfl rfl, fc_b4 229 rfl rfl, ⟨by decide +kernel, by decide +kernel, by decide +kernel⟩, by decide⟩
abbrev X11_call : fc_MI := (yX11_call, cX11_call, 2, (some .int), none)
theorem mf_X11_call : fc_mf X11_call 1 := ⟨fc_b1 17 rfl rfl, fc_b6 111 rfl rfl, ⟨by decide +kernel, by decide +kernel, by decide +kernel⟩, by decide⟩
abbrev X11_canTake : fc_MI := (yX11_canTake, cX11_canTake, 7, (some .int), none)
theorem mf_X11_canTake : fc_mf X11_canTake 3 := ⟨fc_b1 17 rfl rfl, fc_b4 225 rfl rfl, ⟨by decide +kernel, by decide +kernel, by decide +kernel⟩, by decide⟩
abbrev X11_cell : fc_MI := (yX11_cell, cX11_cell, 4, (some .int), none)
theorem mf_X11_cell : fc_mf X11_cell 3 := ⟨fc_b1 17 rfl rfl, fc_b6 213 rfl rfl, ⟨by decide +kernel, by decide +kernel, by decide +kernel⟩, by decide⟩
abbrev X11_choose : fc_MI := (yX11_choose, cX11_choose, 8, (some .int), none)
theorem mf_X11_choose : fc_mf X11_choose 3 := ⟨fc_b1 17 rfl rfl, fc_b6 185 rfl rfl, ⟨by decide +kernel, by decide +kernel, by decide +kernel⟩, by decide⟩
abbrev X11_closes : fc_MI := (yX11_closes, cX11_closes, 1, (some .boolean), none)
theorem mf_X11_closes : fc_mf X11_closes 0 := ⟨fc_b1 17 rfl rfl, fc_b5 95 rfl rfl, ⟨by decide +kernel, by decide +kernel, by decide +kernel⟩, by decide⟩
abbrev X11_copy : fc_MI := (yX11_copy, cX11_copy, 7, (some .int), none)
theorem mf_X11_copy : fc_mf X11_copy 5 := ⟨fc_b1 17 rfl rfl, fc_b6 220 rfl rfl, ⟨by decide +kernel, by decide +kernel, by decide +kernel⟩, by decide⟩
abbrev X11_count : fc_MI := (yX11_count, cX11_count, 2, (some .int), none)
theorem mf_X11_count : fc_mf X11_count 1 := ⟨fc_b1 17 rfl rfl, fc_b6 197 rfl rfl, ⟨by decide +kernel, by decide +kernel, by decide +kernel⟩, by decide⟩
abbrev X11_countBits : fc_MI := (yX11_countBits, cX11_countBits, 3, (some .int), none)
theorem mf_X11_countBits : fc_mf X11_countBits 1 := ⟨fc_b1 17 rfl rfl, fc_b6 181 rfl rfl, ⟨by decide +kernel, by decide +kernel, by decide +kernel⟩, by decide⟩
abbrev X11_cutTo : fc_MI := (yX11_cutTo, cX11_cutTo, 2, (some .int), none)
theorem mf_X11_cutTo : fc_mf X11_cutTo 2 := ⟨fc_b1 17 rfl rfl, fc_b6 216 rfl rfl, ⟨by decide +kernel, by decide +kernel, by decide +kernel⟩, by decide⟩
abbrev X11_doAll : fc_MI := (yX11_doAll, cX11_doAll, 2, (none : Option ClassFile.FieldType), none)
theorem mf_X11_doAll : fc_mf X11_doAll 1 := ⟨fc_b1 17 rfl rfl, fc_b5 72 rfl rfl, ⟨by decide +kernel, by decide +kernel, by decide +kernel⟩, by decide⟩
abbrev X11_done : fc_MI := (yX11_done, cX11_done, 3, (some .int), none)
theorem mf_X11_done : fc_mf X11_done 3 := ⟨fc_b1 17 rfl rfl, fc_b5 114 rfl rfl, ⟨by decide +kernel, by decide +kernel, by decide +kernel⟩, by decide⟩
abbrev X11_emit : fc_MI := (yX11_emit, cX11_emit, 2, (none : Option ClassFile.FieldType), none)
theorem mf_X11_emit : fc_mf X11_emit 1 := ⟨fc_b1 17 rfl rfl, fc_b5 68 rfl rfl, ⟨by decide +kernel, by decide +kernel, by decide +kernel⟩, by decide⟩
abbrev X11_end : fc_MI := (yX11_end, cX11_end, 3, (some .int), none)
theorem mf_X11_end : fc_mf X11_end 1 := ⟨fc_b1 17 rfl rfl, fc_b4 238 rfl rfl, ⟨by decide +kernel, by decide +kernel, by decide +kernel⟩, by decide⟩
abbrev X11_feed : fc_MI := (yX11_feed, cX11_feed, 5, (some .int), none)
theorem mf_X11_feed : fc_mf X11_feed 2 := ⟨fc_b1 17 rfl rfl, fc_b5 27 rfl rfl, ⟨by decide +kernel, by decide +kernel, by decide +kernel⟩, by decide⟩
abbrev X11_force : fc_MI := (yX11_force, cX11_force, 3, (some .int), none)
theorem mf_X11_force : fc_mf X11_force 1 := ⟨fc_b1 17 rfl rfl, fc_b5 99 rfl rfl, ⟨by decide +kernel, by decide +kernel, by decide +kernel⟩, by decide⟩
abbrev X11_foresee : fc_MI := (yX11_foresee, cX11_foresee, 4, (some .long), none)
theorem mf_X11_foresee : fc_mf X11_foresee 2 := ⟨fc_b1 17 rfl rfl, fc_b6 153 rfl rfl, ⟨by decide +kernel, by decide +kernel, by decide +kernel⟩, by decide⟩
abbrev X11_good : fc_MI := (yX11_good, cX11_good, 4, (some .int), none)
theorem mf_X11_good : fc_mf X11_good 1 := ⟨fc_b1 17 rfl rfl, fc_b6 115 rfl rfl, ⟨by decide +kernel, by decide +kernel, by decide +kernel⟩, by decide⟩
abbrev X11_inWater : fc_MI := (yX11_inWater, cX11_inWater, 1, (some .int), none)
theorem mf_X11_inWater : fc_mf X11_inWater 0 := ⟨fc_b1 17 rfl rfl, fc_b6 145 rfl rfl, ⟨by decide +kernel, by decide +kernel, by decide +kernel⟩, by decide⟩
abbrev X11_inWaterOf : fc_MI := (yX11_inWaterOf, cX11_inWaterOf, 4, (some .int), none)
theorem mf_X11_inWaterOf : fc_mf X11_inWaterOf 1 := ⟨fc_b1 17 rfl rfl, fc_b6 149 rfl rfl, ⟨by decide +kernel, by decide +kernel, by decide +kernel⟩, by decide⟩
abbrev X11_init : fc_MI := (yX11_init, cX11_init, 1, (none : Option ClassFile.FieldType), none)
theorem mf_X11_init : fc_mf X11_init 0 := ⟨fc_b1 17 rfl rfl, fc_b5 119 rfl rfl, ⟨by decide +kernel, by decide +kernel, by decide +kernel⟩, by decide⟩
abbrev X11_isBus : fc_MI := (yX11_isBus, cX11_isBus, 2, (some .boolean), none)
theorem mf_X11_isBus : fc_mf X11_isBus 1 := ⟨fc_b1 17 rfl rfl, fc_b4 233 rfl rfl, ⟨by decide +kernel, by decide +kernel, by decide +kernel⟩, by decide⟩
abbrev X11_isDigit : fc_MI := (yX11_isDigit, cX11_isDigit, 2, (some .boolean), none)
theorem mf_X11_isDigit : fc_mf X11_isDigit 1 := ⟨fc_b1 17 rfl rfl, fc_b5 52 rfl rfl, ⟨by decide +kernel, by decide +kernel, by decide +kernel⟩, by decide⟩
abbrev X11_isGoal : fc_MI := (yX11_isGoal, cX11_isGoal, 2, (some .boolean), none)
theorem mf_X11_isGoal : fc_mf X11_isGoal 1 := ⟨fc_b1 17 rfl rfl, fc_b4 178 rfl rfl, ⟨by decide +kernel, by decide +kernel, by decide +kernel⟩, by decide⟩
abbrev X11_isIn : fc_MI := (yX11_isIn, cX11_isIn, 6, (some .boolean), none)
theorem mf_X11_isIn : fc_mf X11_isIn 3 := ⟨fc_b1 17 rfl rfl, fc_b4 158 rfl rfl, ⟨by decide +kernel, by decide +kernel, by decide +kernel⟩, by decide⟩
abbrev X11_isKey : fc_MI := (yX11_isKey, cX11_isKey, 2, (some .boolean), none)
theorem mf_X11_isKey : fc_mf X11_isKey 1 := ⟨fc_b1 17 rfl rfl, fc_b5 60 rfl rfl, ⟨by decide +kernel, by decide +kernel, by decide +kernel⟩, by decide⟩
abbrev X11_isLetter : fc_MI := (yX11_isLetter, cX11_isLetter, 2, (some .boolean), none)
theorem mf_X11_isLetter : fc_mf X11_isLetter 1 := ⟨fc_b1 17 rfl rfl, fc_b5 44 rfl rfl, ⟨by decide +kernel, by decide +kernel, by decide +kernel⟩, by decide⟩
abbrev X11_isRoad : fc_MI := (yX11_isRoad, cX11_isRoad, 2, (some .boolean), none)
theorem mf_X11_isRoad : fc_mf X11_isRoad 1 := ⟨fc_b1 17 rfl rfl, fc_b4 191 rfl rfl, ⟨by decide +kernel, by decide +kernel, by decide +kernel⟩, by decide⟩
abbrev X11_isSheet : fc_MI := (yX11_isSheet, cX11_isSheet, 1, (some .boolean), none)
theorem mf_X11_isSheet : fc_mf X11_isSheet 1 := ⟨fc_b1 17 rfl rfl, fc_b6 207 rfl rfl, ⟨by decide +kernel, by decide +kernel, by decide +kernel⟩, by decide⟩
abbrev X11_isShelter : fc_MI := (yX11_isShelter, cX11_isShelter, 2, (some .boolean), none)
theorem mf_X11_isShelter : fc_mf X11_isShelter 1 := ⟨fc_b1 17 rfl rfl, fc_b4 182 rfl rfl, ⟨by decide +kernel, by decide +kernel, by decide +kernel⟩, by decide⟩
abbrev X11_isSign : fc_MI := (yX11_isSign, cX11_isSign, 2, (some .boolean), none)
theorem mf_X11_isSign : fc_mf X11_isSign 1 := ⟨fc_b1 17 rfl rfl, fc_b5 79 rfl rfl, ⟨by decide +kernel, by decide +kernel, by decide +kernel⟩, by decide⟩
abbrev X11_isTrack : fc_MI := (yX11_isTrack, cX11_isTrack, 1, (some .boolean), none)
theorem mf_X11_isTrack : fc_mf X11_isTrack 1 := ⟨fc_b1 17 rfl rfl, fc_b5 6 rfl rfl, ⟨by decide +kernel, by decide +kernel, by decide +kernel⟩, by decide⟩
abbrev X11_isWet : fc_MI := (yX11_isWet, cX11_isWet, 4, (some .boolean), none)
theorem mf_X11_isWet : fc_mf X11_isWet 3 := ⟨fc_b1 17 rfl rfl, fc_b4 209 rfl rfl, ⟨by decide +kernel, by decide +kernel, by decide +kernel⟩, by decide⟩
abbrev X11_isZone : fc_MI := (yX11_isZone, cX11_isZone, 2, (some .boolean), none)
theorem mf_X11_isZone : fc_mf X11_isZone 1 := ⟨fc_b1 17 rfl rfl, fc_b4 174 rfl rfl, ⟨by decide +kernel, by decide +kernel, by decide +kernel⟩, by decide⟩
abbrev X11_keepAll : fc_MI := (yX11_keepAll, cX11_keepAll, 2, (none : Option ClassFile.FieldType), none)
theorem mf_X11_keepAll : fc_mf X11_keepAll 0 := ⟨fc_b1 17 rfl rfl, fc_b6 166 rfl rfl, ⟨by decide +kernel, by decide +kernel, by decide +kernel⟩, by decide⟩
abbrev X11_known : fc_MI := (yX11_known, cX11_known, 5, (some .int), none)
theorem mf_X11_known : fc_mf X11_known 4 := ⟨fc_b1 17 rfl rfl, fc_b5 19 rfl rfl, ⟨by decide +kernel, by decide +kernel, by decide +kernel⟩, by decide⟩
abbrev X11_knownOf : fc_MI := (yX11_knownOf, cX11_knownOf, 8, (some .int), none)
theorem mf_X11_knownOf : fc_mf X11_knownOf 4 := ⟨fc_b1 17 rfl rfl, fc_b5 23 rfl rfl, ⟨by decide +kernel, by decide +kernel, by decide +kernel⟩, by decide⟩
abbrev X11_leave : fc_MI := (yX11_leave, cX11_leave, 6, (none : Option ClassFile.FieldType), none)
theorem mf_X11_leave : fc_mf X11_leave 1 := ⟨fc_b1 17 rfl rfl, fc_b6 131 rfl rfl, ⟨by decide +kernel, by decide +kernel, by decide +kernel⟩, by decide⟩
abbrev X11_likely : fc_MI := (yX11_likely, cX11_likely, 4, (some .int), none)
theorem mf_X11_likely : fc_mf X11_likely 2 := ⟨fc_b1 17 rfl rfl, fc_b5 3 rfl rfl, ⟨by decide +kernel, by decide +kernel, by decide +kernel⟩, by decide⟩
abbrev X11_mayAsk : fc_MI := (yX11_mayAsk, cX11_mayAsk, 6, (some .boolean), none)
theorem mf_X11_mayAsk : fc_mf X11_mayAsk 1 := ⟨fc_b1 17 rfl rfl, fc_b6 178 rfl rfl, ⟨by decide +kernel, by decide +kernel, by decide +kernel⟩, by decide⟩
abbrev X11_move : fc_MI := (yX11_move, cX11_move, 4, (none : Option ClassFile.FieldType), none)
theorem mf_X11_move : fc_mf X11_move 1 := ⟨fc_b1 17 rfl rfl, fc_b6 137 rfl rfl, ⟨by decide +kernel, by decide +kernel, by decide +kernel⟩, by decide⟩
abbrev X11_nameOf : fc_MI := (yX11_nameOf, cX11_nameOf, 5, (some .int), none)
theorem mf_X11_nameOf : fc_mf X11_nameOf 4 := ⟨fc_b1 17 rfl rfl, fc_b5 111 rfl rfl, ⟨by decide +kernel, by decide +kernel, by decide +kernel⟩, by decide⟩
abbrev X11_news : fc_MI := (yX11_news, cX11_news, 7, (some .int), none)
theorem mf_X11_news : fc_mf X11_news 5 := ⟨fc_b1 17 rfl rfl, fc_b5 14 rfl rfl, ⟨by decide +kernel, by decide +kernel, by decide +kernel⟩, by decide⟩
abbrev X11_newsRow : fc_MI := (yX11_newsRow, cX11_newsRow, 11, (some .int), none)
theorem mf_X11_newsRow : fc_mf X11_newsRow 5 := ⟨fc_b1 17 rfl rfl, fc_b6 224 rfl rfl, ⟨by decide +kernel, by decide +kernel, by decide +kernel⟩, by decide⟩
abbrev X11_next : fc_MI := (yX11_next, cX11_next, 2, (none : Option ClassFile.FieldType), none)
theorem mf_X11_next : fc_mf X11_next 0 := ⟨fc_b1 17 rfl rfl, fc_b5 40 rfl rfl, ⟨by decide +kernel, by decide +kernel, by decide +kernel⟩, by decide⟩
abbrev X11_pass : fc_MI := (yX11_pass, cX11_pass, 3, (some .int), none)
theorem mf_X11_pass : fc_mf X11_pass 1 := ⟨fc_b1 17 rfl rfl, fc_b6 123 rfl rfl, ⟨by decide +kernel, by decide +kernel, by decide +kernel⟩, by decide⟩
abbrev X11_played : fc_MI := (yX11_played, cX11_played, 3, (some .int), none)
theorem mf_X11_played : fc_mf X11_played 1 := ⟨fc_b1 17 rfl rfl, fc_b6 162 rfl rfl, ⟨by decide +kernel, by decide +kernel, by decide +kernel⟩, by decide⟩
abbrev X11_rank : fc_MI := (yX11_rank, cX11_rank, 1, (some .int), none)
theorem mf_X11_rank : fc_mf X11_rank 1 := ⟨fc_b1 17 rfl rfl, fc_b5 75 rfl rfl, ⟨by decide +kernel, by decide +kernel, by decide +kernel⟩, by decide⟩
abbrev X11_readAll : fc_MI := (yX11_readAll, cX11_readAll, 3, (some .int), none)
theorem mf_X11_readAll : fc_mf X11_readAll 1 := ⟨fc_b1 17 rfl rfl, fc_b5 36 rfl rfl, ⟨by decide +kernel, by decide +kernel, by decide +kernel⟩, by decide⟩
abbrev X11_readE : fc_MI := (yX11_readE, cX11_readE, 5, (some .boolean), none)
theorem mf_X11_readE : fc_mf X11_readE 1 := ⟨fc_b1 17 rfl rfl, fc_b5 64 rfl rfl, ⟨by decide +kernel, by decide +kernel, by decide +kernel⟩, by decide⟩
abbrev X11_readNumber : fc_MI := (yX11_readNumber, cX11_readNumber, 1, (none : Option ClassFile.FieldType), none)
theorem mf_X11_readNumber : fc_mf X11_readNumber 0 := ⟨fc_b1 17 rfl rfl, fc_b5 56 rfl rfl, ⟨by decide +kernel, by decide +kernel, by decide +kernel⟩, by decide⟩
abbrev X11_readWord : fc_MI := (yX11_readWord, cX11_readWord, 5, (none : Option ClassFile.FieldType), none)
theorem mf_X11_readWord : fc_mf X11_readWord 0 := ⟨fc_b1 17 rfl rfl, fc_b5 48 rfl rfl, ⟨by decide +kernel, by decide +kernel, by decide +kernel⟩, by decide⟩
abbrev X11_ride : fc_MI := (yX11_ride, cX11_ride, 5, (none : Option ClassFile.FieldType), none)
theorem mf_X11_ride : fc_mf X11_ride 1 := ⟨fc_b1 17 rfl rfl, fc_b6 141 rfl rfl, ⟨by decide +kernel, by decide +kernel, by decide +kernel⟩, by decide⟩
abbrev X11_road : fc_MI := (yX11_road, cX11_road, 5, (some .int), none)
theorem mf_X11_road : fc_mf X11_road 4 := ⟨fc_b1 17 rfl rfl, fc_b4 168 rfl rfl, ⟨by decide +kernel, by decide +kernel, by decide +kernel⟩, by decide⟩
abbrev X11_roadTold : fc_MI := (yX11_roadTold, cX11_roadTold, 3, (some .int), none)
theorem mf_X11_roadTold : fc_mf X11_roadTold 2 := ⟨fc_b1 17 rfl rfl, fc_b4 221 rfl rfl, ⟨by decide +kernel, by decide +kernel, by decide +kernel⟩, by decide⟩
abbrev X11_roomLeft : fc_MI := (yX11_roomLeft, cX11_roomLeft, 2, (some .int), none)
theorem mf_X11_roomLeft : fc_mf X11_roomLeft 1 := ⟨fc_b1 17 rfl rfl, fc_b4 217 rfl rfl, ⟨by decide +kernel, by decide +kernel, by decide +kernel⟩, by decide⟩
abbrev X11_says : fc_MI := (yX11_says, cX11_says, 3, (some .long), none)
theorem mf_X11_says : fc_mf X11_says 2 := ⟨fc_b1 17 rfl rfl, fc_b5 103 rfl rfl, ⟨by decide +kernel, by decide +kernel, by decide +kernel⟩, by decide⟩
abbrev X11_sheet : fc_MI := (yX11_sheet, cX11_sheet, 5, (some .int), none)
theorem mf_X11_sheet : fc_mf X11_sheet 3 := ⟨fc_b1 17 rfl rfl, fc_b6 204 rfl rfl, ⟨by decide +kernel, by decide +kernel, by decide +kernel⟩, by decide⟩
abbrev X11_shelter : fc_MI := (yX11_shelter, cX11_shelter, 2, (some .int), none)
theorem mf_X11_shelter : fc_mf X11_shelter 1 := ⟨fc_b1 17 rfl rfl, fc_b4 164 rfl rfl, ⟨by decide +kernel, by decide +kernel, by decide +kernel⟩, by decide⟩
abbrev X11_shelterTold : fc_MI := (yX11_shelterTold, cX11_shelterTold, 3, (some .int), none)
theorem mf_X11_shelterTold : fc_mf X11_shelterTold 2 := ⟨fc_b1 17 rfl rfl, fc_b4 213 rfl rfl, ⟨by decide +kernel, by decide +kernel, by decide +kernel⟩, by decide⟩
abbrev X11_step : fc_MI := (yX11_step, cX11_step, 3, (none : Option ClassFile.FieldType), none)
theorem mf_X11_step : fc_mf X11_step 1 := ⟨fc_b1 17 rfl rfl, fc_b6 127 rfl rfl, ⟨by decide +kernel, by decide +kernel, by decide +kernel⟩, by decide⟩
abbrev X11_sumOf : fc_MI := (yX11_sumOf, cX11_sumOf, 4, (some .int), none)
theorem mf_X11_sumOf : fc_mf X11_sumOf 2 := ⟨fc_b1 17 rfl rfl, fc_b6 200 rfl rfl, ⟨by decide +kernel, by decide +kernel, by decide +kernel⟩, by decide⟩
abbrev X11_takeCalls : fc_MI := (yX11_takeCalls, cX11_takeCalls, 8, (some .boolean), none)
theorem mf_X11_takeCalls : fc_mf X11_takeCalls 1 := ⟨fc_b1 17 rfl rfl, fc_b6 157 rfl rfl, ⟨by decide +kernel, by decide +kernel, by decide +kernel⟩, by decide⟩
abbrev X11_taken : fc_MI := (yX11_taken, cX11_taken, 5, (some .int), none)
theorem mf_X11_taken : fc_mf X11_taken 2 := ⟨fc_b1 17 rfl rfl, fc_b6 231 rfl rfl, ⟨by decide +kernel, by decide +kernel, by decide +kernel⟩, by decide⟩
abbrev X11_text : fc_MI := (yX11_text, cX11_text, 2, (some .int), none)
theorem mf_X11_text : fc_mf X11_text 0 := ⟨fc_b1 17 rfl rfl, fc_b5 32 rfl rfl, ⟨by decide +kernel, by decide +kernel, by decide +kernel⟩, by decide⟩
abbrev X11_truth : fc_MI := (yX11_truth, cX11_truth, 3, (some .int), none)
theorem mf_X11_truth : fc_mf X11_truth 1 := ⟨fc_b1 17 rfl rfl, fc_b5 10 rfl rfl, ⟨by decide +kernel, by decide +kernel, by decide +kernel⟩, by decide⟩
abbrev X11_turn : fc_MI := (yX11_turn, cX11_turn, 2, (some .int), none)
theorem mf_X11_turn : fc_mf X11_turn 1 := ⟨fc_b1 17 rfl rfl, fc_b4 195 rfl rfl, ⟨by decide +kernel, by decide +kernel, by decide +kernel⟩, by decide⟩
abbrev X11_use : fc_MI := (yX11_use, cX11_use, 3, (some .int), none)
theorem mf_X11_use : fc_mf X11_use 1 := ⟨fc_b1 17 rfl rfl, fc_b4 187 rfl rfl, ⟨by decide +kernel, by decide +kernel, by decide +kernel⟩, by decide⟩
abbrev X11_wasWet : fc_MI := (yX11_wasWet, cX11_wasWet, 6, (some .boolean), none)
theorem mf_X11_wasWet : fc_mf X11_wasWet 3 := ⟨fc_b1 17 rfl rfl, fc_b6 119 rfl rfl, ⟨by decide +kernel, by decide +kernel, by decide +kernel⟩, by decide⟩
abbrev X11_worst : fc_MI := (yX11_worst, cX11_worst, 3, (some .int), none)
theorem mf_X11_worst : fc_mf X11_worst 0 := ⟨fc_b1 17 rfl rfl, fc_b6 189 rfl rfl, ⟨by decide +kernel, by decide +kernel, by decide +kernel⟩, by decide⟩
abbrev X11_worthOf : fc_MI := (yX11_worthOf, cX11_worthOf, 9, (some .int), none)
theorem mf_X11_worthOf : fc_mf X11_worthOf 4 := ⟨fc_b1 17 rfl rfl, fc_b5 107 rfl rfl, ⟨by decide +kernel, by decide +kernel, by decide +kernel⟩, by decide⟩
abbrev X11_zone : fc_MI := (yX11_zone, cX11_zone, 4, (some .int), none)
theorem mf_X11_zone : fc_mf X11_zone 3 := ⟨fc_b1 17 rfl rfl, fc_b4 154 rfl rfl, ⟨by decide +kernel, by decide +kernel, by decide +kernel⟩, by decide⟩
abbrev X11_zoneTold : fc_MI := (yX11_zoneTold, cX11_zoneTold, 3, (some .int), none)
theorem mf_X11_zoneTold : fc_mf X11_zoneTold 2 := ⟨fc_b1 17 rfl rfl, fc_b4 204 rfl rfl, ⟨by decide +kernel, by decide +kernel, by decide +kernel⟩, by decide⟩
abbrev X1_hire : fc_MI := (yX1_hire, cX1_hire, 6, (some .int), none)
theorem mf_X1_hire : fc_mf X1_hire 4 := ⟨fc_b1 5 rfl rfl, fc_b3 122 rfl rfl, ⟨by decide +kernel, by decide +kernel, by decide +kernel⟩, by decide⟩
abbrev X1_init : fc_MI := (yX1_init, cX1_init, 1, (none : Option ClassFile.FieldType), none)
theorem mf_X1_init : fc_mf X1_init 0 := ⟨fc_b1 5 rfl rfl, fc_b1 96 rfl rfl, ⟨by decide +kernel, by decide +kernel, by decide +kernel⟩, by decide⟩
abbrev X2_become : fc_MI := (yX2_become, cX2_become, 2, (none : Option ClassFile.FieldType), none)
theorem mf_X2_become : fc_mf X2_become 1 := ⟨fc_b1 13 rfl rfl, fc_b4 61 rfl rfl, ⟨by decide +kernel, by decide +kernel, by decide +kernel⟩, by decide⟩
abbrev X2_init : fc_MI := (yX2_init, cX2_init, 1, (none : Option ClassFile.FieldType), none)
theorem mf_X2_init : fc_mf X2_init 0 := ⟨fc_b1 13 rfl rfl, fc_b2 141 rfl rfl, ⟨by decide +kernel, by decide +kernel, by decide +kernel⟩, by decide⟩
abbrev X2_isCalled : fc_MI := (yX2_isCalled, cX2_isCalled, 2, (some .boolean), none)
theorem mf_X2_isCalled : fc_mf X2_isCalled 1 := ⟨fc_b1 13 rfl rfl, fc_b3 221 rfl rfl, ⟨by decide +kernel, by decide +kernel, by decide +kernel⟩, by decide⟩
abbrev X3_foreseen : fc_MI := (yX3_foreseen, cX3_foreseen, 4, (some .int), none)
theorem mf_X3_foreseen : fc_mf X3_foreseen 1 := ⟨fc_b1 15 rfl rfl, fc_b4 57 rfl rfl, ⟨by decide +kernel, by decide +kernel, by decide +kernel⟩, by decide⟩
abbrev X3_init : fc_MI := (yX3_init, cX3_init, 5, (none : Option ClassFile.FieldType), none)
theorem mf_X3_init : fc_mf X3_init 4 := ⟨fc_b1 15 rfl rfl, fc_b2 230 rfl rfl, ⟨by decide +kernel, by decide +kernel, by decide +kernel⟩, by decide⟩
abbrev X3_plan : fc_MI := (yX3_plan, cX3_plan, 6, (some .int), none)
theorem mf_X3_plan : fc_mf X3_plan 2 := ⟨fc_b1 15 rfl rfl, fc_b4 91 rfl rfl, ⟨by decide +kernel, by decide +kernel, by decide +kernel⟩, by decide⟩
abbrev X3_search : fc_MI := (yX3_search, cX3_search, 7, (some .long), none)
theorem mf_X3_search : fc_mf X3_search 1 := ⟨fc_b1 15 rfl rfl, fc_b4 86 rfl rfl, ⟨by decide +kernel, by decide +kernel, by decide +kernel⟩, by decide⟩
abbrev X3_settled : fc_MI := (yX3_settled, cX3_settled, 5, (some .int), none)
theorem mf_X3_settled : fc_mf X3_settled 1 := ⟨fc_b1 15 rfl rfl, fc_b4 68 rfl rfl, ⟨by decide +kernel, by decide +kernel, by decide +kernel⟩, by decide⟩
abbrev X3_worst : fc_MI := (yX3_worst, cX3_worst, 4, (some .int), none)
theorem mf_X3_worst : fc_mf X3_worst 1 := ⟨fc_b1 15 rfl rfl, fc_b4 95 rfl rfl, ⟨by decide +kernel, by decide +kernel, by decide +kernel⟩, by decide⟩
abbrev X4_board : fc_MI := (yX4_board, cX4_board, 7, (none : Option ClassFile.FieldType), none)
theorem mf_X4_board : fc_mf X4_board 2 := ⟨fc_b1 14 rfl rfl, fc_b4 36 rfl rfl, ⟨by decide +kernel, by decide +kernel, by decide +kernel⟩, by decide⟩
abbrev X4_chooseMoving : fc_MI := (yX4_chooseMoving, cX4_chooseMoving, 7, (none : Option ClassFile.FieldType), none)
theorem mf_X4_chooseMoving : fc_mf X4_chooseMoving 2 := ⟨fc_b1 14 rfl rfl, fc_b4 26 rfl rfl, ⟨by decide +kernel, by decide +kernel, by decide +kernel⟩, by decide⟩
abbrev X4_freeBuses : fc_MI := (yX4_freeBuses, cX4_freeBuses, 3, (none : Option ClassFile.FieldType), none)
theorem mf_X4_freeBuses : fc_mf X4_freeBuses 1 := ⟨fc_b1 14 rfl rfl, fc_b4 40 rfl rfl, ⟨by decide +kernel, by decide +kernel, by decide +kernel⟩, by decide⟩
abbrev X4_gather : fc_MI := (yX4_gather, cX4_gather, 4, (none : Option ClassFile.FieldType), none)
theorem mf_X4_gather : fc_mf X4_gather 3 := ⟨fc_b1 14 rfl rfl, fc_b3 217 rfl rfl, ⟨by decide +kernel, by decide +kernel, by decide +kernel⟩, by decide⟩
abbrev X4_goBy : fc_MI := (yX4_goBy, cX4_goBy, 3, (none : Option ClassFile.FieldType), none)
theorem mf_X4_goBy : fc_mf X4_goBy 2 := ⟨fc_b1 14 rfl rfl, fc_b4 12 rfl rfl, ⟨by decide +kernel, by decide +kernel, by decide +kernel⟩, by decide⟩
abbrev X4_init : fc_MI := (yX4_init, cX4_init, 6, (none : Option ClassFile.FieldType), none)
theorem mf_X4_init : fc_mf X4_init 5 := ⟨fc_b1 14 rfl rfl, fc_b2 201 rfl rfl, ⟨by decide +kernel, by decide +kernel, by decide +kernel⟩, by decide⟩
abbrev X4_isWet : fc_MI := (yX4_isWet, cX4_isWet, 4, (some .boolean), none)
theorem mf_X4_isWet : fc_mf X4_isWet 3 := ⟨fc_b1 14 rfl rfl, fc_b3 130 rfl rfl, ⟨by decide +kernel, by decide +kernel, by decide +kernel⟩, by decide⟩
abbrev X4_move : fc_MI := (yX4_move, cX4_move, 5, (none : Option ClassFile.FieldType), none)
theorem mf_X4_move : fc_mf X4_move 1 := ⟨fc_b1 14 rfl rfl, fc_b4 32 rfl rfl, ⟨by decide +kernel, by decide +kernel, by decide +kernel⟩, by decide⟩
abbrev X4_openFlow : fc_MI := (yX4_openFlow, cX4_openFlow, 5, (some .int), none)
theorem mf_X4_openFlow : fc_mf X4_openFlow 3 := ⟨fc_b1 14 rfl rfl, fc_b3 142 rfl rfl, ⟨by decide +kernel, by decide +kernel, by decide +kernel⟩, by decide⟩
abbrev X4_setOut : fc_MI := (yX4_setOut, cX4_setOut, 6, (none : Option ClassFile.FieldType), none)
theorem mf_X4_setOut : fc_mf X4_setOut 2 := ⟨fc_b1 14 rfl rfl, fc_b4 16 rfl rfl, ⟨by decide +kernel, by decide +kernel, by decide +kernel⟩, by decide⟩
abbrev X4_standInWater : fc_MI := (yX4_standInWater, cX4_standInWater, 6, (some .int), none)
theorem mf_X4_standInWater : fc_mf X4_standInWater 3 := ⟨fc_b1 14 rfl rfl, fc_b4 48 rfl rfl, ⟨by decide +kernel, by decide +kernel, by decide +kernel⟩, by decide⟩
abbrev X5_expect : fc_MI := (yX5_expect, cX5_expect, 2, (none : Option ClassFile.FieldType), none)
theorem mf_X5_expect : fc_mf X5_expect 1 := ⟨fc_b1 8 rfl rfl, fc_b2 113 rfl rfl, ⟨by decide +kernel, by decide +kernel, by decide +kernel⟩, by decide⟩
abbrev X5_fail : fc_MI := (yX5_fail, cX5_fail, 1, (none : Option ClassFile.FieldType), none)
theorem mf_X5_fail : fc_mf X5_fail 0 := ⟨fc_b1 8 rfl rfl, fc_b2 117 rfl rfl, ⟨by decide +kernel, by decide +kernel, by decide +kernel⟩, by decide⟩
abbrev X5_init : fc_MI := (yX5_init, cX5_init, 2, (none : Option ClassFile.FieldType), none)
theorem mf_X5_init : fc_mf X5_init 1 := ⟨fc_b1 8 rfl rfl, fc_b1 184 rfl rfl, ⟨by decide +kernel, by decide +kernel, by decide +kernel⟩, by decide⟩
abbrev X5_isDigit : fc_MI := (yX5_isDigit, cX5_isDigit, 1, (some .boolean), none)
theorem mf_X5_isDigit : fc_mf X5_isDigit 1 := ⟨fc_b1 8 rfl rfl, fc_b2 102 rfl rfl, ⟨by decide +kernel, by decide +kernel, by decide +kernel⟩, by decide⟩
abbrev X5_isLetter : fc_MI := (yX5_isLetter, cX5_isLetter, 1, (some .boolean), none)
theorem mf_X5_isLetter : fc_mf X5_isLetter 1 := ⟨fc_b1 8 rfl rfl, fc_b2 78 rfl rfl, ⟨by decide +kernel, by decide +kernel, by decide +kernel⟩, by decide⟩
abbrev X5_isSign : fc_MI := (yX5_isSign, cX5_isSign, 1, (some .boolean), none)
theorem mf_X5_isSign : fc_mf X5_isSign 1 := ⟨fc_b1 8 rfl rfl, fc_b2 109 rfl rfl, ⟨by decide +kernel, by decide +kernel, by decide +kernel⟩, by decide⟩
abbrev X5_joinLevel : fc_MI := (yX5_joinLevel, cX5_joinLevel, 1, (some .int), none)
theorem mf_X5_joinLevel : fc_mf X5_joinLevel 1 := ⟨fc_b1 8 rfl rfl, fc_b2 136 rfl rfl, ⟨by decide +kernel, by decide +kernel, by decide +kernel⟩, by decide⟩
abbrev X5_nextToken : fc_MI := (yX5_nextToken, cX5_nextToken, 1, (none : Option ClassFile.FieldType), none)
theorem mf_X5_nextToken : fc_mf X5_nextToken 0 := ⟨fc_b1 8 rfl rfl, fc_b2 75 rfl rfl, ⟨by decide +kernel, by decide +kernel, by decide +kernel⟩, by decide⟩
abbrev X5_put : fc_MI := (yX5_put, cX5_put, 2, (none : Option ClassFile.FieldType), none)
theorem mf_X5_put : fc_mf X5_put 1 := ⟨fc_b1 8 rfl rfl, fc_b2 129 rfl rfl, ⟨by decide +kernel, by decide +kernel, by decide +kernel⟩, by decide⟩
abbrev X5_read : fc_MI := (yX5_read, cX5_read, 3, (some .int), none)
theorem mf_X5_read : fc_mf X5_read 2 := ⟨fc_b1 8 rfl rfl, fc_b2 71 rfl rfl, ⟨by decide +kernel, by decide +kernel, by decide +kernel⟩, by decide⟩
abbrev X5_readLeaf : fc_MI := (yX5_readLeaf, cX5_readLeaf, 1, (none : Option ClassFile.FieldType), none)
theorem mf_X5_readLeaf : fc_mf X5_readLeaf 0 := ⟨fc_b1 8 rfl rfl, fc_b2 133 rfl rfl, ⟨by decide +kernel, by decide +kernel, by decide +kernel⟩, by decide⟩
abbrev X5_readLevel : fc_MI := (yX5_readLevel, cX5_readLevel, 7, (none : Option ClassFile.FieldType), none)
theorem mf_X5_readLevel : fc_mf X5_readLevel 2 := ⟨fc_b1 8 rfl rfl, fc_b2 121 rfl rfl, ⟨by decide +kernel, by decide +kernel, by decide +kernel⟩, by decide⟩
abbrev X5_readOpened : fc_MI := (yX5_readOpened, cX5_readOpened, 4, (none : Option ClassFile.FieldType), none)
theorem mf_X5_readOpened : fc_mf X5_readOpened 2 := ⟨fc_b1 8 rfl rfl, fc_b2 125 rfl rfl, ⟨by decide +kernel, by decide +kernel, by decide +kernel⟩, by decide⟩
abbrev X5_spells : fc_MI := (yX5_spells, cX5_spells, 3, (some .boolean), none)
theorem mf_X5_spells : fc_mf X5_spells 1 := ⟨fc_b1 8 rfl rfl, fc_b2 87 rfl rfl, ⟨by decide +kernel, by decide +kernel, by decide +kernel⟩, by decide⟩
abbrev X5_takeNumber : fc_MI := (yX5_takeNumber, cX5_takeNumber, 1, (none : Option ClassFile.FieldType), none)
theorem mf_X5_takeNumber : fc_mf X5_takeNumber 0 := ⟨fc_b1 8 rfl rfl, fc_b2 106 rfl rfl, ⟨by decide +kernel, by decide +kernel, by decide +kernel⟩, by decide⟩
abbrev X5_takeWord : fc_MI := (yX5_takeWord, cX5_takeWord, 1, (none : Option ClassFile.FieldType), none)
theorem mf_X5_takeWord : fc_mf X5_takeWord 0 := ⟨fc_b1 8 rfl rfl, fc_b2 82 rfl rfl, ⟨by decide +kernel, by decide +kernel, by decide +kernel⟩, by decide⟩
abbrev X6_build : fc_MI := (yX6_build, cX6_build, 6, (some .int), none)
theorem mf_X6_build : fc_mf X6_build 4 := ⟨fc_b1 4 rfl rfl, fc_b3 98 rfl rfl, ⟨by decide +kernel, by decide +kernel, by decide +kernel⟩, by decide⟩
abbrev X6_canTake : fc_MI := (yX6_canTake, cX6_canTake, 7, (some .int), none)
theorem mf_X6_canTake : fc_mf X6_canTake 3 := ⟨fc_b1 4 rfl rfl, fc_b3 147 rfl rfl, ⟨by decide +kernel, by decide +kernel, by decide +kernel⟩, by decide⟩
abbrev X6_init : fc_MI := (yX6_init, cX6_init, 1, (none : Option ClassFile.FieldType), none)
theorem mf_X6_init : fc_mf X6_init 0 := ⟨fc_b1 4 rfl rfl, fc_b1 62 rfl rfl, ⟨by decide +kernel, by decide +kernel, by decide +kernel⟩, by decide⟩
abbrev X6_isOfKind : fc_MI := (yX6_isOfKind, cX6_isOfKind, 5, (some .boolean), none)
theorem mf_X6_isOfKind : fc_mf X6_isOfKind 2 := ⟨fc_b1 4 rfl rfl, fc_b4 148 rfl rfl, ⟨by decide +kernel, by decide +kernel, by decide +kernel⟩, by decide⟩
abbrev X7_holds : fc_MI := (yX7_holds, cX7_holds, 4, (some .boolean), none)
theorem mf_X7_holds : fc_mf X7_holds 3 := ⟨fc_b1 16 rfl rfl, fc_b4 135 rfl rfl, ⟨by decide +kernel, by decide +kernel, by decide +kernel⟩, by decide⟩
abbrev X7_init : fc_MI := (yX7_init, cX7_init, 1, (none : Option ClassFile.FieldType), none)
theorem mf_X7_init : fc_mf X7_init 0 := ⟨fc_b1 16 rfl rfl, fc_b3 26 rfl rfl, ⟨by decide +kernel, by decide +kernel, by decide +kernel⟩, by decide⟩
abbrev X7_lay : fc_MI := (yX7_lay, cX7_lay, 4, (none : Option ClassFile.FieldType), none)
theorem mf_X7_lay : fc_mf X7_lay 3 := ⟨fc_b1 16 rfl rfl, fc_b4 119 rfl rfl, ⟨by decide +kernel, by decide +kernel, by decide +kernel⟩, by decide⟩
abbrev X7_write : fc_MI := (yX7_write, cX7_write, 4, (none : Option ClassFile.FieldType), none)
theorem mf_X7_write : fc_mf X7_write 3 := ⟨fc_b1 16 rfl rfl, fc_b4 127 rfl rfl, ⟨by decide +kernel, by decide +kernel, by decide +kernel⟩, by decide⟩
abbrev X8_hear : fc_MI := (yX8_hear, cX8_hear, 8, (some .int), none)
theorem mf_X8_hear : fc_mf X8_hear 6 := ⟨fc_b1 6 rfl rfl, fc_b3 174 rfl rfl, ⟨by decide +kernel, by decide +kernel, by decide +kernel⟩, by decide⟩
abbrev X8_init : fc_MI := (yX8_init, cX8_init, 1, (none : Option ClassFile.FieldType), none)
theorem mf_X8_init : fc_mf X8_init 0 := ⟨fc_b1 6 rfl rfl, fc_b1 124 rfl rfl, ⟨by decide +kernel, by decide +kernel, by decide +kernel⟩, by decide⟩
abbrev X8_teller : fc_MI := (yX8_teller, cX8_teller, 5, (some .int), none)
theorem mf_X8_teller : fc_mf X8_teller 3 := ⟨fc_b1 6 rfl rfl, fc_b3 188 rfl rfl, ⟨by decide +kernel, by decide +kernel, by decide +kernel⟩, by decide⟩
abbrev X8_wasDanger : fc_MI := (yX8_wasDanger, cX8_wasDanger, 6, (some .boolean), none)
theorem mf_X8_wasDanger : fc_mf X8_wasDanger 2 := ⟨fc_b1 6 rfl rfl, fc_b4 0 rfl rfl, ⟨by decide +kernel, by decide +kernel, by decide +kernel⟩, by decide⟩
abbrev X8_waterKnown : fc_MI := (yX8_waterKnown, cX8_waterKnown, 5, (some .int), none)
theorem mf_X8_waterKnown : fc_mf X8_waterKnown 3 := ⟨fc_b1 6 rfl rfl, fc_b3 184 rfl rfl, ⟨by decide +kernel, by decide +kernel, by decide +kernel⟩, by decide⟩
abbrev X8_windKnown : fc_MI := (yX8_windKnown, cX8_windKnown, 5, (some .int), none)
theorem mf_X8_windKnown : fc_mf X8_windKnown 3 := ⟨fc_b1 6 rfl rfl, fc_b3 192 rfl rfl, ⟨by decide +kernel, by decide +kernel, by decide +kernel⟩, by decide⟩
abbrev X9_init : fc_MI := (yX9_init, cX9_init, 1, (none : Option ClassFile.FieldType), none)
theorem mf_X9_init : fc_mf X9_init 0 := ⟨fc_b1 2 rfl rfl, fc_b1 33 rfl rfl, ⟨by decide +kernel, by decide +kernel, by decide +kernel⟩, by decide⟩
theorem fl_X0_9 : fc_fl RX0 9 0 0 := ⟨(RX0, TX0, 9), rfl, by decide, rfl, fc_b1 220 rfl rfl⟩
theorem fl_X0_17 : fc_fl RX0 17 0 1 := ⟨(RX0, TX0, 9), rfl, by decide, rfl, fc_b1 221 rfl rfl⟩
theorem fl_X0_20 : fc_fl RX0 20 0 2 := ⟨(RX0, TX0, 9), rfl, by decide, rfl, fc_b1 222 rfl rfl⟩
theorem fl_X0_24 : fc_fl RX0 24 0 3 := ⟨(RX0, TX0, 9), rfl, by decide, rfl, fc_b1 223 rfl rfl⟩
theorem fl_X0_27 : fc_fl RX0 27 0 4 := ⟨(RX0, TX0, 9), rfl, by decide, rfl, fc_b1 224 rfl rfl⟩
theorem fl_X0_35 : fc_fl RX0 35 0 5 := ⟨(RX0, TX0, 9), rfl, by decide, rfl, fc_b1 225 rfl rfl⟩
theorem fl_X0_45 : fc_fl RX0 45 0 6 := ⟨(RX0, TX0, 9), rfl, by decide, rfl, fc_b1 226 rfl rfl⟩
theorem fl_X0_53 : fc_fl RX0 53 0 7 := ⟨(RX0, TX0, 9), rfl, by decide, rfl, fc_b1 228 rfl rfl⟩
theorem fl_X0_60 : fc_fl RX0 60 5 3 := ⟨(RX5, TX5, 10), rfl, by decide, rfl, fc_b1 191 rfl rfl⟩
theorem fl_X0_62 : fc_fl RX0 62 5 2 := ⟨(RX5, TX5, 10), rfl, by decide, rfl, fc_b1 189 rfl rfl⟩
theorem fl_X0_64 : fc_fl RX0 64 0 8 := ⟨(RX0, TX0, 9), rfl, by decide, rfl, fc_b1 230 rfl rfl⟩
theorem fl_X1_9 : fc_fl RX1 9 1 0 := ⟨(RX1, TX1, 5), rfl, by decide, rfl, fc_b1 98 rfl rfl⟩
theorem fl_X1_15 : fc_fl RX1 15 1 1 := ⟨(RX1, TX1, 5), rfl, by decide, rfl, fc_b1 100 rfl rfl⟩
theorem fl_X1_18 : fc_fl RX1 18 1 2 := ⟨(RX1, TX1, 5), rfl, by decide, rfl, fc_b1 102 rfl rfl⟩
theorem fl_X1_21 : fc_fl RX1 21 1 3 := ⟨(RX1, TX1, 5), rfl, by decide, rfl, fc_b1 104 rfl rfl⟩
theorem fl_X1_24 : fc_fl RX1 24 1 4 := ⟨(RX1, TX1, 5), rfl, by decide, rfl, fc_b1 106 rfl rfl⟩
theorem fl_X10_10 : fc_fl RX10 10 10 0 := ⟨(RX10, TX10, 9), rfl, by decide, rfl, fc_b3 43 rfl rfl⟩
theorem fl_X10_19 : fc_fl RX10 19 10 1 := ⟨(RX10, TX10, 9), rfl, by decide, rfl, fc_b3 44 rfl rfl⟩
theorem fl_X10_26 : fc_fl RX10 26 10 2 := ⟨(RX10, TX10, 9), rfl, by decide, rfl, fc_b3 45 rfl rfl⟩
theorem fl_X10_33 : fc_fl RX10 33 10 3 := ⟨(RX10, TX10, 9), rfl, by decide, rfl, fc_b3 46 rfl rfl⟩
theorem fl_X10_40 : fc_fl RX10 40 10 4 := ⟨(RX10, TX10, 9), rfl, by decide, rfl, fc_b3 47 rfl rfl⟩
theorem fl_X10_57 : fc_fl RX10 57 10 5 := ⟨(RX10, TX10, 9), rfl, by decide, rfl, fc_b3 48 rfl rfl⟩
theorem fl_X10_66 : fc_fl RX10 66 10 6 := ⟨(RX10, TX10, 9), rfl, by decide, rfl, fc_b3 49 rfl rfl⟩
theorem fl_X10_75 : fc_fl RX10 75 10 7 := ⟨(RX10, TX10, 9), rfl, by decide, rfl, fc_b3 50 rfl rfl⟩
theorem fl_X10_82 : fc_fl RX10 82 10 8 := ⟨(RX10, TX10, 9), rfl, by decide, rfl, fc_b3 51 rfl rfl⟩
theorem fl_X10_91 : fc_fl RX10 91 2 9 := ⟨(RX2, TX2, 10), rfl, by decide, rfl, fc_b2 172 rfl rfl⟩
theorem fl_X10_95 : fc_fl RX10 95 9 2 := ⟨(RX9, TX9, 4), rfl, by decide, rfl, fc_b1 45 rfl rfl⟩
theorem fl_X10_98 : fc_fl RX10 98 9 0 := ⟨(RX9, TX9, 4), rfl, by decide, rfl, fc_b1 40 rfl rfl⟩
theorem fl_X10_102 : fc_fl RX10 102 2 0 := ⟨(RX2, TX2, 10), rfl, by decide, rfl, fc_b2 145 rfl rfl⟩
theorem fl_X10_105 : fc_fl RX10 105 2 2 := ⟨(RX2, TX2, 10), rfl, by decide, rfl, fc_b2 151 rfl rfl⟩
theorem fl_X10_108 : fc_fl RX10 108 9 3 := ⟨(RX9, TX9, 4), rfl, by decide, rfl, fc_b1 47 rfl rfl⟩
theorem fl_X10_111 : fc_fl RX10 111 2 4 := ⟨(RX2, TX2, 10), rfl, by decide, rfl, fc_b2 158 rfl rfl⟩
theorem fl_X10_121 : fc_fl RX10 121 6 5 := ⟨(RX6, TX6, 6), rfl, by decide, rfl, fc_b1 77 rfl rfl⟩
theorem fl_X10_131 : fc_fl RX10 131 6 1 := ⟨(RX6, TX6, 6), rfl, by decide, rfl, fc_b1 68 rfl rfl⟩
theorem fl_X10_134 : fc_fl RX10 134 9 1 := ⟨(RX9, TX9, 4), rfl, by decide, rfl, fc_b1 42 rfl rfl⟩
theorem fl_X10_137 : fc_fl RX10 137 6 4 := ⟨(RX6, TX6, 6), rfl, by decide, rfl, fc_b1 75 rfl rfl⟩
theorem fl_X10_143 : fc_fl RX10 143 1 4 := ⟨(RX1, TX1, 5), rfl, by decide, rfl, fc_b1 107 rfl rfl⟩
theorem fl_X10_147 : fc_fl RX10 147 2 1 := ⟨(RX2, TX2, 10), rfl, by decide, rfl, fc_b2 149 rfl rfl⟩
theorem fl_X10_150 : fc_fl RX10 150 2 3 := ⟨(RX2, TX2, 10), rfl, by decide, rfl, fc_b2 156 rfl rfl⟩
theorem fl_X10_153 : fc_fl RX10 153 8 10 := ⟨(RX8, TX8, 12), rfl, by decide, rfl, fc_b1 143 rfl rfl⟩
theorem fl_X10_159 : fc_fl RX10 159 2 5 := ⟨(RX2, TX2, 10), rfl, by decide, rfl, fc_b2 161 rfl rfl⟩
theorem fl_X10_162 : fc_fl RX10 162 6 0 := ⟨(RX6, TX6, 6), rfl, by decide, rfl, fc_b1 65 rfl rfl⟩
theorem fl_X10_165 : fc_fl RX10 165 6 2 := ⟨(RX6, TX6, 6), rfl, by decide, rfl, fc_b1 71 rfl rfl⟩
theorem fl_X10_168 : fc_fl RX10 168 6 3 := ⟨(RX6, TX6, 6), rfl, by decide, rfl, fc_b1 73 rfl rfl⟩
theorem fl_X10_175 : fc_fl RX10 175 2 7 := ⟨(RX2, TX2, 10), rfl, by decide, rfl, fc_b2 168 rfl rfl⟩
theorem fl_X10_178 : fc_fl RX10 178 2 6 := ⟨(RX2, TX2, 10), rfl, by decide, rfl, fc_b2 165 rfl rfl⟩
theorem fl_X10_181 : fc_fl RX10 181 8 11 := ⟨(RX8, TX8, 12), rfl, by decide, rfl, fc_b1 146 rfl rfl⟩
theorem fl_X10_187 : fc_fl RX10 187 8 0 := ⟨(RX8, TX8, 12), rfl, by decide, rfl, fc_b1 130 rfl rfl⟩
theorem fl_X10_205 : fc_fl RX10 205 0 7 := ⟨(RX0, TX0, 9), rfl, by decide, rfl, fc_b1 229 rfl rfl⟩
theorem fl_X10_206 : fc_fl RX10 206 0 8 := ⟨(RX0, TX0, 9), rfl, by decide, rfl, fc_b1 231 rfl rfl⟩
theorem fl_X10_215 : fc_fl RX10 215 4 5 := ⟨(RX4, TX4, 7), rfl, by decide, rfl, fc_b2 209 rfl rfl⟩
theorem fl_X10_236 : fc_fl RX10 236 3 5 := ⟨(RX3, TX3, 8), rfl, by decide, rfl, fc_b3 1 rfl rfl⟩
theorem fl_X10_252 : fc_fl RX10 252 3 6 := ⟨(RX3, TX3, 8), rfl, by decide, rfl, fc_b3 3 rfl rfl⟩
theorem fl_X10_255 : fc_fl RX10 255 8 9 := ⟨(RX8, TX8, 12), rfl, by decide, rfl, fc_b1 142 rfl rfl⟩
theorem fl_X10_260 : fc_fl RX10 260 2 8 := ⟨(RX2, TX2, 10), rfl, by decide, rfl, fc_b2 171 rfl rfl⟩
theorem fl_X10_263 : fc_fl RX10 263 0 6 := ⟨(RX0, TX0, 9), rfl, by decide, rfl, fc_b1 227 rfl rfl⟩
theorem fl_X10_269 : fc_fl RX10 269 7 1 := ⟨(RX7, TX7, 3), rfl, by decide, rfl, fc_b3 33 rfl rfl⟩
theorem fl_X10_276 : fc_fl RX10 276 7 2 := ⟨(RX7, TX7, 3), rfl, by decide, rfl, fc_b3 35 rfl rfl⟩
theorem fl_X10_284 : fc_fl RX10 284 7 0 := ⟨(RX7, TX7, 3), rfl, by decide, rfl, fc_b3 31 rfl rfl⟩
theorem fl_X11_1 : fc_fl RX11 1 11 2 := ⟨(RX11, TX11, 75), rfl, by decide, rfl, fc_b5 123 rfl rfl⟩
theorem fl_X11_7 : fc_fl RX11 7 11 9 := ⟨(RX11, TX11, 75), rfl, by decide, rfl, fc_b5 130 rfl rfl⟩
theorem fl_X11_10 : fc_fl RX11 10 11 13 := ⟨(RX11, TX11, 75), rfl, by decide, rfl, fc_b5 134 rfl rfl⟩
theorem fl_X11_13 : fc_fl RX11 13 11 19 := ⟨(RX11, TX11, 75), rfl, by decide, rfl, fc_b5 140 rfl rfl⟩
theorem fl_X11_26 : fc_fl RX11 26 11 0 := ⟨(RX11, TX11, 75), rfl, by decide, rfl, fc_b5 121 rfl rfl⟩
theorem fl_X11_29 : fc_fl RX11 29 11 3 := ⟨(RX11, TX11, 75), rfl, by decide, rfl, fc_b5 124 rfl rfl⟩
theorem fl_X11_33 : fc_fl RX11 33 11 4 := ⟨(RX11, TX11, 75), rfl, by decide, rfl, fc_b5 125 rfl rfl⟩
theorem fl_X11_36 : fc_fl RX11 36 11 6 := ⟨(RX11, TX11, 75), rfl, by decide, rfl, fc_b5 127 rfl rfl⟩
theorem fl_X11_39 : fc_fl RX11 39 11 10 := ⟨(RX11, TX11, 75), rfl, by decide, rfl, fc_b5 131 rfl rfl⟩
theorem fl_X11_56 : fc_fl RX11 56 11 14 := ⟨(RX11, TX11, 75), rfl, by decide, rfl, fc_b5 135 rfl rfl⟩
theorem fl_X11_59 : fc_fl RX11 59 11 15 := ⟨(RX11, TX11, 75), rfl, by decide, rfl, fc_b5 136 rfl rfl⟩
theorem fl_X11_62 : fc_fl RX11 62 11 16 := ⟨(RX11, TX11, 75), rfl, by decide, rfl, fc_b5 137 rfl rfl⟩
theorem fl_X11_65 : fc_fl RX11 65 11 17 := ⟨(RX11, TX11, 75), rfl, by decide, rfl, fc_b5 138 rfl rfl⟩
theorem fl_X11_68 : fc_fl RX11 68 11 18 := ⟨(RX11, TX11, 75), rfl, by decide, rfl, fc_b5 139 rfl rfl⟩
theorem fl_X11_74 : fc_fl RX11 74 11 8 := ⟨(RX11, TX11, 75), rfl, by decide, rfl, fc_b5 129 rfl rfl⟩
theorem fl_X11_79 : fc_fl RX11 79 11 20 := ⟨(RX11, TX11, 75), rfl, by decide, rfl, fc_b5 141 rfl rfl⟩
theorem fl_X11_82 : fc_fl RX11 82 11 21 := ⟨(RX11, TX11, 75), rfl, by decide, rfl, fc_b5 142 rfl rfl⟩
theorem fl_X11_85 : fc_fl RX11 85 11 22 := ⟨(RX11, TX11, 75), rfl, by decide, rfl, fc_b5 143 rfl rfl⟩
theorem fl_X11_88 : fc_fl RX11 88 11 23 := ⟨(RX11, TX11, 75), rfl, by decide, rfl, fc_b5 144 rfl rfl⟩
theorem fl_X11_93 : fc_fl RX11 93 11 5 := ⟨(RX11, TX11, 75), rfl, by decide, rfl, fc_b5 126 rfl rfl⟩
theorem fl_X11_96 : fc_fl RX11 96 11 7 := ⟨(RX11, TX11, 75), rfl, by decide, rfl, fc_b5 128 rfl rfl⟩
theorem fl_X11_99 : fc_fl RX11 99 11 28 := ⟨(RX11, TX11, 75), rfl, by decide, rfl, fc_b5 149 rfl rfl⟩
theorem fl_X11_106 : fc_fl RX11 106 11 11 := ⟨(RX11, TX11, 75), rfl, by decide, rfl, fc_b5 132 rfl rfl⟩
theorem fl_X11_109 : fc_fl RX11 109 11 12 := ⟨(RX11, TX11, 75), rfl, by decide, rfl, fc_b5 133 rfl rfl⟩
theorem fl_X11_125 : fc_fl RX11 125 11 24 := ⟨(RX11, TX11, 75), rfl, by decide, rfl, fc_b5 145 rfl rfl⟩
theorem fl_X11_128 : fc_fl RX11 128 11 25 := ⟨(RX11, TX11, 75), rfl, by decide, rfl, fc_b5 146 rfl rfl⟩
theorem fl_X11_131 : fc_fl RX11 131 11 36 := ⟨(RX11, TX11, 75), rfl, by decide, rfl, fc_b5 157 rfl rfl⟩
theorem fl_X11_136 : fc_fl RX11 136 11 1 := ⟨(RX11, TX11, 75), rfl, by decide, rfl, fc_b5 122 rfl rfl⟩
theorem fl_X11_142 : fc_fl RX11 142 11 27 := ⟨(RX11, TX11, 75), rfl, by decide, rfl, fc_b5 148 rfl rfl⟩
theorem fl_X11_147 : fc_fl RX11 147 11 29 := ⟨(RX11, TX11, 75), rfl, by decide, rfl, fc_b5 150 rfl rfl⟩
theorem fl_X11_150 : fc_fl RX11 150 11 30 := ⟨(RX11, TX11, 75), rfl, by decide, rfl, fc_b5 151 rfl rfl⟩
theorem fl_X11_153 : fc_fl RX11 153 11 31 := ⟨(RX11, TX11, 75), rfl, by decide, rfl, fc_b5 152 rfl rfl⟩
theorem fl_X11_156 : fc_fl RX11 156 11 32 := ⟨(RX11, TX11, 75), rfl, by decide, rfl, fc_b5 153 rfl rfl⟩
theorem fl_X11_159 : fc_fl RX11 159 11 33 := ⟨(RX11, TX11, 75), rfl, by decide, rfl, fc_b5 154 rfl rfl⟩
theorem fl_X11_162 : fc_fl RX11 162 11 34 := ⟨(RX11, TX11, 75), rfl, by decide, rfl, fc_b5 155 rfl rfl⟩
theorem fl_X11_165 : fc_fl RX11 165 11 35 := ⟨(RX11, TX11, 75), rfl, by decide, rfl, fc_b5 156 rfl rfl⟩
theorem fl_X11_168 : fc_fl RX11 168 11 37 := ⟨(RX11, TX11, 75), rfl, by decide, rfl, fc_b5 158 rfl rfl⟩
theorem fl_X11_177 : fc_fl RX11 177 11 39 := ⟨(RX11, TX11, 75), rfl, by decide, rfl, fc_b5 160 rfl rfl⟩
theorem fl_X11_180 : fc_fl RX11 180 11 38 := ⟨(RX11, TX11, 75), rfl, by decide, rfl, fc_b5 159 rfl rfl⟩
theorem fl_X11_184 : fc_fl RX11 184 11 44 := ⟨(RX11, TX11, 75), rfl, by decide, rfl, fc_b5 165 rfl rfl⟩
theorem fl_X11_190 : fc_fl RX11 190 11 45 := ⟨(RX11, TX11, 75), rfl, by decide, rfl, fc_b5 166 rfl rfl⟩
theorem fl_X11_193 : fc_fl RX11 193 11 49 := ⟨(RX11, TX11, 75), rfl, by decide, rfl, fc_b5 170 rfl rfl⟩
theorem fl_X11_196 : fc_fl RX11 196 11 47 := ⟨(RX11, TX11, 75), rfl, by decide, rfl, fc_b5 168 rfl rfl⟩
theorem fl_X11_199 : fc_fl RX11 199 11 48 := ⟨(RX11, TX11, 75), rfl, by decide, rfl, fc_b5 169 rfl rfl⟩
theorem fl_X11_203 : fc_fl RX11 203 11 46 := ⟨(RX11, TX11, 75), rfl, by decide, rfl, fc_b5 167 rfl rfl⟩
theorem fl_X11_216 : fc_fl RX11 216 11 42 := ⟨(RX11, TX11, 75), rfl, by decide, rfl, fc_b5 163 rfl rfl⟩
theorem fl_X11_219 : fc_fl RX11 219 11 55 := ⟨(RX11, TX11, 75), rfl, by decide, rfl, fc_b5 176 rfl rfl⟩
theorem fl_X11_222 : fc_fl RX11 222 11 56 := ⟨(RX11, TX11, 75), rfl, by decide, rfl, fc_b5 177 rfl rfl⟩
theorem fl_X11_225 : fc_fl RX11 225 11 51 := ⟨(RX11, TX11, 75), rfl, by decide, rfl, fc_b5 172 rfl rfl⟩
theorem fl_X11_228 : fc_fl RX11 228 11 50 := ⟨(RX11, TX11, 75), rfl, by decide, rfl, fc_b5 171 rfl rfl⟩
theorem fl_X11_234 : fc_fl RX11 234 11 52 := ⟨(RX11, TX11, 75), rfl, by decide, rfl, fc_b5 173 rfl rfl⟩
theorem fl_X11_247 : fc_fl RX11 247 11 54 := ⟨(RX11, TX11, 75), rfl, by decide, rfl, fc_b5 175 rfl rfl⟩
theorem fl_X11_251 : fc_fl RX11 251 11 53 := ⟨(RX11, TX11, 75), rfl, by decide, rfl, fc_b5 174 rfl rfl⟩
theorem fl_X11_264 : fc_fl RX11 264 11 43 := ⟨(RX11, TX11, 75), rfl, by decide, rfl, fc_b5 164 rfl rfl⟩
theorem fl_X11_280 : fc_fl RX11 280 11 40 := ⟨(RX11, TX11, 75), rfl, by decide, rfl, fc_b5 161 rfl rfl⟩
theorem fl_X11_286 : fc_fl RX11 286 11 41 := ⟨(RX11, TX11, 75), rfl, by decide, rfl, fc_b5 162 rfl rfl⟩
theorem fl_X11_289 : fc_fl RX11 289 11 57 := ⟨(RX11, TX11, 75), rfl, by decide, rfl, fc_b5 178 rfl rfl⟩
theorem fl_X11_309 : fc_fl RX11 309 11 58 := ⟨(RX11, TX11, 75), rfl, by decide, rfl, fc_b5 179 rfl rfl⟩
theorem fl_X11_312 : fc_fl RX11 312 11 59 := ⟨(RX11, TX11, 75), rfl, by decide, rfl, fc_b5 180 rfl rfl⟩
theorem fl_X11_315 : fc_fl RX11 315 11 60 := ⟨(RX11, TX11, 75), rfl, by decide, rfl, fc_b5 181 rfl rfl⟩
theorem fl_X11_318 : fc_fl RX11 318 11 61 := ⟨(RX11, TX11, 75), rfl, by decide, rfl, fc_b5 182 rfl rfl⟩
theorem fl_X11_321 : fc_fl RX11 321 11 62 := ⟨(RX11, TX11, 75), rfl, by decide, rfl, fc_b5 183 rfl rfl⟩
theorem fl_X11_324 : fc_fl RX11 324 11 63 := ⟨(RX11, TX11, 75), rfl, by decide, rfl, fc_b5 184 rfl rfl⟩
theorem fl_X11_327 : fc_fl RX11 327 11 64 := ⟨(RX11, TX11, 75), rfl, by decide, rfl, fc_b5 185 rfl rfl⟩
theorem fl_X11_330 : fc_fl RX11 330 11 65 := ⟨(RX11, TX11, 75), rfl, by decide, rfl, fc_b5 186 rfl rfl⟩
theorem fl_X11_333 : fc_fl RX11 333 11 66 := ⟨(RX11, TX11, 75), rfl, by decide, rfl, fc_b5 187 rfl rfl⟩
theorem fl_X11_336 : fc_fl RX11 336 11 69 := ⟨(RX11, TX11, 75), rfl, by decide, rfl, fc_b5 190 rfl rfl⟩
theorem fl_X11_339 : fc_fl RX11 339 11 70 := ⟨(RX11, TX11, 75), rfl, by decide, rfl, fc_b5 191 rfl rfl⟩
theorem fl_X11_342 : fc_fl RX11 342 11 71 := ⟨(RX11, TX11, 75), rfl, by decide, rfl, fc_b5 192 rfl rfl⟩
theorem fl_X11_345 : fc_fl RX11 345 11 72 := ⟨(RX11, TX11, 75), rfl, by decide, rfl, fc_b5 193 rfl rfl⟩
theorem fl_X11_348 : fc_fl RX11 348 11 73 := ⟨(RX11, TX11, 75), rfl, by decide, rfl, fc_b5 194 rfl rfl⟩
theorem fl_X11_351 : fc_fl RX11 351 11 74 := ⟨(RX11, TX11, 75), rfl, by decide, rfl, fc_b5 195 rfl rfl⟩
theorem fl_X11_366 : fc_fl RX11 366 11 26 := ⟨(RX11, TX11, 75), rfl, by decide, rfl, fc_b5 147 rfl rfl⟩
theorem fl_X11_384 : fc_fl RX11 384 11 67 := ⟨(RX11, TX11, 75), rfl, by decide, rfl, fc_b5 188 rfl rfl⟩
theorem fl_X11_387 : fc_fl RX11 387 11 68 := ⟨(RX11, TX11, 75), rfl, by decide, rfl, fc_b5 189 rfl rfl⟩
theorem fl_X2_9 : fc_fl RX2 9 2 0 := ⟨(RX2, TX2, 10), rfl, by decide, rfl, fc_b2 144 rfl rfl⟩
theorem fl_X2_15 : fc_fl RX2 15 2 1 := ⟨(RX2, TX2, 10), rfl, by decide, rfl, fc_b2 147 rfl rfl⟩
theorem fl_X2_18 : fc_fl RX2 18 2 2 := ⟨(RX2, TX2, 10), rfl, by decide, rfl, fc_b2 150 rfl rfl⟩
theorem fl_X2_21 : fc_fl RX2 21 2 3 := ⟨(RX2, TX2, 10), rfl, by decide, rfl, fc_b2 153 rfl rfl⟩
theorem fl_X2_24 : fc_fl RX2 24 2 4 := ⟨(RX2, TX2, 10), rfl, by decide, rfl, fc_b2 157 rfl rfl⟩
theorem fl_X2_27 : fc_fl RX2 27 2 5 := ⟨(RX2, TX2, 10), rfl, by decide, rfl, fc_b2 160 rfl rfl⟩
theorem fl_X2_30 : fc_fl RX2 30 2 6 := ⟨(RX2, TX2, 10), rfl, by decide, rfl, fc_b2 163 rfl rfl⟩
theorem fl_X2_33 : fc_fl RX2 33 2 7 := ⟨(RX2, TX2, 10), rfl, by decide, rfl, fc_b2 166 rfl rfl⟩
theorem fl_X2_48 : fc_fl RX2 48 2 8 := ⟨(RX2, TX2, 10), rfl, by decide, rfl, fc_b2 169 rfl rfl⟩
theorem fl_X2_52 : fc_fl RX2 52 2 9 := ⟨(RX2, TX2, 10), rfl, by decide, rfl, fc_b2 174 rfl rfl⟩
theorem fl_X3_12 : fc_fl RX3 12 3 4 := ⟨(RX3, TX3, 8), rfl, by decide, rfl, fc_b2 239 rfl rfl⟩
theorem fl_X3_18 : fc_fl RX3 18 3 5 := ⟨(RX3, TX3, 8), rfl, by decide, rfl, fc_b3 0 rfl rfl⟩
theorem fl_X3_22 : fc_fl RX3 22 3 6 := ⟨(RX3, TX3, 8), rfl, by decide, rfl, fc_b3 2 rfl rfl⟩
theorem fl_X3_25 : fc_fl RX3 25 3 7 := ⟨(RX3, TX3, 8), rfl, by decide, rfl, fc_b3 4 rfl rfl⟩
theorem fl_X3_28 : fc_fl RX3 28 3 0 := ⟨(RX3, TX3, 8), rfl, by decide, rfl, fc_b2 235 rfl rfl⟩
theorem fl_X3_32 : fc_fl RX3 32 3 1 := ⟨(RX3, TX3, 8), rfl, by decide, rfl, fc_b2 236 rfl rfl⟩
theorem fl_X3_36 : fc_fl RX3 36 3 2 := ⟨(RX3, TX3, 8), rfl, by decide, rfl, fc_b2 237 rfl rfl⟩
theorem fl_X3_39 : fc_fl RX3 39 3 3 := ⟨(RX3, TX3, 8), rfl, by decide, rfl, fc_b2 238 rfl rfl⟩
theorem fl_X3_53 : fc_fl RX3 53 9 2 := ⟨(RX9, TX9, 4), rfl, by decide, rfl, fc_b1 44 rfl rfl⟩
theorem fl_X3_59 : fc_fl RX3 59 2 3 := ⟨(RX2, TX2, 10), rfl, by decide, rfl, fc_b2 154 rfl rfl⟩
theorem fl_X3_62 : fc_fl RX3 62 2 9 := ⟨(RX2, TX2, 10), rfl, by decide, rfl, fc_b2 173 rfl rfl⟩
theorem fl_X3_75 : fc_fl RX3 75 8 11 := ⟨(RX8, TX8, 12), rfl, by decide, rfl, fc_b1 145 rfl rfl⟩
theorem fl_X3_107 : fc_fl RX3 107 8 0 := ⟨(RX8, TX8, 12), rfl, by decide, rfl, fc_b1 129 rfl rfl⟩
theorem fl_X4_9 : fc_fl RX4 9 4 5 := ⟨(RX4, TX4, 7), rfl, by decide, rfl, fc_b2 208 rfl rfl⟩
theorem fl_X4_15 : fc_fl RX4 15 4 6 := ⟨(RX4, TX4, 7), rfl, by decide, rfl, fc_b2 210 rfl rfl⟩
theorem fl_X4_18 : fc_fl RX4 18 4 0 := ⟨(RX4, TX4, 7), rfl, by decide, rfl, fc_b2 203 rfl rfl⟩
theorem fl_X4_22 : fc_fl RX4 22 4 1 := ⟨(RX4, TX4, 7), rfl, by decide, rfl, fc_b2 204 rfl rfl⟩
theorem fl_X4_26 : fc_fl RX4 26 4 2 := ⟨(RX4, TX4, 7), rfl, by decide, rfl, fc_b2 205 rfl rfl⟩
theorem fl_X4_30 : fc_fl RX4 30 4 3 := ⟨(RX4, TX4, 7), rfl, by decide, rfl, fc_b2 206 rfl rfl⟩
theorem fl_X4_34 : fc_fl RX4 34 4 4 := ⟨(RX4, TX4, 7), rfl, by decide, rfl, fc_b2 207 rfl rfl⟩
theorem fl_X4_38 : fc_fl RX4 38 8 1 := ⟨(RX8, TX8, 12), rfl, by decide, rfl, fc_b1 132 rfl rfl⟩
theorem fl_X4_44 : fc_fl RX4 44 9 0 := ⟨(RX9, TX9, 4), rfl, by decide, rfl, fc_b1 39 rfl rfl⟩
theorem fl_X4_49 : fc_fl RX4 49 6 2 := ⟨(RX6, TX6, 6), rfl, by decide, rfl, fc_b1 70 rfl rfl⟩
theorem fl_X4_54 : fc_fl RX4 54 6 1 := ⟨(RX6, TX6, 6), rfl, by decide, rfl, fc_b1 67 rfl rfl⟩
theorem fl_X4_61 : fc_fl RX4 61 8 2 := ⟨(RX8, TX8, 12), rfl, by decide, rfl, fc_b1 134 rfl rfl⟩
theorem fl_X4_68 : fc_fl RX4 68 9 2 := ⟨(RX9, TX9, 4), rfl, by decide, rfl, fc_b1 46 rfl rfl⟩
theorem fl_X4_72 : fc_fl RX4 72 2 0 := ⟨(RX2, TX2, 10), rfl, by decide, rfl, fc_b2 146 rfl rfl⟩
theorem fl_X4_77 : fc_fl RX4 77 2 1 := ⟨(RX2, TX2, 10), rfl, by decide, rfl, fc_b2 148 rfl rfl⟩
theorem fl_X4_80 : fc_fl RX4 80 2 2 := ⟨(RX2, TX2, 10), rfl, by decide, rfl, fc_b2 152 rfl rfl⟩
theorem fl_X4_87 : fc_fl RX4 87 2 9 := ⟨(RX2, TX2, 10), rfl, by decide, rfl, fc_b2 175 rfl rfl⟩
theorem fl_X4_90 : fc_fl RX4 90 2 3 := ⟨(RX2, TX2, 10), rfl, by decide, rfl, fc_b2 155 rfl rfl⟩
theorem fl_X4_129 : fc_fl RX4 129 6 5 := ⟨(RX6, TX6, 6), rfl, by decide, rfl, fc_b1 78 rfl rfl⟩
theorem fl_X4_132 : fc_fl RX4 132 9 1 := ⟨(RX9, TX9, 4), rfl, by decide, rfl, fc_b1 43 rfl rfl⟩
theorem fl_X4_141 : fc_fl RX4 141 2 4 := ⟨(RX2, TX2, 10), rfl, by decide, rfl, fc_b2 159 rfl rfl⟩
theorem fl_X4_144 : fc_fl RX4 144 2 5 := ⟨(RX2, TX2, 10), rfl, by decide, rfl, fc_b2 162 rfl rfl⟩
theorem fl_X4_147 : fc_fl RX4 147 2 8 := ⟨(RX2, TX2, 10), rfl, by decide, rfl, fc_b2 170 rfl rfl⟩
theorem fl_X4_150 : fc_fl RX4 150 1 4 := ⟨(RX1, TX1, 5), rfl, by decide, rfl, fc_b1 108 rfl rfl⟩
theorem fl_X4_153 : fc_fl RX4 153 1 0 := ⟨(RX1, TX1, 5), rfl, by decide, rfl, fc_b1 99 rfl rfl⟩
theorem fl_X4_156 : fc_fl RX4 156 1 1 := ⟨(RX1, TX1, 5), rfl, by decide, rfl, fc_b1 101 rfl rfl⟩
theorem fl_X4_159 : fc_fl RX4 159 1 2 := ⟨(RX1, TX1, 5), rfl, by decide, rfl, fc_b1 103 rfl rfl⟩
theorem fl_X4_162 : fc_fl RX4 162 2 7 := ⟨(RX2, TX2, 10), rfl, by decide, rfl, fc_b2 167 rfl rfl⟩
theorem fl_X4_165 : fc_fl RX4 165 2 6 := ⟨(RX2, TX2, 10), rfl, by decide, rfl, fc_b2 164 rfl rfl⟩
theorem fl_X4_168 : fc_fl RX4 168 1 3 := ⟨(RX1, TX1, 5), rfl, by decide, rfl, fc_b1 105 rfl rfl⟩
theorem fl_X5_11 : fc_fl RX5 11 5 0 := ⟨(RX5, TX5, 10), rfl, by decide, rfl, fc_b1 186 rfl rfl⟩
theorem fl_X5_15 : fc_fl RX5 15 5 1 := ⟨(RX5, TX5, 10), rfl, by decide, rfl, fc_b1 187 rfl rfl⟩
theorem fl_X5_19 : fc_fl RX5 19 5 4 := ⟨(RX5, TX5, 10), rfl, by decide, rfl, fc_b1 192 rfl rfl⟩
theorem fl_X5_23 : fc_fl RX5 23 5 2 := ⟨(RX5, TX5, 10), rfl, by decide, rfl, fc_b1 188 rfl rfl⟩
theorem fl_X5_26 : fc_fl RX5 26 5 6 := ⟨(RX5, TX5, 10), rfl, by decide, rfl, fc_b1 194 rfl rfl⟩
theorem fl_X5_29 : fc_fl RX5 29 5 9 := ⟨(RX5, TX5, 10), rfl, by decide, rfl, fc_b1 197 rfl rfl⟩
theorem fl_X5_43 : fc_fl RX5 43 5 3 := ⟨(RX5, TX5, 10), rfl, by decide, rfl, fc_b1 190 rfl rfl⟩
theorem fl_X5_46 : fc_fl RX5 46 5 7 := ⟨(RX5, TX5, 10), rfl, by decide, rfl, fc_b1 195 rfl rfl⟩
theorem fl_X5_52 : fc_fl RX5 52 5 5 := ⟨(RX5, TX5, 10), rfl, by decide, rfl, fc_b1 193 rfl rfl⟩
theorem fl_X5_68 : fc_fl RX5 68 5 8 := ⟨(RX5, TX5, 10), rfl, by decide, rfl, fc_b1 196 rfl rfl⟩
theorem fl_X6_9 : fc_fl RX6 9 6 0 := ⟨(RX6, TX6, 6), rfl, by decide, rfl, fc_b1 64 rfl rfl⟩
theorem fl_X6_15 : fc_fl RX6 15 6 1 := ⟨(RX6, TX6, 6), rfl, by decide, rfl, fc_b1 66 rfl rfl⟩
theorem fl_X6_18 : fc_fl RX6 18 6 2 := ⟨(RX6, TX6, 6), rfl, by decide, rfl, fc_b1 69 rfl rfl⟩
theorem fl_X6_21 : fc_fl RX6 21 6 3 := ⟨(RX6, TX6, 6), rfl, by decide, rfl, fc_b1 72 rfl rfl⟩
theorem fl_X6_24 : fc_fl RX6 24 6 4 := ⟨(RX6, TX6, 6), rfl, by decide, rfl, fc_b1 74 rfl rfl⟩
theorem fl_X6_27 : fc_fl RX6 27 6 5 := ⟨(RX6, TX6, 6), rfl, by decide, rfl, fc_b1 76 rfl rfl⟩
theorem fl_X7_11 : fc_fl RX7 11 7 0 := ⟨(RX7, TX7, 3), rfl, by decide, rfl, fc_b3 30 rfl rfl⟩
theorem fl_X7_16 : fc_fl RX7 16 7 1 := ⟨(RX7, TX7, 3), rfl, by decide, rfl, fc_b3 32 rfl rfl⟩
theorem fl_X7_20 : fc_fl RX7 20 7 2 := ⟨(RX7, TX7, 3), rfl, by decide, rfl, fc_b3 34 rfl rfl⟩
theorem fl_X8_9 : fc_fl RX8 9 8 0 := ⟨(RX8, TX8, 12), rfl, by decide, rfl, fc_b1 128 rfl rfl⟩
theorem fl_X8_17 : fc_fl RX8 17 8 1 := ⟨(RX8, TX8, 12), rfl, by decide, rfl, fc_b1 131 rfl rfl⟩
theorem fl_X8_20 : fc_fl RX8 20 8 2 := ⟨(RX8, TX8, 12), rfl, by decide, rfl, fc_b1 133 rfl rfl⟩
theorem fl_X8_23 : fc_fl RX8 23 8 3 := ⟨(RX8, TX8, 12), rfl, by decide, rfl, fc_b1 135 rfl rfl⟩
theorem fl_X8_27 : fc_fl RX8 27 8 4 := ⟨(RX8, TX8, 12), rfl, by decide, rfl, fc_b1 136 rfl rfl⟩
theorem fl_X8_30 : fc_fl RX8 30 8 5 := ⟨(RX8, TX8, 12), rfl, by decide, rfl, fc_b1 137 rfl rfl⟩
theorem fl_X8_33 : fc_fl RX8 33 8 6 := ⟨(RX8, TX8, 12), rfl, by decide, rfl, fc_b1 138 rfl rfl⟩
theorem fl_X8_36 : fc_fl RX8 36 8 7 := ⟨(RX8, TX8, 12), rfl, by decide, rfl, fc_b1 139 rfl rfl⟩
theorem fl_X8_39 : fc_fl RX8 39 8 8 := ⟨(RX8, TX8, 12), rfl, by decide, rfl, fc_b1 140 rfl rfl⟩
theorem fl_X8_42 : fc_fl RX8 42 8 11 := ⟨(RX8, TX8, 12), rfl, by decide, rfl, fc_b1 144 rfl rfl⟩
theorem fl_X8_54 : fc_fl RX8 54 8 9 := ⟨(RX8, TX8, 12), rfl, by decide, rfl, fc_b1 141 rfl rfl⟩
theorem fl_X9_9 : fc_fl RX9 9 9 0 := ⟨(RX9, TX9, 4), rfl, by decide, rfl, fc_b1 38 rfl rfl⟩
theorem fl_X9_15 : fc_fl RX9 15 9 1 := ⟨(RX9, TX9, 4), rfl, by decide, rfl, fc_b1 41 rfl rfl⟩
theorem cf_J0_335 : fc_cfVS RJ0 335 J0_coder_7d493 0 := ⟨fc_b2 20 rfl rfl, mf_J0_coder_7d493, fc_b2 21 rfl rfl, fc_b2 22 rfl rfl, rfl⟩
theorem cf_J0_492 : fc_cfVS RJ0 492 J0_isLatin1_aae02 0 := ⟨fc_b2 30 rfl rfl, mf_J0_isLatin1_aae02, fc_b2 31 rfl rfl, fc_b2 32 rfl rfl, rfl⟩
theorem cf_J0_495 : fc_cfS RJ0 495 J1_charAt_3b067 2 := ⟨fc_b2 34 rfl rfl, mf_J1_charAt_3b067, fc_b2 35 rfl rfl⟩
theorem cf_J0_498 : fc_cfS RJ0 498 J2_charAt_3b067 2 := ⟨fc_b2 45 rfl rfl, mf_J2_charAt_3b067, fc_b2 46 rfl rfl⟩
theorem cf_J0_1059 : fc_cfS RJ0 1059 J3_checkIndex_8e157 3 := ⟨fc_b2 42 rfl rfl, mf_J3_checkIndex_8e157, fc_b2 43 rfl rfl⟩
theorem cf_J1_9 : fc_cfS RJ1 9 J0_checkIndex_df160 2 := ⟨fc_b2 37 rfl rfl, mf_J0_checkIndex_df160, fc_b2 38 rfl rfl⟩
theorem cf_J2_48 : fc_cfS RJ2 48 J2_length_9d52b 1 := ⟨fc_b2 51 rfl rfl, mf_J2_length_9d52b, fc_b2 52 rfl rfl⟩
theorem cf_J2_67 : fc_cfS RJ2 67 J2_checkIndex_2214a 2 := ⟨fc_b2 48 rfl rfl, mf_J2_checkIndex_2214a, fc_b2 49 rfl rfl⟩
theorem cf_J2_71 : fc_cfS RJ2 71 J2_getChar_3b067 2 := ⟨fc_b2 55 rfl rfl, mf_J2_getChar_3b067, fc_b2 56 rfl rfl⟩
theorem cf_J2_414 : fc_cfS RJ2 414 J0_checkIndex_df160 2 := ⟨fc_b2 54 rfl rfl, mf_J0_checkIndex_df160, fc_b2 38 rfl rfl⟩
theorem cf_L_9 : fc_cfI RL 9 X10_init 0 := ⟨fc_b1 23 rfl rfl, mf_X10_init, rfl, rfl, fc_b1 24 rfl rfl⟩
theorem cf_L_12 : fc_cfI RL 12 X11_init 0 := ⟨fc_b5 117 rfl rfl, mf_X11_init, rfl, rfl, fc_b5 118 rfl rfl⟩
theorem cf_L_13 : fc_cfV RL 13 X10_zone 10 3 := ⟨fc_b3 71 rfl rfl, mf_X10_zone, fc_b3 72 rfl rfl, fc_b3 73 rfl rfl, rfl⟩
theorem cf_L_17 : fc_cfV RL 17 X11_zone 11 3 := ⟨fc_b4 151 rfl rfl, mf_X11_zone, fc_b4 152 rfl rfl, fc_b4 153 rfl rfl, rfl⟩
theorem cf_L_18 : fc_cfV RL 18 X10_shelter 10 1 := ⟨fc_b3 79 rfl rfl, mf_X10_shelter, fc_b3 80 rfl rfl, fc_b3 81 rfl rfl, rfl⟩
theorem cf_L_22 : fc_cfV RL 22 X11_shelter 11 1 := ⟨fc_b4 161 rfl rfl, mf_X11_shelter, fc_b4 162 rfl rfl, fc_b4 163 rfl rfl, rfl⟩
theorem cf_L_23 : fc_cfV RL 23 X10_road 10 4 := ⟨fc_b3 83 rfl rfl, mf_X10_road, fc_b3 84 rfl rfl, fc_b3 85 rfl rfl, rfl⟩
theorem cf_L_27 : fc_cfV RL 27 X11_road 11 4 := ⟨fc_b4 165 rfl rfl, mf_X11_road, fc_b4 166 rfl rfl, fc_b4 167 rfl rfl, rfl⟩
theorem cf_L_28 : fc_cfV RL 28 X10_use 10 1 := ⟨fc_b3 99 rfl rfl, mf_X10_use, fc_b3 100 rfl rfl, fc_b3 101 rfl rfl, rfl⟩
theorem cf_L_31 : fc_cfV RL 31 X11_use 11 1 := ⟨fc_b4 184 rfl rfl, mf_X11_use, fc_b4 185 rfl rfl, fc_b4 186 rfl rfl, rfl⟩
theorem cf_L_32 : fc_cfV RL 32 X10_turn 10 1 := ⟨fc_b3 107 rfl rfl, mf_X10_turn, fc_b3 108 rfl rfl, fc_b3 109 rfl rfl, rfl⟩
theorem cf_L_35 : fc_cfV RL 35 X11_turn 11 1 := ⟨fc_b4 192 rfl rfl, mf_X11_turn, fc_b4 193 rfl rfl, fc_b4 194 rfl rfl, rfl⟩
theorem cf_L_36 : fc_cfV RL 36 X10_bus 10 4 := ⟨fc_b3 111 rfl rfl, mf_X10_bus, fc_b3 112 rfl rfl, fc_b3 113 rfl rfl, rfl⟩
theorem cf_L_39 : fc_cfV RL 39 X11_bus 11 4 := ⟨fc_b4 196 rfl rfl, mf_X11_bus, fc_b4 197 rfl rfl, fc_b4 198 rfl rfl, rfl⟩
theorem cf_L_40 : fc_cfV RL 40 X10_zoneTold 10 2 := ⟨fc_b3 123 rfl rfl, mf_X10_zoneTold, fc_b3 124 rfl rfl, fc_b3 125 rfl rfl, rfl⟩
theorem cf_L_44 : fc_cfV RL 44 X11_zoneTold 11 2 := ⟨fc_b4 201 rfl rfl, mf_X11_zoneTold, fc_b4 202 rfl rfl, fc_b4 203 rfl rfl, rfl⟩
theorem cf_L_45 : fc_cfV RL 45 X10_shelterTold 10 2 := ⟨fc_b3 131 rfl rfl, mf_X10_shelterTold, fc_b3 132 rfl rfl, fc_b3 133 rfl rfl, rfl⟩
theorem cf_L_48 : fc_cfV RL 48 X11_shelterTold 11 2 := ⟨fc_b4 210 rfl rfl, mf_X11_shelterTold, fc_b4 211 rfl rfl, fc_b4 212 rfl rfl, rfl⟩
theorem cf_L_49 : fc_cfV RL 49 X10_roadTold 10 2 := ⟨fc_b3 135 rfl rfl, mf_X10_roadTold, fc_b3 136 rfl rfl, fc_b3 137 rfl rfl, rfl⟩
theorem cf_L_52 : fc_cfV RL 52 X11_roadTold 11 2 := ⟨fc_b4 218 rfl rfl, mf_X11_roadTold, fc_b4 219 rfl rfl, fc_b4 220 rfl rfl, rfl⟩
theorem cf_L_53 : fc_cfV RL 53 X10_busTold 10 2 := ⟨fc_b3 148 rfl rfl, mf_X10_busTold, fc_b3 149 rfl rfl, fc_b3 150 rfl rfl, rfl⟩
theorem cf_L_56 : fc_cfV RL 56 X11_busTold 11 2 := ⟨fc_b4 226 rfl rfl, mf_X11_busTold, fc_b4 227 rfl rfl, fc_b4 228 rfl rfl, rfl⟩
theorem cf_L_57 : fc_cfV RL 57 X10_end 10 1 := ⟨fc_b3 152 rfl rfl, mf_X10_end, fc_b3 153 rfl rfl, fc_b3 154 rfl rfl, rfl⟩
theorem cf_L_60 : fc_cfV RL 60 X11_end 11 1 := ⟨fc_b4 235 rfl rfl, mf_X11_end, fc_b4 236 rfl rfl, fc_b4 237 rfl rfl, rfl⟩
theorem cf_L_61 : fc_cfV RL 61 X10_likely 10 2 := ⟨fc_b3 156 rfl rfl, mf_X10_likely, fc_b3 157 rfl rfl, fc_b3 158 rfl rfl, rfl⟩
theorem cf_L_64 : fc_cfV RL 64 X11_likely 11 2 := ⟨fc_b5 0 rfl rfl, mf_X11_likely, fc_b5 1 rfl rfl, fc_b5 2 rfl rfl, rfl⟩
theorem cf_L_65 : fc_cfV RL 65 X10_truth 10 1 := ⟨fc_b3 163 rfl rfl, mf_X10_truth, fc_b3 164 rfl rfl, fc_b3 165 rfl rfl, rfl⟩
theorem cf_L_68 : fc_cfV RL 68 X11_truth 11 1 := ⟨fc_b5 7 rfl rfl, mf_X11_truth, fc_b5 8 rfl rfl, fc_b5 9 rfl rfl, rfl⟩
theorem cf_L_69 : fc_cfV RL 69 X10_news 10 5 := ⟨fc_b3 167 rfl rfl, mf_X10_news, fc_b3 168 rfl rfl, fc_b3 169 rfl rfl, rfl⟩
theorem cf_L_73 : fc_cfV RL 73 X11_news 11 5 := ⟨fc_b5 11 rfl rfl, mf_X11_news, fc_b5 12 rfl rfl, fc_b5 13 rfl rfl, rfl⟩
theorem cf_L_74 : fc_cfV RL 74 X10_known 10 4 := ⟨fc_b3 177 rfl rfl, mf_X10_known, fc_b3 178 rfl rfl, fc_b3 179 rfl rfl, rfl⟩
theorem cf_L_77 : fc_cfV RL 77 X11_known 11 4 := ⟨fc_b5 16 rfl rfl, mf_X11_known, fc_b5 17 rfl rfl, fc_b5 18 rfl rfl, rfl⟩
theorem cf_L_80 : fc_cfV RL 80 X10_feed 10 2 := ⟨fc_b3 193 rfl rfl, mf_X10_feed, fc_b3 194 rfl rfl, fc_b3 195 rfl rfl, rfl⟩
theorem cf_L_84 : fc_cfV RL 84 X11_feed 11 2 := ⟨fc_b5 24 rfl rfl, mf_X11_feed, fc_b5 25 rfl rfl, fc_b5 26 rfl rfl, rfl⟩
theorem cf_L_85 : fc_cfV RL 85 X10_text 10 0 := ⟨fc_b3 201 rfl rfl, mf_X10_text, fc_b3 202 rfl rfl, fc_b3 203 rfl rfl, rfl⟩
theorem cf_L_89 : fc_cfV RL 89 X11_text 11 0 := ⟨fc_b5 29 rfl rfl, mf_X11_text, fc_b5 30 rfl rfl, fc_b5 31 rfl rfl, rfl⟩
theorem cf_L_90 : fc_cfV RL 90 X10_force 10 1 := ⟨fc_b3 205 rfl rfl, mf_X10_force, fc_b3 206 rfl rfl, fc_b3 207 rfl rfl, rfl⟩
theorem cf_L_93 : fc_cfV RL 93 X11_force 11 1 := ⟨fc_b5 96 rfl rfl, mf_X11_force, fc_b5 97 rfl rfl, fc_b5 98 rfl rfl, rfl⟩
theorem cf_L_94 : fc_cfV RL 94 X10_says 10 2 := ⟨fc_b3 209 rfl rfl, mf_X10_says, fc_b3 210 rfl rfl, fc_b3 211 rfl rfl, rfl⟩
theorem cf_L_98 : fc_cfV RL 98 X11_says 11 2 := ⟨fc_b5 100 rfl rfl, mf_X11_says, fc_b5 101 rfl rfl, fc_b5 102 rfl rfl, rfl⟩
theorem cf_L_99 : fc_cfV RL 99 X10_call 10 1 := ⟨fc_b3 229 rfl rfl, mf_X10_call, fc_b3 230 rfl rfl, fc_b3 231 rfl rfl, rfl⟩
theorem cf_L_102 : fc_cfV RL 102 X11_call 11 1 := ⟨fc_b6 108 rfl rfl, mf_X11_call, fc_b6 109 rfl rfl, fc_b6 110 rfl rfl, rfl⟩
theorem cf_L_103 : fc_cfV RL 103 X10_good 10 1 := ⟨fc_b3 233 rfl rfl, mf_X10_good, fc_b3 234 rfl rfl, fc_b3 235 rfl rfl, rfl⟩
theorem cf_L_106 : fc_cfV RL 106 X11_good 11 1 := ⟨fc_b6 112 rfl rfl, mf_X11_good, fc_b6 113 rfl rfl, fc_b6 114 rfl rfl, rfl⟩
theorem cf_L_107 : fc_cfV RL 107 X10_pass 10 1 := ⟨fc_b4 5 rfl rfl, mf_X10_pass, fc_b4 6 rfl rfl, fc_b4 7 rfl rfl, rfl⟩
theorem cf_L_110 : fc_cfV RL 110 X11_pass 11 1 := ⟨fc_b6 120 rfl rfl, mf_X11_pass, fc_b6 121 rfl rfl, fc_b6 122 rfl rfl, rfl⟩
theorem cf_L_111 : fc_cfV RL 111 X10_inWater 10 0 := ⟨fc_b4 41 rfl rfl, mf_X10_inWater, fc_b4 42 rfl rfl, fc_b4 43 rfl rfl, rfl⟩
theorem cf_L_114 : fc_cfV RL 114 X11_inWater 11 0 := ⟨fc_b6 142 rfl rfl, mf_X11_inWater, fc_b6 143 rfl rfl, fc_b6 144 rfl rfl, rfl⟩
theorem cf_L_115 : fc_cfV RL 115 X10_foresee 10 2 := ⟨fc_b4 49 rfl rfl, mf_X10_foresee, fc_b4 50 rfl rfl, fc_b4 51 rfl rfl, rfl⟩
theorem cf_L_119 : fc_cfV RL 119 X11_foresee 11 2 := ⟨fc_b6 150 rfl rfl, mf_X11_foresee, fc_b6 151 rfl rfl, fc_b6 152 rfl rfl, rfl⟩
theorem cf_L_120 : fc_cfV RL 120 X10_best 10 1 := ⟨fc_b4 73 rfl rfl, mf_X10_best, fc_b4 74 rfl rfl, fc_b4 75 rfl rfl, rfl⟩
theorem cf_L_124 : fc_cfV RL 124 X11_best 11 1 := ⟨fc_b6 171 rfl rfl, mf_X11_best, fc_b6 172 rfl rfl, fc_b6 173 rfl rfl, rfl⟩
theorem cf_L_125 : fc_cfV RL 125 X10_bestCall 10 1 := ⟨fc_b4 98 rfl rfl, mf_X10_bestCall, fc_b4 99 rfl rfl, fc_b4 100 rfl rfl, rfl⟩
theorem cf_L_128 : fc_cfV RL 128 X11_bestCall 11 1 := ⟨fc_b6 190 rfl rfl, mf_X11_bestCall, fc_b6 191 rfl rfl, fc_b6 192 rfl rfl, rfl⟩
theorem cf_L_129 : fc_cfV RL 129 X10_count 10 1 := ⟨fc_b4 102 rfl rfl, mf_X10_count, fc_b4 103 rfl rfl, fc_b4 104 rfl rfl, rfl⟩
theorem cf_L_132 : fc_cfV RL 132 X11_count 11 1 := ⟨fc_b6 194 rfl rfl, mf_X11_count, fc_b6 195 rfl rfl, fc_b6 196 rfl rfl, rfl⟩
theorem cf_L_133 : fc_cfV RL 133 X10_sheet 10 3 := ⟨fc_b4 109 rfl rfl, mf_X10_sheet, fc_b4 110 rfl rfl, fc_b4 111 rfl rfl, rfl⟩
theorem cf_L_136 : fc_cfV RL 136 X11_sheet 11 3 := ⟨fc_b6 201 rfl rfl, mf_X11_sheet, fc_b6 202 rfl rfl, fc_b6 203 rfl rfl, rfl⟩
theorem cf_L_137 : fc_cfV RL 137 X10_cell 10 3 := ⟨fc_b4 120 rfl rfl, mf_X10_cell, fc_b4 121 rfl rfl, fc_b4 122 rfl rfl, rfl⟩
theorem cf_L_140 : fc_cfV RL 140 X11_cell 11 3 := ⟨fc_b6 210 rfl rfl, mf_X11_cell, fc_b6 211 rfl rfl, fc_b6 212 rfl rfl, rfl⟩
theorem cf_L_141 : fc_cfV RL 141 X10_copy 10 5 := ⟨fc_b4 128 rfl rfl, mf_X10_copy, fc_b4 129 rfl rfl, fc_b4 130 rfl rfl, rfl⟩
theorem cf_L_144 : fc_cfV RL 144 X11_copy 11 5 := ⟨fc_b6 217 rfl rfl, mf_X11_copy, fc_b6 218 rfl rfl, fc_b6 219 rfl rfl, rfl⟩
theorem cf_L_145 : fc_cfV RL 145 X10_newsRow 10 5 := ⟨fc_b4 137 rfl rfl, mf_X10_newsRow, fc_b4 138 rfl rfl, fc_b4 139 rfl rfl, rfl⟩
theorem cf_L_148 : fc_cfV RL 148 X11_newsRow 11 5 := ⟨fc_b6 221 rfl rfl, mf_X11_newsRow, fc_b6 222 rfl rfl, fc_b6 223 rfl rfl, rfl⟩
theorem cf_L_149 : fc_cfV RL 149 X10_taken 10 2 := ⟨fc_b4 141 rfl rfl, mf_X10_taken, fc_b4 142 rfl rfl, fc_b4 143 rfl rfl, rfl⟩
theorem cf_L_152 : fc_cfV RL 152 X11_taken 11 2 := ⟨fc_b6 228 rfl rfl, mf_X11_taken, fc_b6 229 rfl rfl, fc_b6 230 rfl rfl, rfl⟩
theorem cf_X0_3 : Cond.methodLink RX0 3 objectInit ∈ fc_tbl ∧ Cond.instanceMethod objectInit ∈ fc_tbl ∧ Cond.code objectInit ⟨#[0xb1]⟩ 1 none ∈ fc_tbl := ⟨fc_b1 178 rfl rfl, fc_b1 27 rfl rfl, fc_b1 28 rfl rfl⟩
theorem cf_X0_32 : fc_cfI RX0 32 X5_init 1 := ⟨fc_b1 182 rfl rfl, mf_X5_init, rfl, rfl, fc_b1 183 rfl rfl⟩
theorem cf_X0_39 : fc_cfVS RX0 39 J0_length_8abf5 0 := ⟨fc_b2 16 rfl rfl, mf_J0_length_8abf5, fc_b2 17 rfl rfl, fc_b2 18 rfl rfl, rfl⟩
theorem cf_X0_49 : fc_cfVS RX0 49 J0_charAt_5068e 1 := ⟨fc_b2 26 rfl rfl, mf_J0_charAt_5068e, fc_b2 27 rfl rfl, fc_b2 28 rfl rfl, rfl⟩
theorem cf_X0_56 : fc_cfV RX0 56 X5_read 5 2 := ⟨fc_b2 68 rfl rfl, mf_X5_read, fc_b2 69 rfl rfl, fc_b2 70 rfl rfl, rfl⟩
theorem cf_X0_67 : fc_cfS RX0 67 X0_joined 3 := ⟨fc_b3 226 rfl rfl, mf_X0_joined, fc_b3 227 rfl rfl⟩
theorem cf_X1_3 : Cond.methodLink RX1 3 objectInit ∈ fc_tbl ∧ Cond.instanceMethod objectInit ∈ fc_tbl ∧ Cond.code objectInit ⟨#[0xb1]⟩ 1 none ∈ fc_tbl := ⟨fc_b1 97 rfl rfl, fc_b1 27 rfl rfl, fc_b1 28 rfl rfl⟩
theorem cf_X10_1 : Cond.methodLink RX10 1 objectInit ∈ fc_tbl ∧ Cond.instanceMethod objectInit ∈ fc_tbl ∧ Cond.code objectInit ⟨#[0xb1]⟩ 1 none ∈ fc_tbl := ⟨fc_b1 26 rfl rfl, fc_b1 27 rfl rfl, fc_b1 28 rfl rfl⟩
theorem cf_X10_9 : fc_cfI RX10 9 X9_init 0 := ⟨fc_b1 31 rfl rfl, mf_X9_init, rfl, rfl, fc_b1 32 rfl rfl⟩
theorem cf_X10_18 : fc_cfIN RX10 18 X6_init "FloodCity" 0 := ⟨List.mem_of_getElem? (i := 0) rfl, mf_X6_init, rfl, rfl, fc_b1 61 rfl rfl⟩
theorem cf_X10_25 : fc_cfIN RX10 25 X1_init "FloodCity" 0 := ⟨List.mem_of_getElem? (i := 1) rfl, mf_X1_init, rfl, rfl, fc_b1 95 rfl rfl⟩
theorem cf_X10_32 : fc_cfI RX10 32 X8_init 0 := ⟨fc_b1 122 rfl rfl, mf_X8_init, rfl, rfl, fc_b1 123 rfl rfl⟩
theorem cf_X10_39 : fc_cfIN RX10 39 X0_init "FloodCity" 0 := ⟨List.mem_of_getElem? (i := 2) rfl, mf_X0_init, rfl, rfl, fc_b1 176 rfl rfl⟩
theorem cf_X10_46 : fc_cfV RX10 46 X0_write 0 1 := ⟨fc_b2 12 rfl rfl, mf_X0_write, fc_b2 13 rfl rfl, fc_b2 14 rfl rfl, rfl⟩
theorem cf_X10_50 : fc_cfV RX10 50 X0_learn 0 0 := ⟨fc_b2 64 rfl rfl, mf_X0_learn, fc_b2 65 rfl rfl, fc_b2 66 rfl rfl, rfl⟩
theorem cf_X10_56 : fc_cfI RX10 56 X2_init 0 := ⟨fc_b2 139 rfl rfl, mf_X2_init, rfl, rfl, fc_b2 140 rfl rfl⟩
theorem cf_X10_63 : fc_cfI RX10 63 X4_init 5 := ⟨fc_b2 199 rfl rfl, mf_X4_init, rfl, rfl, fc_b2 200 rfl rfl⟩
theorem cf_X10_72 : fc_cfI RX10 72 X3_init 4 := ⟨fc_b2 228 rfl rfl, mf_X3_init, rfl, rfl, fc_b2 229 rfl rfl⟩
theorem cf_X10_81 : fc_cfI RX10 81 X7_init 0 := ⟨fc_b3 24 rfl rfl, mf_X7_init, rfl, rfl, fc_b3 25 rfl rfl⟩
theorem cf_X10_86 : fc_cfS RX10 86 X10_isOutside 3 := ⟨fc_b3 75 rfl rfl, mf_X10_isOutside, fc_b3 76 rfl rfl⟩
theorem cf_X10_114 : fc_cfV RX10 114 X10_isNoZone 10 1 := ⟨fc_b3 87 rfl rfl, mf_X10_isNoZone, fc_b3 89 rfl rfl, fc_b0 10 rfl rfl, rfl⟩
theorem cf_X10_118 : fc_cfV RX10 118 X10_isNoGoal 10 1 := ⟨fc_b3 91 rfl rfl, mf_X10_isNoGoal, fc_b3 93 rfl rfl, fc_b0 11 rfl rfl, rfl⟩
theorem cf_X10_124 : fc_cfV RX10 124 X6_build 6 4 := ⟨fc_b3 95 rfl rfl, mf_X6_build, fc_b3 96 rfl rfl, fc_b3 97 rfl rfl, rfl⟩
theorem cf_X10_128 : fc_cfV RX10 128 X10_isNoRoad 10 1 := ⟨fc_b3 103 rfl rfl, mf_X10_isNoRoad, fc_b3 105 rfl rfl, fc_b0 12 rfl rfl, rfl⟩
theorem cf_X10_140 : fc_cfV RX10 140 X10_isNoShelter 10 1 := ⟨fc_b3 115 rfl rfl, mf_X10_isNoShelter, fc_b3 117 rfl rfl, fc_b0 13 rfl rfl, rfl⟩
theorem cf_X10_144 : fc_cfV RX10 144 X1_hire 1 4 := ⟨fc_b3 119 rfl rfl, mf_X1_hire, fc_b3 120 rfl rfl, fc_b3 121 rfl rfl, rfl⟩
theorem cf_X10_156 : fc_cfV RX10 156 X4_isWet 4 3 := ⟨fc_b3 127 rfl rfl, mf_X4_isWet, fc_b3 128 rfl rfl, fc_b3 129 rfl rfl, rfl⟩
theorem cf_X10_171 : fc_cfV RX10 171 X4_openFlow 4 3 := ⟨fc_b3 139 rfl rfl, mf_X4_openFlow, fc_b3 140 rfl rfl, fc_b3 141 rfl rfl, rfl⟩
theorem cf_X10_184 : fc_cfS RX10 184 X10_isNoTrack 1 := ⟨fc_b3 160 rfl rfl, mf_X10_isNoTrack, fc_b3 161 rfl rfl⟩
theorem cf_X10_191 : fc_cfV RX10 191 X8_hear 8 6 := ⟨fc_b3 171 rfl rfl, mf_X8_hear, fc_b3 172 rfl rfl, fc_b3 173 rfl rfl, rfl⟩
theorem cf_X10_195 : fc_cfV RX10 195 X8_waterKnown 8 3 := ⟨fc_b3 181 rfl rfl, mf_X8_waterKnown, fc_b3 182 rfl rfl, fc_b3 183 rfl rfl, rfl⟩
theorem cf_X10_198 : fc_cfV RX10 198 X8_windKnown 8 3 := ⟨fc_b3 189 rfl rfl, mf_X8_windKnown, fc_b3 190 rfl rfl, fc_b3 191 rfl rfl, rfl⟩
theorem cf_X10_201 : fc_cfV RX10 201 X0_append 0 2 := ⟨fc_b3 197 rfl rfl, mf_X0_append, fc_b3 198 rfl rfl, fc_b3 199 rfl rfl, rfl⟩
theorem cf_X10_211 : fc_cfV RX10 211 X4_gather 4 3 := ⟨fc_b3 214 rfl rfl, mf_X4_gather, fc_b3 215 rfl rfl, fc_b3 216 rfl rfl, rfl⟩
theorem cf_X10_218 : fc_cfV RX10 218 X0_worth 0 2 := ⟨fc_b3 222 rfl rfl, mf_X0_worth, fc_b3 223 rfl rfl, fc_b3 224 rfl rfl, rfl⟩
theorem cf_X10_222 : fc_cfV RX10 222 X8_wasDanger 8 2 := ⟨fc_b3 237 rfl rfl, mf_X8_wasDanger, fc_b3 238 rfl rfl, fc_b3 239 rfl rfl, rfl⟩
theorem cf_X10_226 : fc_cfV RX10 226 X4_goBy 4 2 := ⟨fc_b4 9 rfl rfl, mf_X4_goBy, fc_b4 10 rfl rfl, fc_b4 11 rfl rfl, rfl⟩
theorem cf_X10_230 : fc_cfV RX10 230 X4_standInWater 4 3 := ⟨fc_b4 45 rfl rfl, mf_X4_standInWater, fc_b4 46 rfl rfl, fc_b4 47 rfl rfl, rfl⟩
theorem cf_X10_239 : fc_cfV RX10 239 X3_foreseen 3 1 := ⟨fc_b4 54 rfl rfl, mf_X3_foreseen, fc_b4 55 rfl rfl, fc_b4 56 rfl rfl, rfl⟩
theorem cf_X10_243 : fc_cfS RX10 243 J6_bitCount_0f7a4 1 := ⟨fc_b4 77 rfl rfl, mf_J6_bitCount_0f7a4, fc_b4 78 rfl rfl⟩
theorem cf_X10_248 : fc_cfV RX10 248 X3_search 3 1 := ⟨fc_b4 83 rfl rfl, mf_X3_search, fc_b4 84 rfl rfl, fc_b4 85 rfl rfl, rfl⟩
theorem cf_X10_256 : fc_cfS RX10 256 X10_sum 1 := ⟨fc_b4 106 rfl rfl, mf_X10_sum, fc_b4 107 rfl rfl⟩
theorem cf_X10_266 : fc_cfS RX10 266 X10_isNoSheet 1 := ⟨fc_b4 113 rfl rfl, mf_X10_isNoSheet, fc_b4 114 rfl rfl⟩
theorem cf_X10_272 : fc_cfV RX10 272 X7_lay 7 3 := ⟨fc_b4 116 rfl rfl, mf_X7_lay, fc_b4 117 rfl rfl, fc_b4 118 rfl rfl, rfl⟩
theorem cf_X10_279 : fc_cfV RX10 279 X7_write 7 3 := ⟨fc_b4 124 rfl rfl, mf_X7_write, fc_b4 125 rfl rfl, fc_b4 126 rfl rfl, rfl⟩
theorem cf_X10_281 : fc_cfV RX10 281 X7_holds 7 3 := ⟨fc_b4 132 rfl rfl, mf_X7_holds, fc_b4 133 rfl rfl, fc_b4 134 rfl rfl, rfl⟩
theorem cf_X10_288 : Cond.methodLink RX10 288 arraycopyName ∈ fc_tbl ∧ Cond.native arraycopyName ∈ fc_tbl ∧ Cond.static arraycopyName ∈ fc_tbl ∧ Cond.initialized "java/lang/System" ∈ fc_tbl := ⟨fc_b4 136 rfl rfl, fc_b4 64 rfl rfl, fc_b4 63 rfl rfl, fc_b1 19 rfl rfl⟩
theorem cf_X10_294 : fc_cfV RX10 294 X6_isOfKind 6 2 := ⟨fc_b4 145 rfl rfl, mf_X6_isOfKind, fc_b4 146 rfl rfl, fc_b4 147 rfl rfl, rfl⟩
theorem cf_X11_18 : fc_cfS RX11 18 X11_isIn 3 := ⟨fc_b4 156 rfl rfl, mf_X11_isIn, fc_b4 157 rfl rfl⟩
theorem cf_X11_42 : fc_cfV RX11 42 X11_isZone 11 1 := ⟨fc_b4 170 rfl rfl, mf_X11_isZone, fc_b4 172 rfl rfl, fc_b0 23 rfl rfl, rfl⟩
theorem cf_X11_46 : fc_cfV RX11 46 X11_isShelter 11 1 := ⟨fc_b4 179 rfl rfl, mf_X11_isShelter, fc_b4 181 rfl rfl, fc_b0 25 rfl rfl, rfl⟩
theorem cf_X11_51 : fc_cfV RX11 51 X11_isGoal 11 1 := ⟨fc_b4 175 rfl rfl, mf_X11_isGoal, fc_b4 177 rfl rfl, fc_b0 24 rfl rfl, rfl⟩
theorem cf_X11_71 : fc_cfV RX11 71 X11_isRoad 11 1 := ⟨fc_b4 188 rfl rfl, mf_X11_isRoad, fc_b4 190 rfl rfl, fc_b0 26 rfl rfl, rfl⟩
theorem cf_X11_102 : fc_cfV RX11 102 X11_isWet 11 3 := ⟨fc_b4 206 rfl rfl, mf_X11_isWet, fc_b4 208 rfl rfl, fc_b0 27 rfl rfl, rfl⟩
theorem cf_X11_112 : fc_cfV RX11 112 X11_roomLeft 11 1 := ⟨fc_b4 214 rfl rfl, mf_X11_roomLeft, fc_b4 216 rfl rfl, fc_b0 28 rfl rfl, rfl⟩
theorem cf_X11_116 : fc_cfV RX11 116 X11_canTake 11 3 := ⟨fc_b4 222 rfl rfl, mf_X11_canTake, fc_b4 224 rfl rfl, fc_b0 29 rfl rfl, rfl⟩
theorem cf_X11_120 : fc_cfV RX11 120 X11_isBus 11 1 := ⟨fc_b4 230 rfl rfl, mf_X11_isBus, fc_b4 232 rfl rfl, fc_b0 30 rfl rfl, rfl⟩
theorem cf_X11_139 : fc_cfS RX11 139 X11_isTrack 1 := ⟨fc_b5 4 rfl rfl, mf_X11_isTrack, fc_b5 5 rfl rfl⟩
theorem cf_X11_171 : fc_cfV RX11 171 X11_knownOf 11 4 := ⟨fc_b5 20 rfl rfl, mf_X11_knownOf, fc_b5 22 rfl rfl, fc_b0 31 rfl rfl, rfl⟩
theorem cf_X11_187 : fc_cfV RX11 187 X11_isLetter 11 1 := ⟨fc_b5 41 rfl rfl, mf_X11_isLetter, fc_b5 43 rfl rfl, fc_b0 34 rfl rfl, rfl⟩
theorem cf_X11_206 : fc_cfV RX11 206 X11_isDigit 11 1 := ⟨fc_b5 49 rfl rfl, mf_X11_isDigit, fc_b5 51 rfl rfl, fc_b0 36 rfl rfl, rfl⟩
theorem cf_X11_209 : fc_cfV RX11 209 X11_readWord 11 0 := ⟨fc_b5 45 rfl rfl, mf_X11_readWord, fc_b5 47 rfl rfl, fc_b0 35 rfl rfl, rfl⟩
theorem cf_X11_213 : fc_cfV RX11 213 X11_readNumber 11 0 := ⟨fc_b5 53 rfl rfl, mf_X11_readNumber, fc_b5 55 rfl rfl, fc_b0 37 rfl rfl, rfl⟩
theorem cf_X11_231 : fc_cfS RX11 231 X11_rank 1 := ⟨fc_b5 73 rfl rfl, mf_X11_rank, fc_b5 74 rfl rfl⟩
theorem cf_X11_237 : fc_cfV RX11 237 X11_emit 11 1 := ⟨fc_b5 65 rfl rfl, mf_X11_emit, fc_b5 67 rfl rfl, fc_b0 40 rfl rfl, rfl⟩
theorem cf_X11_241 : fc_cfV RX11 241 X11_isSign 11 1 := ⟨fc_b5 76 rfl rfl, mf_X11_isSign, fc_b5 78 rfl rfl, fc_b0 42 rfl rfl, rfl⟩
theorem cf_X11_244 : fc_cfV RX11 244 X11_isKey 11 1 := ⟨fc_b5 57 rfl rfl, mf_X11_isKey, fc_b5 59 rfl rfl, fc_b0 38 rfl rfl, rfl⟩
theorem cf_X11_254 : fc_cfV RX11 254 X11_doAll 11 1 := ⟨fc_b5 69 rfl rfl, mf_X11_doAll, fc_b5 71 rfl rfl, fc_b0 41 rfl rfl, rfl⟩
theorem cf_X11_257 : fc_cfV RX11 257 X11_await 11 1 := ⟨fc_b5 84 rfl rfl, mf_X11_await, fc_b5 86 rfl rfl, fc_b0 44 rfl rfl, rfl⟩
theorem cf_X11_260 : fc_cfV RX11 260 X11_ahead 11 1 := ⟨fc_b5 80 rfl rfl, mf_X11_ahead, fc_b5 82 rfl rfl, fc_b0 43 rfl rfl, rfl⟩
theorem cf_X11_267 : fc_cfV RX11 267 X11_between 11 0 := ⟨fc_b5 88 rfl rfl, mf_X11_between, fc_b5 90 rfl rfl, fc_b0 45 rfl rfl, rfl⟩
theorem cf_X11_271 : fc_cfV RX11 271 X11_closes 11 0 := ⟨fc_b5 92 rfl rfl, mf_X11_closes, fc_b5 94 rfl rfl, fc_b0 46 rfl rfl, rfl⟩
theorem cf_X11_274 : fc_cfV RX11 274 X11_next 11 0 := ⟨fc_b5 37 rfl rfl, mf_X11_next, fc_b5 39 rfl rfl, fc_b0 33 rfl rfl, rfl⟩
theorem cf_X11_277 : fc_cfV RX11 277 X11_readE 11 1 := ⟨fc_b5 61 rfl rfl, mf_X11_readE, fc_b5 63 rfl rfl, fc_b0 39 rfl rfl, rfl⟩
theorem cf_X11_283 : fc_cfV RX11 283 X11_readAll 11 1 := ⟨fc_b5 33 rfl rfl, mf_X11_readAll, fc_b5 35 rfl rfl, fc_b0 32 rfl rfl, rfl⟩
theorem cf_X11_292 : fc_cfV RX11 292 X11_nameOf 11 4 := ⟨fc_b5 108 rfl rfl, mf_X11_nameOf, fc_b5 110 rfl rfl, fc_b0 48 rfl rfl, rfl⟩
theorem cf_X11_296 : fc_cfS RX11 296 X11_done 3 := ⟨fc_b5 112 rfl rfl, mf_X11_done, fc_b5 113 rfl rfl⟩
theorem cf_X11_299 : fc_cfV RX11 299 X11_worthOf 11 4 := ⟨fc_b5 104 rfl rfl, mf_X11_worthOf, fc_b5 106 rfl rfl, fc_b0 47 rfl rfl, rfl⟩
theorem cf_X11_304 : Cond.methodLink RX11 304 objectInit ∈ fc_tbl ∧ Cond.instanceMethod objectInit ∈ fc_tbl ∧ Cond.code objectInit ⟨#[0xb1]⟩ 1 none ∈ fc_tbl := ⟨fc_b5 120 rfl rfl, fc_b1 27 rfl rfl, fc_b1 28 rfl rfl⟩
theorem cf_X11_354 : fc_cfV RX11 354 X11_wasWet 11 3 := ⟨fc_b6 116 rfl rfl, mf_X11_wasWet, fc_b6 118 rfl rfl, fc_b0 49 rfl rfl, rfl⟩
theorem cf_X11_357 : Cond.methodLink RX11 357 Lib.Math.min.name ∈ fc_tbl ∧ Cond.static Lib.Math.min.name ∈ fc_tbl ∧ Cond.initialized "java/lang/Math" ∈ fc_tbl ∧ Cond.code Lib.Math.min.name Lib.Math.min.code 2 (some .int) ∈ fc_tbl := ⟨fc_b6 132 rfl rfl, fc_b4 2 rfl rfl, fc_b1 18 rfl rfl, fc_b4 3 rfl rfl⟩
theorem cf_X11_363 : Cond.methodLink RX11 363 Lib.Math.max.name ∈ fc_tbl ∧ Cond.static Lib.Math.max.name ∈ fc_tbl ∧ Cond.initialized "java/lang/Math" ∈ fc_tbl ∧ Cond.code Lib.Math.max.name Lib.Math.max.code 2 (some .int) ∈ fc_tbl := ⟨fc_b6 133 rfl rfl, fc_b4 21 rfl rfl, fc_b1 18 rfl rfl, fc_b4 22 rfl rfl⟩
theorem cf_X11_369 : fc_cfV RX11 369 X11_leave 11 1 := ⟨fc_b6 128 rfl rfl, mf_X11_leave, fc_b6 130 rfl rfl, fc_b0 51 rfl rfl, rfl⟩
theorem cf_X11_372 : fc_cfV RX11 372 X11_move 11 1 := ⟨fc_b6 134 rfl rfl, mf_X11_move, fc_b6 136 rfl rfl, fc_b0 52 rfl rfl, rfl⟩
theorem cf_X11_375 : fc_cfV RX11 375 X11_ride 11 1 := ⟨fc_b6 138 rfl rfl, mf_X11_ride, fc_b6 140 rfl rfl, fc_b0 53 rfl rfl, rfl⟩
theorem cf_X11_378 : fc_cfV RX11 378 X11_step 11 1 := ⟨fc_b6 124 rfl rfl, mf_X11_step, fc_b6 126 rfl rfl, fc_b0 50 rfl rfl, rfl⟩
theorem cf_X11_381 : fc_cfV RX11 381 X11_inWaterOf 11 1 := ⟨fc_b6 146 rfl rfl, mf_X11_inWaterOf, fc_b6 148 rfl rfl, fc_b0 54 rfl rfl, rfl⟩
theorem cf_X11_390 : fc_cfV RX11 390 X11_keepAll 11 0 := ⟨fc_b6 163 rfl rfl, mf_X11_keepAll, fc_b6 165 rfl rfl, fc_b0 57 rfl rfl, rfl⟩
theorem cf_X11_393 : fc_cfV RX11 393 X11_bringBack 11 0 := ⟨fc_b6 167 rfl rfl, mf_X11_bringBack, fc_b6 169 rfl rfl, fc_b0 58 rfl rfl, rfl⟩
theorem cf_X11_398 : fc_cfV RX11 398 X11_takeCalls 11 1 := ⟨fc_b6 154 rfl rfl, mf_X11_takeCalls, fc_b6 156 rfl rfl, fc_b0 55 rfl rfl, rfl⟩
theorem cf_X11_402 : fc_cfV RX11 402 X11_played 11 1 := ⟨fc_b6 159 rfl rfl, mf_X11_played, fc_b6 161 rfl rfl, fc_b0 56 rfl rfl, rfl⟩
theorem cf_X11_405 : fc_cfV RX11 405 X11_mayAsk 11 1 := ⟨fc_b6 175 rfl rfl, mf_X11_mayAsk, fc_b6 177 rfl rfl, fc_b0 59 rfl rfl, rfl⟩
theorem cf_X11_408 : fc_cfS RX11 408 X11_countBits 1 := ⟨fc_b6 179 rfl rfl, mf_X11_countBits, fc_b6 180 rfl rfl⟩
theorem cf_X11_411 : fc_cfV RX11 411 X11_choose 11 3 := ⟨fc_b6 182 rfl rfl, mf_X11_choose, fc_b6 184 rfl rfl, fc_b0 60 rfl rfl, rfl⟩
theorem cf_X11_414 : fc_cfV RX11 414 X11_worst 11 0 := ⟨fc_b6 186 rfl rfl, mf_X11_worst, fc_b6 188 rfl rfl, fc_b0 61 rfl rfl, rfl⟩
theorem cf_X11_418 : fc_cfS RX11 418 X11_sumOf 2 := ⟨fc_b6 198 rfl rfl, mf_X11_sumOf, fc_b6 199 rfl rfl⟩
theorem cf_X11_424 : fc_cfS RX11 424 X11_isSheet 1 := ⟨fc_b6 205 rfl rfl, mf_X11_isSheet, fc_b6 206 rfl rfl⟩
theorem cf_X11_429 : fc_cfS RX11 429 X11_cutTo 2 := ⟨fc_b6 214 rfl rfl, mf_X11_cutTo, fc_b6 215 rfl rfl⟩
theorem cf_X11_436 : fc_cfV RX11 436 X11_news 11 5 := ⟨fc_b6 227 rfl rfl, mf_X11_news, fc_b5 12 rfl rfl, fc_b5 13 rfl rfl, rfl⟩
theorem cf_X2_3 : Cond.methodLink RX2 3 objectInit ∈ fc_tbl ∧ Cond.instanceMethod objectInit ∈ fc_tbl ∧ Cond.code objectInit ⟨#[0xb1]⟩ 1 none ∈ fc_tbl := ⟨fc_b2 142 rfl rfl, fc_b1 27 rfl rfl, fc_b1 28 rfl rfl⟩
theorem cf_X2_36 : fc_cfS RX2 36 J7_fill_53178 2 := ⟨fc_b2 143 rfl rfl, mf_J7_fill_53178, fc_b1 36 rfl rfl⟩
theorem cf_X2_42 : Cond.methodLink RX2 42 arraycopyName ∈ fc_tbl ∧ Cond.native arraycopyName ∈ fc_tbl ∧ Cond.static arraycopyName ∈ fc_tbl ∧ Cond.initialized "java/lang/System" ∈ fc_tbl := ⟨fc_b4 62 rfl rfl, fc_b4 64 rfl rfl, fc_b4 63 rfl rfl, fc_b1 19 rfl rfl⟩
theorem cf_X3_3 : Cond.methodLink RX3 3 objectInit ∈ fc_tbl ∧ Cond.instanceMethod objectInit ∈ fc_tbl ∧ Cond.code objectInit ⟨#[0xb1]⟩ 1 none ∈ fc_tbl := ⟨fc_b2 231 rfl rfl, fc_b1 27 rfl rfl, fc_b1 28 rfl rfl⟩
theorem cf_X3_11 : fc_cfI RX3 11 X2_init 0 := ⟨fc_b2 233 rfl rfl, mf_X2_init, rfl, rfl, fc_b2 140 rfl rfl⟩
theorem cf_X3_43 : fc_cfS RX3 43 J7_fill_53178 2 := ⟨fc_b2 234 rfl rfl, mf_J7_fill_53178, fc_b1 36 rfl rfl⟩
theorem cf_X3_49 : fc_cfV RX3 49 X2_become 2 1 := ⟨fc_b4 58 rfl rfl, mf_X2_become, fc_b4 59 rfl rfl, fc_b4 60 rfl rfl, rfl⟩
theorem cf_X3_65 : fc_cfV RX3 65 X3_settled 3 1 := ⟨fc_b4 65 rfl rfl, mf_X3_settled, fc_b4 67 rfl rfl, fc_b0 20 rfl rfl, rfl⟩
theorem cf_X3_69 : fc_cfV RX3 69 X4_goBy 4 2 := ⟨fc_b4 71 rfl rfl, mf_X4_goBy, fc_b4 10 rfl rfl, fc_b4 11 rfl rfl, rfl⟩
theorem cf_X3_80 : fc_cfV RX3 80 X4_standInWater 4 3 := ⟨fc_b4 72 rfl rfl, mf_X4_standInWater, fc_b4 46 rfl rfl, fc_b4 47 rfl rfl, rfl⟩
theorem cf_X3_84 : fc_cfV RX3 84 X4_isWet 4 3 := ⟨fc_b4 69 rfl rfl, mf_X4_isWet, fc_b3 128 rfl rfl, fc_b3 129 rfl rfl, rfl⟩
theorem cf_X3_88 : Cond.methodLink RX3 88 Lib.Math.max.name ∈ fc_tbl ∧ Cond.static Lib.Math.max.name ∈ fc_tbl ∧ Cond.initialized "java/lang/Math" ∈ fc_tbl ∧ Cond.code Lib.Math.max.name Lib.Math.max.code 2 (some .int) ∈ fc_tbl := ⟨fc_b4 70 rfl rfl, fc_b4 21 rfl rfl, fc_b1 18 rfl rfl, fc_b4 22 rfl rfl⟩
theorem cf_X3_95 : fc_cfV RX3 95 X3_plan 3 2 := ⟨fc_b4 88 rfl rfl, mf_X3_plan, fc_b4 90 rfl rfl, fc_b0 21 rfl rfl, rfl⟩
theorem cf_X3_98 : fc_cfV RX3 98 X3_worst 3 1 := ⟨fc_b4 92 rfl rfl, mf_X3_worst, fc_b4 94 rfl rfl, fc_b0 22 rfl rfl, rfl⟩
theorem cf_X3_101 : Cond.methodLink RX3 101 arraycopyName ∈ fc_tbl ∧ Cond.native arraycopyName ∈ fc_tbl ∧ Cond.static arraycopyName ∈ fc_tbl ∧ Cond.initialized "java/lang/System" ∈ fc_tbl := ⟨fc_b4 97 rfl rfl, fc_b4 64 rfl rfl, fc_b4 63 rfl rfl, fc_b1 19 rfl rfl⟩
theorem cf_X3_111 : fc_cfV RX3 111 X3_foreseen 3 1 := ⟨fc_b4 96 rfl rfl, mf_X3_foreseen, fc_b4 55 rfl rfl, fc_b4 56 rfl rfl, rfl⟩
theorem cf_X4_3 : Cond.methodLink RX4 3 objectInit ∈ fc_tbl ∧ Cond.instanceMethod objectInit ∈ fc_tbl ∧ Cond.code objectInit ⟨#[0xb1]⟩ 1 none ∈ fc_tbl := ⟨fc_b2 202 rfl rfl, fc_b1 27 rfl rfl, fc_b1 28 rfl rfl⟩
theorem cf_X4_57 : fc_cfV RX4 57 X4_isWet 4 3 := ⟨fc_b3 143 rfl rfl, mf_X4_isWet, fc_b3 128 rfl rfl, fc_b3 129 rfl rfl, rfl⟩
theorem cf_X4_64 : fc_cfV RX4 64 X6_canTake 6 3 := ⟨fc_b3 144 rfl rfl, mf_X6_canTake, fc_b3 145 rfl rfl, fc_b3 146 rfl rfl, rfl⟩
theorem cf_X4_83 : fc_cfV RX4 83 X2_isCalled 2 1 := ⟨fc_b3 218 rfl rfl, mf_X2_isCalled, fc_b3 219 rfl rfl, fc_b3 220 rfl rfl, rfl⟩
theorem cf_X4_93 : fc_cfV RX4 93 X4_setOut 4 2 := ⟨fc_b4 13 rfl rfl, mf_X4_setOut, fc_b4 15 rfl rfl, fc_b0 15 rfl rfl, rfl⟩
theorem cf_X4_97 : fc_cfV RX4 97 X4_chooseMoving 4 2 := ⟨fc_b4 23 rfl rfl, mf_X4_chooseMoving, fc_b4 25 rfl rfl, fc_b0 16 rfl rfl, rfl⟩
theorem cf_X4_100 : fc_cfV RX4 100 X4_move 4 1 := ⟨fc_b4 29 rfl rfl, mf_X4_move, fc_b4 31 rfl rfl, fc_b0 17 rfl rfl, rfl⟩
theorem cf_X4_104 : fc_cfV RX4 104 X4_board 4 2 := ⟨fc_b4 33 rfl rfl, mf_X4_board, fc_b4 35 rfl rfl, fc_b0 18 rfl rfl, rfl⟩
theorem cf_X4_107 : fc_cfV RX4 107 X4_freeBuses 4 1 := ⟨fc_b4 37 rfl rfl, mf_X4_freeBuses, fc_b4 39 rfl rfl, fc_b0 19 rfl rfl, rfl⟩
theorem cf_X4_110 : fc_cfV RX4 110 X4_gather 4 3 := ⟨fc_b4 17 rfl rfl, mf_X4_gather, fc_b3 215 rfl rfl, fc_b3 216 rfl rfl, rfl⟩
theorem cf_X4_114 : fc_cfV RX4 114 X0_worth 0 2 := ⟨fc_b4 18 rfl rfl, mf_X0_worth, fc_b3 223 rfl rfl, fc_b3 224 rfl rfl, rfl⟩
theorem cf_X4_120 : Cond.methodLink RX4 120 Lib.Math.min.name ∈ fc_tbl ∧ Cond.static Lib.Math.min.name ∈ fc_tbl ∧ Cond.initialized "java/lang/Math" ∈ fc_tbl ∧ Cond.code Lib.Math.min.name Lib.Math.min.code 2 (some .int) ∈ fc_tbl := ⟨fc_b4 19 rfl rfl, fc_b4 2 rfl rfl, fc_b1 18 rfl rfl, fc_b4 3 rfl rfl⟩
theorem cf_X4_126 : Cond.methodLink RX4 126 Lib.Math.max.name ∈ fc_tbl ∧ Cond.static Lib.Math.max.name ∈ fc_tbl ∧ Cond.initialized "java/lang/Math" ∈ fc_tbl ∧ Cond.code Lib.Math.max.name Lib.Math.max.code 2 (some .int) ∈ fc_tbl := ⟨fc_b4 20 rfl rfl, fc_b4 21 rfl rfl, fc_b1 18 rfl rfl, fc_b4 22 rfl rfl⟩
theorem cf_X4_135 : fc_cfV RX4 135 X4_openFlow 4 3 := ⟨fc_b4 27 rfl rfl, mf_X4_openFlow, fc_b3 140 rfl rfl, fc_b3 141 rfl rfl, rfl⟩
theorem cf_X4_138 : fc_cfSN RX4 138 X10_isOutside "FloodCity" 3 := ⟨List.mem_of_getElem? (i := 5) rfl, mf_X10_isOutside, fc_b3 76 rfl rfl⟩
theorem cf_X5_5 : Cond.methodLink RX5 5 objectInit ∈ fc_tbl ∧ Cond.instanceMethod objectInit ∈ fc_tbl ∧ Cond.code objectInit ⟨#[0xb1]⟩ 1 none ∈ fc_tbl := ⟨fc_b1 185 rfl rfl, fc_b1 27 rfl rfl, fc_b1 28 rfl rfl⟩
theorem cf_X5_32 : fc_cfV RX5 32 X5_nextToken 5 0 := ⟨fc_b2 72 rfl rfl, mf_X5_nextToken, fc_b2 74 rfl rfl, fc_b0 0 rfl rfl, rfl⟩
theorem cf_X5_35 : fc_cfV RX5 35 X5_expect 5 1 := ⟨fc_b2 110 rfl rfl, mf_X5_expect, fc_b2 112 rfl rfl, fc_b0 4 rfl rfl, rfl⟩
theorem cf_X5_39 : fc_cfV RX5 39 X5_readLevel 5 2 := ⟨fc_b2 118 rfl rfl, mf_X5_readLevel, fc_b2 120 rfl rfl, fc_b0 6 rfl rfl, rfl⟩
theorem cf_X5_49 : fc_cfV RX5 49 X5_fail 5 0 := ⟨fc_b2 114 rfl rfl, mf_X5_fail, fc_b2 116 rfl rfl, fc_b0 5 rfl rfl, rfl⟩
theorem cf_X5_55 : fc_cfV RX5 55 X5_readOpened 5 2 := ⟨fc_b2 122 rfl rfl, mf_X5_readOpened, fc_b2 124 rfl rfl, fc_b0 7 rfl rfl, rfl⟩
theorem cf_X5_58 : fc_cfV RX5 58 X5_readLeaf 5 0 := ⟨fc_b2 130 rfl rfl, mf_X5_readLeaf, fc_b2 132 rfl rfl, fc_b0 9 rfl rfl, rfl⟩
theorem cf_X5_61 : fc_cfS RX5 61 X5_joinLevel 1 := ⟨fc_b2 134 rfl rfl, mf_X5_joinLevel, fc_b2 135 rfl rfl⟩
theorem cf_X5_65 : fc_cfV RX5 65 X5_put 5 1 := ⟨fc_b2 126 rfl rfl, mf_X5_put, fc_b2 128 rfl rfl, fc_b0 8 rfl rfl, rfl⟩
theorem cf_X5_71 : fc_cfS RX5 71 X5_isLetter 1 := ⟨fc_b2 76 rfl rfl, mf_X5_isLetter, fc_b2 77 rfl rfl⟩
theorem cf_X5_75 : fc_cfV RX5 75 X5_takeWord 5 0 := ⟨fc_b2 79 rfl rfl, mf_X5_takeWord, fc_b2 81 rfl rfl, fc_b0 1 rfl rfl, rfl⟩
theorem cf_X5_78 : fc_cfS RX5 78 X5_isDigit 1 := ⟨fc_b2 100 rfl rfl, mf_X5_isDigit, fc_b2 101 rfl rfl⟩
theorem cf_X5_81 : fc_cfV RX5 81 X5_takeNumber 5 0 := ⟨fc_b2 103 rfl rfl, mf_X5_takeNumber, fc_b2 105 rfl rfl, fc_b0 3 rfl rfl, rfl⟩
theorem cf_X5_84 : fc_cfS RX5 84 X5_isSign 1 := ⟨fc_b2 107 rfl rfl, mf_X5_isSign, fc_b2 108 rfl rfl⟩
theorem cf_X5_89 : fc_cfV RX5 89 X5_spells 5 1 := ⟨fc_b2 84 rfl rfl, mf_X5_spells, fc_b2 86 rfl rfl, fc_b0 2 rfl rfl, rfl⟩
theorem cf_X5_113 : fc_cfVS RX5 113 J0_length_8abf5 0 := ⟨fc_b2 88 rfl rfl, mf_J0_length_8abf5, fc_b2 17 rfl rfl, fc_b2 18 rfl rfl, rfl⟩
theorem cf_X5_118 : fc_cfVS RX5 118 J0_charAt_5068e 1 := ⟨fc_b2 89 rfl rfl, mf_J0_charAt_5068e, fc_b2 27 rfl rfl, fc_b2 28 rfl rfl, rfl⟩
theorem cf_X6_3 : Cond.methodLink RX6 3 objectInit ∈ fc_tbl ∧ Cond.instanceMethod objectInit ∈ fc_tbl ∧ Cond.code objectInit ⟨#[0xb1]⟩ 1 none ∈ fc_tbl := ⟨fc_b1 63 rfl rfl, fc_b1 27 rfl rfl, fc_b1 28 rfl rfl⟩
theorem cf_X7_3 : Cond.methodLink RX7 3 objectInit ∈ fc_tbl ∧ Cond.instanceMethod objectInit ∈ fc_tbl ∧ Cond.code objectInit ⟨#[0xb1]⟩ 1 none ∈ fc_tbl := ⟨fc_b3 27 rfl rfl, fc_b1 27 rfl rfl, fc_b1 28 rfl rfl⟩
theorem cf_X7_23 : fc_cfS RX7 23 J7_fill_53178 2 := ⟨fc_b3 29 rfl rfl, mf_J7_fill_53178, fc_b1 36 rfl rfl⟩
theorem cf_X8_3 : Cond.methodLink RX8 3 objectInit ∈ fc_tbl ∧ Cond.instanceMethod objectInit ∈ fc_tbl ∧ Cond.code objectInit ⟨#[0xb1]⟩ 1 none ∈ fc_tbl := ⟨fc_b1 125 rfl rfl, fc_b1 27 rfl rfl, fc_b1 28 rfl rfl⟩
theorem cf_X8_46 : fc_cfSN RX8 46 X10_isNoTrack "FloodCity" 1 := ⟨List.mem_of_getElem? (i := 3) rfl, mf_X10_isNoTrack, fc_b3 161 rfl rfl⟩
theorem cf_X8_50 : fc_cfSN RX8 50 X10_isOutside "FloodCity" 3 := ⟨List.mem_of_getElem? (i := 4) rfl, mf_X10_isOutside, fc_b3 76 rfl rfl⟩
theorem cf_X8_57 : fc_cfV RX8 57 X8_teller 8 3 := ⟨fc_b3 185 rfl rfl, mf_X8_teller, fc_b3 187 rfl rfl, fc_b0 14 rfl rfl, rfl⟩
theorem cf_X8_61 : Cond.methodLink RX8 61 Lib.Math.min.name ∈ fc_tbl ∧ Cond.static Lib.Math.min.name ∈ fc_tbl ∧ Cond.initialized "java/lang/Math" ∈ fc_tbl ∧ Cond.code Lib.Math.min.name Lib.Math.min.code 2 (some .int) ∈ fc_tbl := ⟨fc_b4 1 rfl rfl, fc_b4 2 rfl rfl, fc_b1 18 rfl rfl, fc_b4 3 rfl rfl⟩
theorem cf_X8_67 : fc_cfV RX8 67 X8_waterKnown 8 3 := ⟨fc_b4 4 rfl rfl, mf_X8_waterKnown, fc_b3 182 rfl rfl, fc_b3 183 rfl rfl, rfl⟩
theorem cf_X9_3 : Cond.methodLink RX9 3 objectInit ∈ fc_tbl ∧ Cond.instanceMethod objectInit ∈ fc_tbl ∧ Cond.code objectInit ⟨#[0xb1]⟩ 1 none ∈ fc_tbl := ⟨fc_b1 34 rfl rfl, fc_b1 27 rfl rfl, fc_b1 28 rfl rfl⟩
theorem cf_X9_18 : fc_cfS RX9 18 J7_fill_53178 2 := ⟨fc_b1 35 rfl rfl, mf_J7_fill_53178, fc_b1 36 rfl rfl⟩
theorem kc_X10_90 : Cond.constant RX10 90 (99999 : Int32) ∈ fc_tbl := fc_b3 78 rfl rfl
theorem kc_X10_209 : Cond.constantLong RX10 209 (-4611686018427387904 : Int64) ∈ fc_tbl := fc_b3 213 rfl rfl
theorem kc_X10_234 : Cond.constantLong RX10 234 (100 : Int64) ∈ fc_tbl := fc_b4 53 rfl rfl
theorem kc_J6_265 : Cond.constant RJ6 265 (1431655765 : Int32) ∈ fc_tbl := fc_b4 80 rfl rfl
theorem kc_J6_266 : Cond.constant RJ6 266 (858993459 : Int32) ∈ fc_tbl := fc_b4 81 rfl rfl
theorem kc_J6_267 : Cond.constant RJ6 267 (252645135 : Int32) ∈ fc_tbl := fc_b4 82 rfl rfl
theorem kc_X3_94 : Cond.constant RX3 94 (1000000 : Int32) ∈ fc_tbl := fc_b4 87 rfl rfl
theorem kc_X11_16 : Cond.constantLong RX11 16 (99 : Int64) ∈ fc_tbl := fc_b4 155 rfl rfl
theorem kc_X11_22 : Cond.constantLong RX11 22 (99999 : Int64) ∈ fc_tbl := fc_b4 159 rfl rfl
theorem kc_X11_24 : Cond.constantLong RX11 24 (999 : Int64) ∈ fc_tbl := fc_b4 160 rfl rfl
theorem kc_X11_49 : Cond.constantLong RX11 49 (5 : Int64) ∈ fc_tbl := fc_b4 169 rfl rfl
theorem kc_X11_54 : Cond.constantLong RX11 54 (9999 : Int64) ∈ fc_tbl := fc_b4 183 rfl rfl
theorem kc_X11_77 : Cond.constantLong RX11 77 (9 : Int64) ∈ fc_tbl := fc_b4 200 rfl rfl
theorem kc_X11_91 : Cond.constantLong RX11 91 (6 : Int64) ∈ fc_tbl := fc_b4 205 rfl rfl
theorem kc_X11_123 : Cond.constantLong RX11 123 (2 : Int64) ∈ fc_tbl := fc_b4 234 rfl rfl
theorem kc_X11_134 : Cond.constantLong RX11 134 (60 : Int64) ∈ fc_tbl := fc_b4 239 rfl rfl
theorem kc_X11_145 : Cond.constantLong RX11 145 (61 : Int64) ∈ fc_tbl := fc_b5 15 rfl rfl
theorem kc_X11_175 : Cond.constantLong RX11 175 (8 : Int64) ∈ fc_tbl := fc_b5 28 rfl rfl
theorem kc_X11_302 : Cond.constantLong RX11 302 (-4611686018427387904 : Int64) ∈ fc_tbl := fc_b5 115 rfl rfl
theorem kc_X11_396 : Cond.constantLong RX11 396 (100 : Int64) ∈ fc_tbl := fc_b6 158 rfl rfl
theorem kc_X11_422 : Cond.constantLong RX11 422 (3 : Int64) ∈ fc_tbl := fc_b6 208 rfl rfl
theorem kc_X11_427 : Cond.constantLong RX11 427 (-1 : Int64) ∈ fc_tbl := fc_b6 209 rfl rfl
theorem kc_X11_432 : Cond.constantLong RX11 432 (10 : Int64) ∈ fc_tbl := fc_b6 225 rfl rfl
theorem kc_X11_434 : Cond.constantLong RX11 434 (4 : Int64) ∈ fc_tbl := fc_b6 226 rfl rfl
theorem kc_L_78 : Cond.constantLong RL 78 (4294967295 : Int64) ∈ fc_tbl := fc_b6 232 rfl rfl
theorem ac_I : Cond.arrayClass .int ∈ fc_tbl := fc_b1 57 rfl rfl
theorem ac_B : Cond.arrayClass .byte ∈ fc_tbl := fc_b1 219 rfl rfl
theorem ac_Z : Cond.arrayClass .boolean ∈ fc_tbl := fc_b1 172 rfl rfl
theorem ac_C : Cond.arrayClass .char ∈ fc_tbl := fc_b6 107 rfl rfl
def fc_SH : fc_Sh := [(20, 9), (19, 4), (0, 6), (0, 6), (16, 6), (0, 14), (0, 14), (0, 14), (0, 14), (0, 14), (11, 5), (0, 4), (0, 4), (0, 4), (0, 4), (18, 12), (2, 3), (4, 3), (0, 61), (0, 61), (0, 61), (4, 3), (0, 61), (0, 61), (0, 61), (0, 40), (0, 40), (0, 40), (0, 40), (0, 40), (0, 40), (10, 9), (1, 160), (4, 6), (0, 160), (0, 160), (0, 160), (0, 160), (0, 160), (0, 160), (0, 6), (0, 6), (0, 160), (15, 10), (0, 0), (12, 10), (0, 6), (0, 6), (0, 6), (0, 6), (0, 3), (0, 3), (0, 4), (0, 4), (14, 7), (0, 6), (0, 14), (13, 8), (12, 10), (0, 6), (0, 6), (0, 6), (0, 6), (0, 3), (0, 3), (0, 4), (0, 4), (0, 6), (0, 6), (0, 4), (17, 3), (4, 4), (0, 40), (0, 40), (0, 40), (0, 40), (0, 4), (0, 4), (21, 75), (0, 6), (0, 6), (0, 6), (0, 6), (0, 6), (0, 6), (0, 3), (0, 3), (0, 3), (0, 14), (0, 14), (0, 14), (0, 14), (0, 14), (0, 4), (0, 4), (0, 4), (0, 4), (0, 4), (0, 4), (0, 3), (0, 40), (0, 40), (0, 40), (0, 40), (0, 40), (0, 40), (0, 183), (0, 183), (1, 160), (0, 1920), (0, 12), (3, 44), (0, 12), (0, 170), (2, 8), (0, 170), (0, 6), (0, 6), (0, 6), (0, 6), (0, 6), (0, 3), (0, 3), (0, 4), (0, 4), (0, 6), (0, 6), (0, 4), (0, 4), (0, 160), (0, 40)]
/-- the references of the world; v: where the reader's codes are -/
def fc_PT (v : Nat) : fc_P := fun c k => match c with
  | 0 => ([some 1, some 4, some 10, some 15, some 31, some 45, some 54, some 57, some 70] : List (Option Nat)).getD k none
  | 1 => ([some 2, some 3, none, none] : List (Option Nat)).getD k none
  | 4 => ([some 5, some 6, some 7, some 8, some 9, none] : List (Option Nat)).getD k none
  | 10 => ([some 11, some 12, some 13, some 14, none] : List (Option Nat)).getD k none
  | 15 => ([some 16, some 17, some 21, some 25, some 26, some 27, some 28, some 29, some 30, none, none, none] : List (Option Nat)).getD k none
  | 17 => ([some 18, some 19, some 20] : List (Option Nat)).getD k none
  | 21 => ([some 22, some 23, some 24] : List (Option Nat)).getD k none
  | 31 => ([some 32, some 33, some 40, some 41, some 42, some 43, none, none, none] : List (Option Nat)).getD k none
  | 33 => ([some 34, some 35, some 36, some 37, some 38, some 39] : List (Option Nat)).getD k none
  | 43 => ([some 32, some v, none, none, none, none, none, none, none, none] : List (Option Nat)).getD k none
  | 45 => ([some 46, some 47, some 48, some 49, some 50, some 51, some 52, some 53, none, none] : List (Option Nat)).getD k none
  | 54 => ([some 1, some 4, some 10, some 15, some 31, some 55, some 56] : List (Option Nat)).getD k none
  | 57 => ([some 1, some 15, some 45, some 54, some 58, some 67, some 68, some 69] : List (Option Nat)).getD k none
  | 58 => ([some 59, some 60, some 61, some 62, some 63, some 64, some 65, some 66, none, none] : List (Option Nat)).getD k none
  | 70 => ([some 71, some 76, some 77] : List (Option Nat)).getD k none
  | 71 => ([some 72, some 73, some 74, some 75] : List (Option Nat)).getD k none
  | 78 => ([none, none, none, some 79, some 80, some 81, some 82, some 83, some 84, none, some 85, some 86, some 87, none, some 88, some 89, some 90, some 91, some 92, none, some 93, some 94, some 95, some 96, some 97, some 98, none, some 99, none, none, some 100, some 101, some 102, some 103, some 104, some 105, some 106, some 107, some 108, none, none, none, some 109, some 110, none, none, none, none, some 111, some 112, some 113, none, none, none, some 114, none, none, some 115, some 116, some 117, some 118, some 119, some 120, some 121, some 122, some 123, some 124, none, none, some 125, some 126, some 127, some 128, some 129, some 130] : List (Option Nat)).getD k none
  | _ => none
theorem sh_0 : fc_SH[0]? = some (20, 9) := rfl
theorem sh_1 : fc_SH[1]? = some (19, 4) := rfl
theorem sh_2 : fc_SH[2]? = some (0, 6) := rfl
theorem sh_3 : fc_SH[3]? = some (0, 6) := rfl
theorem sh_4 : fc_SH[4]? = some (16, 6) := rfl
theorem sh_5 : fc_SH[5]? = some (0, 14) := rfl
theorem sh_6 : fc_SH[6]? = some (0, 14) := rfl
theorem sh_7 : fc_SH[7]? = some (0, 14) := rfl
theorem sh_8 : fc_SH[8]? = some (0, 14) := rfl
theorem sh_9 : fc_SH[9]? = some (0, 14) := rfl
theorem sh_10 : fc_SH[10]? = some (11, 5) := rfl
theorem sh_11 : fc_SH[11]? = some (0, 4) := rfl
theorem sh_12 : fc_SH[12]? = some (0, 4) := rfl
theorem sh_13 : fc_SH[13]? = some (0, 4) := rfl
theorem sh_14 : fc_SH[14]? = some (0, 4) := rfl
theorem sh_15 : fc_SH[15]? = some (18, 12) := rfl
theorem sh_16 : fc_SH[16]? = some (2, 3) := rfl
theorem sh_17 : fc_SH[17]? = some (4, 3) := rfl
theorem sh_18 : fc_SH[18]? = some (0, 61) := rfl
theorem sh_19 : fc_SH[19]? = some (0, 61) := rfl
theorem sh_20 : fc_SH[20]? = some (0, 61) := rfl
theorem sh_21 : fc_SH[21]? = some (4, 3) := rfl
theorem sh_22 : fc_SH[22]? = some (0, 61) := rfl
theorem sh_23 : fc_SH[23]? = some (0, 61) := rfl
theorem sh_24 : fc_SH[24]? = some (0, 61) := rfl
theorem sh_25 : fc_SH[25]? = some (0, 40) := rfl
theorem sh_26 : fc_SH[26]? = some (0, 40) := rfl
theorem sh_27 : fc_SH[27]? = some (0, 40) := rfl
theorem sh_28 : fc_SH[28]? = some (0, 40) := rfl
theorem sh_29 : fc_SH[29]? = some (0, 40) := rfl
theorem sh_30 : fc_SH[30]? = some (0, 40) := rfl
theorem sh_31 : fc_SH[31]? = some (10, 9) := rfl
theorem sh_32 : fc_SH[32]? = some (1, 160) := rfl
theorem sh_33 : fc_SH[33]? = some (4, 6) := rfl
theorem sh_34 : fc_SH[34]? = some (0, 160) := rfl
theorem sh_35 : fc_SH[35]? = some (0, 160) := rfl
theorem sh_36 : fc_SH[36]? = some (0, 160) := rfl
theorem sh_37 : fc_SH[37]? = some (0, 160) := rfl
theorem sh_38 : fc_SH[38]? = some (0, 160) := rfl
theorem sh_39 : fc_SH[39]? = some (0, 160) := rfl
theorem sh_40 : fc_SH[40]? = some (0, 6) := rfl
theorem sh_41 : fc_SH[41]? = some (0, 6) := rfl
theorem sh_42 : fc_SH[42]? = some (0, 160) := rfl
theorem sh_43 : fc_SH[43]? = some (15, 10) := rfl
theorem sh_44 : fc_SH[44]? = some (0, 0) := rfl
theorem sh_45 : fc_SH[45]? = some (12, 10) := rfl
theorem sh_46 : fc_SH[46]? = some (0, 6) := rfl
theorem sh_47 : fc_SH[47]? = some (0, 6) := rfl
theorem sh_48 : fc_SH[48]? = some (0, 6) := rfl
theorem sh_49 : fc_SH[49]? = some (0, 6) := rfl
theorem sh_50 : fc_SH[50]? = some (0, 3) := rfl
theorem sh_51 : fc_SH[51]? = some (0, 3) := rfl
theorem sh_52 : fc_SH[52]? = some (0, 4) := rfl
theorem sh_53 : fc_SH[53]? = some (0, 4) := rfl
theorem sh_54 : fc_SH[54]? = some (14, 7) := rfl
theorem sh_55 : fc_SH[55]? = some (0, 6) := rfl
theorem sh_56 : fc_SH[56]? = some (0, 14) := rfl
theorem sh_57 : fc_SH[57]? = some (13, 8) := rfl
theorem sh_58 : fc_SH[58]? = some (12, 10) := rfl
theorem sh_59 : fc_SH[59]? = some (0, 6) := rfl
theorem sh_60 : fc_SH[60]? = some (0, 6) := rfl
theorem sh_61 : fc_SH[61]? = some (0, 6) := rfl
theorem sh_62 : fc_SH[62]? = some (0, 6) := rfl
theorem sh_63 : fc_SH[63]? = some (0, 3) := rfl
theorem sh_64 : fc_SH[64]? = some (0, 3) := rfl
theorem sh_65 : fc_SH[65]? = some (0, 4) := rfl
theorem sh_66 : fc_SH[66]? = some (0, 4) := rfl
theorem sh_67 : fc_SH[67]? = some (0, 6) := rfl
theorem sh_68 : fc_SH[68]? = some (0, 6) := rfl
theorem sh_69 : fc_SH[69]? = some (0, 4) := rfl
theorem sh_70 : fc_SH[70]? = some (17, 3) := rfl
theorem sh_71 : fc_SH[71]? = some (4, 4) := rfl
theorem sh_72 : fc_SH[72]? = some (0, 40) := rfl
theorem sh_73 : fc_SH[73]? = some (0, 40) := rfl
theorem sh_74 : fc_SH[74]? = some (0, 40) := rfl
theorem sh_75 : fc_SH[75]? = some (0, 40) := rfl
theorem sh_76 : fc_SH[76]? = some (0, 4) := rfl
theorem sh_77 : fc_SH[77]? = some (0, 4) := rfl
theorem sh_78 : fc_SH[78]? = some (21, 75) := rfl
theorem sh_79 : fc_SH[79]? = some (0, 6) := rfl
theorem sh_80 : fc_SH[80]? = some (0, 6) := rfl
theorem sh_81 : fc_SH[81]? = some (0, 6) := rfl
theorem sh_82 : fc_SH[82]? = some (0, 6) := rfl
theorem sh_83 : fc_SH[83]? = some (0, 6) := rfl
theorem sh_84 : fc_SH[84]? = some (0, 6) := rfl
theorem sh_85 : fc_SH[85]? = some (0, 3) := rfl
theorem sh_86 : fc_SH[86]? = some (0, 3) := rfl
theorem sh_87 : fc_SH[87]? = some (0, 3) := rfl
theorem sh_88 : fc_SH[88]? = some (0, 14) := rfl
theorem sh_89 : fc_SH[89]? = some (0, 14) := rfl
theorem sh_90 : fc_SH[90]? = some (0, 14) := rfl
theorem sh_91 : fc_SH[91]? = some (0, 14) := rfl
theorem sh_92 : fc_SH[92]? = some (0, 14) := rfl
theorem sh_93 : fc_SH[93]? = some (0, 4) := rfl
theorem sh_94 : fc_SH[94]? = some (0, 4) := rfl
theorem sh_95 : fc_SH[95]? = some (0, 4) := rfl
theorem sh_96 : fc_SH[96]? = some (0, 4) := rfl
theorem sh_97 : fc_SH[97]? = some (0, 4) := rfl
theorem sh_98 : fc_SH[98]? = some (0, 4) := rfl
theorem sh_99 : fc_SH[99]? = some (0, 3) := rfl
theorem sh_100 : fc_SH[100]? = some (0, 40) := rfl
theorem sh_101 : fc_SH[101]? = some (0, 40) := rfl
theorem sh_102 : fc_SH[102]? = some (0, 40) := rfl
theorem sh_103 : fc_SH[103]? = some (0, 40) := rfl
theorem sh_104 : fc_SH[104]? = some (0, 40) := rfl
theorem sh_105 : fc_SH[105]? = some (0, 40) := rfl
theorem sh_106 : fc_SH[106]? = some (0, 183) := rfl
theorem sh_107 : fc_SH[107]? = some (0, 183) := rfl
theorem sh_108 : fc_SH[108]? = some (1, 160) := rfl
theorem sh_109 : fc_SH[109]? = some (0, 1920) := rfl
theorem sh_110 : fc_SH[110]? = some (0, 12) := rfl
theorem sh_111 : fc_SH[111]? = some (3, 44) := rfl
theorem sh_112 : fc_SH[112]? = some (0, 12) := rfl
theorem sh_113 : fc_SH[113]? = some (0, 170) := rfl
theorem sh_114 : fc_SH[114]? = some (2, 8) := rfl
theorem sh_115 : fc_SH[115]? = some (0, 170) := rfl
theorem sh_116 : fc_SH[116]? = some (0, 6) := rfl
theorem sh_117 : fc_SH[117]? = some (0, 6) := rfl
theorem sh_118 : fc_SH[118]? = some (0, 6) := rfl
theorem sh_119 : fc_SH[119]? = some (0, 6) := rfl
theorem sh_120 : fc_SH[120]? = some (0, 6) := rfl
theorem sh_121 : fc_SH[121]? = some (0, 3) := rfl
theorem sh_122 : fc_SH[122]? = some (0, 3) := rfl
theorem sh_123 : fc_SH[123]? = some (0, 4) := rfl
theorem sh_124 : fc_SH[124]? = some (0, 4) := rfl
theorem sh_125 : fc_SH[125]? = some (0, 6) := rfl
theorem sh_126 : fc_SH[126]? = some (0, 6) := rfl
theorem sh_127 : fc_SH[127]? = some (0, 4) := rfl
theorem sh_128 : fc_SH[128]? = some (0, 4) := rfl
theorem sh_129 : fc_SH[129]? = some (0, 160) := rfl
theorem sh_130 : fc_SH[130]? = some (0, 40) := rfl
theorem pt_0_0 {v : Nat} : fc_PT v 0 0 = some 1 := rfl
theorem pt_0_1 {v : Nat} : fc_PT v 0 1 = some 4 := rfl
theorem pt_0_2 {v : Nat} : fc_PT v 0 2 = some 10 := rfl
theorem pt_0_3 {v : Nat} : fc_PT v 0 3 = some 15 := rfl
theorem pt_0_4 {v : Nat} : fc_PT v 0 4 = some 31 := rfl
theorem pt_0_5 {v : Nat} : fc_PT v 0 5 = some 45 := rfl
theorem pt_0_6 {v : Nat} : fc_PT v 0 6 = some 54 := rfl
theorem pt_0_7 {v : Nat} : fc_PT v 0 7 = some 57 := rfl
theorem pt_0_8 {v : Nat} : fc_PT v 0 8 = some 70 := rfl
theorem pt_1_0 {v : Nat} : fc_PT v 1 0 = some 2 := rfl
theorem pt_1_1 {v : Nat} : fc_PT v 1 1 = some 3 := rfl
theorem pt_4_0 {v : Nat} : fc_PT v 4 0 = some 5 := rfl
theorem pt_4_1 {v : Nat} : fc_PT v 4 1 = some 6 := rfl
theorem pt_4_2 {v : Nat} : fc_PT v 4 2 = some 7 := rfl
theorem pt_4_3 {v : Nat} : fc_PT v 4 3 = some 8 := rfl
theorem pt_4_4 {v : Nat} : fc_PT v 4 4 = some 9 := rfl
theorem pt_10_0 {v : Nat} : fc_PT v 10 0 = some 11 := rfl
theorem pt_10_1 {v : Nat} : fc_PT v 10 1 = some 12 := rfl
theorem pt_10_2 {v : Nat} : fc_PT v 10 2 = some 13 := rfl
theorem pt_10_3 {v : Nat} : fc_PT v 10 3 = some 14 := rfl
theorem pt_15_0 {v : Nat} : fc_PT v 15 0 = some 16 := rfl
theorem pt_15_1 {v : Nat} : fc_PT v 15 1 = some 17 := rfl
theorem pt_15_2 {v : Nat} : fc_PT v 15 2 = some 21 := rfl
theorem pt_15_3 {v : Nat} : fc_PT v 15 3 = some 25 := rfl
theorem pt_15_4 {v : Nat} : fc_PT v 15 4 = some 26 := rfl
theorem pt_15_5 {v : Nat} : fc_PT v 15 5 = some 27 := rfl
theorem pt_15_6 {v : Nat} : fc_PT v 15 6 = some 28 := rfl
theorem pt_15_7 {v : Nat} : fc_PT v 15 7 = some 29 := rfl
theorem pt_15_8 {v : Nat} : fc_PT v 15 8 = some 30 := rfl
theorem pt_17_0 {v : Nat} : fc_PT v 17 0 = some 18 := rfl
theorem pt_17_1 {v : Nat} : fc_PT v 17 1 = some 19 := rfl
theorem pt_17_2 {v : Nat} : fc_PT v 17 2 = some 20 := rfl
theorem pt_21_0 {v : Nat} : fc_PT v 21 0 = some 22 := rfl
theorem pt_21_1 {v : Nat} : fc_PT v 21 1 = some 23 := rfl
theorem pt_21_2 {v : Nat} : fc_PT v 21 2 = some 24 := rfl
theorem pt_31_0 {v : Nat} : fc_PT v 31 0 = some 32 := rfl
theorem pt_31_1 {v : Nat} : fc_PT v 31 1 = some 33 := rfl
theorem pt_31_2 {v : Nat} : fc_PT v 31 2 = some 40 := rfl
theorem pt_31_3 {v : Nat} : fc_PT v 31 3 = some 41 := rfl
theorem pt_31_4 {v : Nat} : fc_PT v 31 4 = some 42 := rfl
theorem pt_31_5 {v : Nat} : fc_PT v 31 5 = some 43 := rfl
theorem pt_33_0 {v : Nat} : fc_PT v 33 0 = some 34 := rfl
theorem pt_33_1 {v : Nat} : fc_PT v 33 1 = some 35 := rfl
theorem pt_33_2 {v : Nat} : fc_PT v 33 2 = some 36 := rfl
theorem pt_33_3 {v : Nat} : fc_PT v 33 3 = some 37 := rfl
theorem pt_33_4 {v : Nat} : fc_PT v 33 4 = some 38 := rfl
theorem pt_33_5 {v : Nat} : fc_PT v 33 5 = some 39 := rfl
theorem pt_43_0 {v : Nat} : fc_PT v 43 0 = some 32 := rfl
theorem pt_43_1 {v : Nat} : fc_PT v 43 1 = some v := rfl
theorem pt_45_0 {v : Nat} : fc_PT v 45 0 = some 46 := rfl
theorem pt_45_1 {v : Nat} : fc_PT v 45 1 = some 47 := rfl
theorem pt_45_2 {v : Nat} : fc_PT v 45 2 = some 48 := rfl
theorem pt_45_3 {v : Nat} : fc_PT v 45 3 = some 49 := rfl
theorem pt_45_4 {v : Nat} : fc_PT v 45 4 = some 50 := rfl
theorem pt_45_5 {v : Nat} : fc_PT v 45 5 = some 51 := rfl
theorem pt_45_6 {v : Nat} : fc_PT v 45 6 = some 52 := rfl
theorem pt_45_7 {v : Nat} : fc_PT v 45 7 = some 53 := rfl
theorem pt_54_0 {v : Nat} : fc_PT v 54 0 = some 1 := rfl
theorem pt_54_1 {v : Nat} : fc_PT v 54 1 = some 4 := rfl
theorem pt_54_2 {v : Nat} : fc_PT v 54 2 = some 10 := rfl
theorem pt_54_3 {v : Nat} : fc_PT v 54 3 = some 15 := rfl
theorem pt_54_4 {v : Nat} : fc_PT v 54 4 = some 31 := rfl
theorem pt_54_5 {v : Nat} : fc_PT v 54 5 = some 55 := rfl
theorem pt_54_6 {v : Nat} : fc_PT v 54 6 = some 56 := rfl
theorem pt_57_0 {v : Nat} : fc_PT v 57 0 = some 1 := rfl
theorem pt_57_1 {v : Nat} : fc_PT v 57 1 = some 15 := rfl
theorem pt_57_2 {v : Nat} : fc_PT v 57 2 = some 45 := rfl
theorem pt_57_3 {v : Nat} : fc_PT v 57 3 = some 54 := rfl
theorem pt_57_4 {v : Nat} : fc_PT v 57 4 = some 58 := rfl
theorem pt_57_5 {v : Nat} : fc_PT v 57 5 = some 67 := rfl
theorem pt_57_6 {v : Nat} : fc_PT v 57 6 = some 68 := rfl
theorem pt_57_7 {v : Nat} : fc_PT v 57 7 = some 69 := rfl
theorem pt_58_0 {v : Nat} : fc_PT v 58 0 = some 59 := rfl
theorem pt_58_1 {v : Nat} : fc_PT v 58 1 = some 60 := rfl
theorem pt_58_2 {v : Nat} : fc_PT v 58 2 = some 61 := rfl
theorem pt_58_3 {v : Nat} : fc_PT v 58 3 = some 62 := rfl
theorem pt_58_4 {v : Nat} : fc_PT v 58 4 = some 63 := rfl
theorem pt_58_5 {v : Nat} : fc_PT v 58 5 = some 64 := rfl
theorem pt_58_6 {v : Nat} : fc_PT v 58 6 = some 65 := rfl
theorem pt_58_7 {v : Nat} : fc_PT v 58 7 = some 66 := rfl
theorem pt_70_0 {v : Nat} : fc_PT v 70 0 = some 71 := rfl
theorem pt_70_1 {v : Nat} : fc_PT v 70 1 = some 76 := rfl
theorem pt_70_2 {v : Nat} : fc_PT v 70 2 = some 77 := rfl
theorem pt_71_0 {v : Nat} : fc_PT v 71 0 = some 72 := rfl
theorem pt_71_1 {v : Nat} : fc_PT v 71 1 = some 73 := rfl
theorem pt_71_2 {v : Nat} : fc_PT v 71 2 = some 74 := rfl
theorem pt_71_3 {v : Nat} : fc_PT v 71 3 = some 75 := rfl
theorem pt_78_3 {v : Nat} : fc_PT v 78 3 = some 79 := rfl
theorem pt_78_4 {v : Nat} : fc_PT v 78 4 = some 80 := rfl
theorem pt_78_5 {v : Nat} : fc_PT v 78 5 = some 81 := rfl
theorem pt_78_6 {v : Nat} : fc_PT v 78 6 = some 82 := rfl
theorem pt_78_7 {v : Nat} : fc_PT v 78 7 = some 83 := rfl
theorem pt_78_8 {v : Nat} : fc_PT v 78 8 = some 84 := rfl
theorem pt_78_10 {v : Nat} : fc_PT v 78 10 = some 85 := rfl
theorem pt_78_11 {v : Nat} : fc_PT v 78 11 = some 86 := rfl
theorem pt_78_12 {v : Nat} : fc_PT v 78 12 = some 87 := rfl
theorem pt_78_14 {v : Nat} : fc_PT v 78 14 = some 88 := rfl
theorem pt_78_15 {v : Nat} : fc_PT v 78 15 = some 89 := rfl
theorem pt_78_16 {v : Nat} : fc_PT v 78 16 = some 90 := rfl
theorem pt_78_17 {v : Nat} : fc_PT v 78 17 = some 91 := rfl
theorem pt_78_18 {v : Nat} : fc_PT v 78 18 = some 92 := rfl
theorem pt_78_20 {v : Nat} : fc_PT v 78 20 = some 93 := rfl
theorem pt_78_21 {v : Nat} : fc_PT v 78 21 = some 94 := rfl
theorem pt_78_22 {v : Nat} : fc_PT v 78 22 = some 95 := rfl
theorem pt_78_23 {v : Nat} : fc_PT v 78 23 = some 96 := rfl
theorem pt_78_24 {v : Nat} : fc_PT v 78 24 = some 97 := rfl
theorem pt_78_25 {v : Nat} : fc_PT v 78 25 = some 98 := rfl
theorem pt_78_27 {v : Nat} : fc_PT v 78 27 = some 99 := rfl
theorem pt_78_30 {v : Nat} : fc_PT v 78 30 = some 100 := rfl
theorem pt_78_31 {v : Nat} : fc_PT v 78 31 = some 101 := rfl
theorem pt_78_32 {v : Nat} : fc_PT v 78 32 = some 102 := rfl
theorem pt_78_33 {v : Nat} : fc_PT v 78 33 = some 103 := rfl
theorem pt_78_34 {v : Nat} : fc_PT v 78 34 = some 104 := rfl
theorem pt_78_35 {v : Nat} : fc_PT v 78 35 = some 105 := rfl
theorem pt_78_36 {v : Nat} : fc_PT v 78 36 = some 106 := rfl
theorem pt_78_37 {v : Nat} : fc_PT v 78 37 = some 107 := rfl
theorem pt_78_38 {v : Nat} : fc_PT v 78 38 = some 108 := rfl
theorem pt_78_42 {v : Nat} : fc_PT v 78 42 = some 109 := rfl
theorem pt_78_43 {v : Nat} : fc_PT v 78 43 = some 110 := rfl
theorem pt_78_48 {v : Nat} : fc_PT v 78 48 = some 111 := rfl
theorem pt_78_49 {v : Nat} : fc_PT v 78 49 = some 112 := rfl
theorem pt_78_50 {v : Nat} : fc_PT v 78 50 = some 113 := rfl
theorem pt_78_54 {v : Nat} : fc_PT v 78 54 = some 114 := rfl
theorem pt_78_57 {v : Nat} : fc_PT v 78 57 = some 115 := rfl
theorem pt_78_58 {v : Nat} : fc_PT v 78 58 = some 116 := rfl
theorem pt_78_59 {v : Nat} : fc_PT v 78 59 = some 117 := rfl
theorem pt_78_60 {v : Nat} : fc_PT v 78 60 = some 118 := rfl
theorem pt_78_61 {v : Nat} : fc_PT v 78 61 = some 119 := rfl
theorem pt_78_62 {v : Nat} : fc_PT v 78 62 = some 120 := rfl
theorem pt_78_63 {v : Nat} : fc_PT v 78 63 = some 121 := rfl
theorem pt_78_64 {v : Nat} : fc_PT v 78 64 = some 122 := rfl
theorem pt_78_65 {v : Nat} : fc_PT v 78 65 = some 123 := rfl
theorem pt_78_66 {v : Nat} : fc_PT v 78 66 = some 124 := rfl
theorem pt_78_69 {v : Nat} : fc_PT v 78 69 = some 125 := rfl
theorem pt_78_70 {v : Nat} : fc_PT v 78 70 = some 126 := rfl
theorem pt_78_71 {v : Nat} : fc_PT v 78 71 = some 127 := rfl
theorem pt_78_72 {v : Nat} : fc_PT v 78 72 = some 128 := rfl
theorem pt_78_73 {v : Nat} : fc_PT v 78 73 = some 129 := rfl
theorem pt_78_74 {v : Nat} : fc_PT v 78 74 = some 130 := rfl
theorem fc_PT_w {v w : Nat} : fc_wP (fc_PT v) 43 1 w = fc_PT w := by
  funext c k
  unfold fc_wP
  by_cases h : c = 43 ∧ k = 1
  · rw [if_pos h]; obtain ⟨rfl, rfl⟩ := h; rfl
  · rw [if_neg h]
    by_cases hc : c = 43
    · subst hc
      have hk : k ≠ 1 := fun e => h ⟨rfl, e⟩
      show ([some 32, some v, none, none, none, none, none, none, none, none] : List (Option Nat)).getD k none = ([some 32, some w, none, none, none, none, none, none, none, none] : List (Option Nat)).getD k none
      match k, hk with
      | 0, hk => rfl
      | 1, hk => exact absurd rfl hk
      | 2, hk => rfl
      | 3, hk => rfl
      | 4, hk => rfl
      | 5, hk => rfl
      | 6, hk => rfl
      | 7, hk => rfl
      | 8, hk => rfl
      | 9, hk => rfl
      | k + 10, hk => rfl
    · unfold fc_PT
      split <;> first | rfl | exact absurd rfl hc
end
