-- ===== PART A: goes FIRST, ahead of the names: the tables' words, and 'selects' of the private methods out of them =====
/-- a private method of a class that the tables say can be made, by its rows of tables_1 -/
def lw_okq (q : MethodName × Nat) : Prop := (q.1.cls ≠ "java/lang/invoke/MethodHandle" ∧ q.1.cls ≠ "java/lang/invoke/VarHandle") ∧ Cond.instantiable q.1.cls q.2 ∈ tables_1 ∧ Cond.privateMethod q.1 ∈ tables_1 ∧ Cond.instanceMethod q.1 ∈ tables_1
theorem lw_p0 : lw_okq (⟨"NameWall$Day", "silence", "()V"⟩, 8) := ⟨⟨by decide +kernel, by decide +kernel⟩, List.mem_of_getElem? (i := 170) (by decide +kernel), List.mem_of_getElem? (i := 176) (by decide +kernel), List.mem_of_getElem? (i := 177) (by decide +kernel)⟩
theorem lw_p1 : lw_okq (⟨"NameWall$CityReader", "readClause", "(LNameWall$Tape;LNameWall$City;)Z"⟩, 0) := ⟨⟨by decide +kernel, by decide +kernel⟩, List.mem_of_getElem? (i := 55) (by decide +kernel), List.mem_of_getElem? (i := 434) (by decide +kernel), List.mem_of_getElem? (i := 435) (by decide +kernel)⟩
theorem lw_p2 : lw_okq (⟨"NameWall$CityReader", "readItems", "(LNameWall$Tape;Ljava/lang/String;[I[I[I[I)Z"⟩, 0) := ⟨⟨by decide +kernel, by decide +kernel⟩, List.mem_of_getElem? (i := 55) (by decide +kernel), List.mem_of_getElem? (i := 448) (by decide +kernel), List.mem_of_getElem? (i := 449) (by decide +kernel)⟩
theorem lw_p3 : lw_okq (⟨"NameWall$City", "findFriends", "()V"⟩, 8) := ⟨⟨by decide +kernel, by decide +kernel⟩, List.mem_of_getElem? (i := 77) (by decide +kernel), List.mem_of_getElem? (i := 569) (by decide +kernel), List.mem_of_getElem? (i := 570) (by decide +kernel)⟩
theorem lw_p4 : lw_okq (⟨"NameWall$City", "findAlike", "()V"⟩, 8) := ⟨⟨by decide +kernel, by decide +kernel⟩, List.mem_of_getElem? (i := 77) (by decide +kernel), List.mem_of_getElem? (i := 573) (by decide +kernel), List.mem_of_getElem? (i := 574) (by decide +kernel)⟩
theorem lw_p5 : lw_okq (⟨"NameWall$LawReader", "readClause", "(LNameWall$Tape;)Z"⟩, 2) := ⟨⟨by decide +kernel, by decide +kernel⟩, List.mem_of_getElem? (i := 62) (by decide +kernel), List.mem_of_getElem? (i := 581) (by decide +kernel), List.mem_of_getElem? (i := 582) (by decide +kernel)⟩
theorem lw_p6 : lw_okq (⟨"NameWall$LawReader", "isConditionAhead", "(LNameWall$Tape;)Z"⟩, 2) := ⟨⟨by decide +kernel, by decide +kernel⟩, List.mem_of_getElem? (i := 62) (by decide +kernel), List.mem_of_getElem? (i := 586) (by decide +kernel), List.mem_of_getElem? (i := 587) (by decide +kernel)⟩
theorem lw_p7 : lw_okq (⟨"NameWall$LawReader", "readSum", "(LNameWall$Tape;I)Z"⟩, 2) := ⟨⟨by decide +kernel, by decide +kernel⟩, List.mem_of_getElem? (i := 62) (by decide +kernel), List.mem_of_getElem? (i := 591) (by decide +kernel), List.mem_of_getElem? (i := 592) (by decide +kernel)⟩
theorem lw_p8 : lw_okq (⟨"NameWall$LawReader", "readTerm", "(LNameWall$Tape;I)Z"⟩, 2) := ⟨⟨by decide +kernel, by decide +kernel⟩, List.mem_of_getElem? (i := 62) (by decide +kernel), List.mem_of_getElem? (i := 595) (by decide +kernel), List.mem_of_getElem? (i := 596) (by decide +kernel)⟩
theorem lw_p9 : lw_okq (⟨"NameWall$LawReader", "readAtom", "(LNameWall$Tape;I)Z"⟩, 2) := ⟨⟨by decide +kernel, by decide +kernel⟩, List.mem_of_getElem? (i := 62) (by decide +kernel), List.mem_of_getElem? (i := 599) (by decide +kernel), List.mem_of_getElem? (i := 600) (by decide +kernel)⟩
theorem lw_p10 : lw_okq (⟨"NameWall$LawReader", "put", "(I)Z"⟩, 2) := ⟨⟨by decide +kernel, by decide +kernel⟩, List.mem_of_getElem? (i := 62) (by decide +kernel), List.mem_of_getElem? (i := 605) (by decide +kernel), List.mem_of_getElem? (i := 606) (by decide +kernel)⟩
theorem lw_p11 : lw_okq (⟨"NameWall$LawReader", "readCondition", "(LNameWall$Tape;I)Z"⟩, 2) := ⟨⟨by decide +kernel, by decide +kernel⟩, List.mem_of_getElem? (i := 62) (by decide +kernel), List.mem_of_getElem? (i := 613) (by decide +kernel), List.mem_of_getElem? (i := 614) (by decide +kernel)⟩
theorem lw_p12 : lw_okq (⟨"NameWall$LawReader", "readTruth", "(LNameWall$Tape;I)Z"⟩, 2) := ⟨⟨by decide +kernel, by decide +kernel⟩, List.mem_of_getElem? (i := 62) (by decide +kernel), List.mem_of_getElem? (i := 617) (by decide +kernel), List.mem_of_getElem? (i := 618) (by decide +kernel)⟩
theorem lw_p13 : lw_okq (⟨"NameWall$LawReader", "readUnit", "(LNameWall$Tape;I)Z"⟩, 2) := ⟨⟨by decide +kernel, by decide +kernel⟩, List.mem_of_getElem? (i := 62) (by decide +kernel), List.mem_of_getElem? (i := 621) (by decide +kernel), List.mem_of_getElem? (i := 622) (by decide +kernel)⟩
theorem lw_p14 : lw_okq (⟨"NameWall", "beginCity", "()V"⟩, 12) := ⟨⟨by decide +kernel, by decide +kernel⟩, List.mem_of_getElem? (i := 26) (by decide +kernel), List.mem_of_getElem? (i := 630) (by decide +kernel), List.mem_of_getElem? (i := 631) (by decide +kernel)⟩
theorem lw_p15 : lw_okq (⟨"NameWall", "hasNoCity", "()Z"⟩, 12) := ⟨⟨by decide +kernel, by decide +kernel⟩, List.mem_of_getElem? (i := 26) (by decide +kernel), List.mem_of_getElem? (i := 650) (by decide +kernel), List.mem_of_getElem? (i := 651) (by decide +kernel)⟩
def lw_privs_1 : List (MethodName × Nat) := [(⟨"NameWall$Day", "silence", "()V"⟩, 8), (⟨"NameWall$CityReader", "readClause", "(LNameWall$Tape;LNameWall$City;)Z"⟩, 0), (⟨"NameWall$CityReader", "readItems", "(LNameWall$Tape;Ljava/lang/String;[I[I[I[I)Z"⟩, 0), (⟨"NameWall$City", "findFriends", "()V"⟩, 8), (⟨"NameWall$City", "findAlike", "()V"⟩, 8), (⟨"NameWall$LawReader", "readClause", "(LNameWall$Tape;)Z"⟩, 2), (⟨"NameWall$LawReader", "isConditionAhead", "(LNameWall$Tape;)Z"⟩, 2), (⟨"NameWall$LawReader", "readSum", "(LNameWall$Tape;I)Z"⟩, 2), (⟨"NameWall$LawReader", "readTerm", "(LNameWall$Tape;I)Z"⟩, 2), (⟨"NameWall$LawReader", "readAtom", "(LNameWall$Tape;I)Z"⟩, 2), (⟨"NameWall$LawReader", "put", "(I)Z"⟩, 2), (⟨"NameWall$LawReader", "readCondition", "(LNameWall$Tape;I)Z"⟩, 2), (⟨"NameWall$LawReader", "readTruth", "(LNameWall$Tape;I)Z"⟩, 2), (⟨"NameWall$LawReader", "readUnit", "(LNameWall$Tape;I)Z"⟩, 2), (⟨"NameWall", "beginCity", "()V"⟩, 12), (⟨"NameWall", "hasNoCity", "()Z"⟩, 12)]
theorem lw_r1 : ∀ q ∈ lw_privs_1, lw_okq q := List.forall_mem_cons.mpr ⟨lw_p0, List.forall_mem_cons.mpr ⟨lw_p1, List.forall_mem_cons.mpr ⟨lw_p2, List.forall_mem_cons.mpr ⟨lw_p3, List.forall_mem_cons.mpr ⟨lw_p4, List.forall_mem_cons.mpr ⟨lw_p5, List.forall_mem_cons.mpr ⟨lw_p6, List.forall_mem_cons.mpr ⟨lw_p7, List.forall_mem_cons.mpr ⟨lw_p8, List.forall_mem_cons.mpr ⟨lw_p9, List.forall_mem_cons.mpr ⟨lw_p10, List.forall_mem_cons.mpr ⟨lw_p11, List.forall_mem_cons.mpr ⟨lw_p12, List.forall_mem_cons.mpr ⟨lw_p13, List.forall_mem_cons.mpr ⟨lw_p14, List.forall_mem_cons.mpr ⟨lw_p15, fun _ h => absurd h List.not_mem_nil⟩⟩⟩⟩⟩⟩⟩⟩⟩⟩⟩⟩⟩⟩⟩⟩
theorem lw_p16 : lw_okq (⟨"NameWall", "isHour", "(I)Z"⟩, 12) := ⟨⟨by decide +kernel, by decide +kernel⟩, List.mem_of_getElem? (i := 26) (by decide +kernel), List.mem_of_getElem? (i := 680) (by decide +kernel), List.mem_of_getElem? (i := 681) (by decide +kernel)⟩
theorem lw_p17 : lw_okq (⟨"NameWall", "cannotPass", "(I)Z"⟩, 12) := ⟨⟨by decide +kernel, by decide +kernel⟩, List.mem_of_getElem? (i := 26) (by decide +kernel), List.mem_of_getElem? (i := 710) (by decide +kernel), List.mem_of_getElem? (i := 711) (by decide +kernel)⟩
theorem lw_p18 : lw_okq (⟨"NameWall$Wall", "shoutsIn", "(I)I"⟩, 4) := ⟨⟨by decide +kernel, by decide +kernel⟩, List.mem_of_getElem? (i := 130) (by decide +kernel), List.mem_of_getElem? (i := 723) (by decide +kernel), List.mem_of_getElem? (i := 724) (by decide +kernel)⟩
theorem lw_p19 : lw_okq (⟨"NameWall$Laws", "pop", "()I"⟩, 7) := ⟨⟨by decide +kernel, by decide +kernel⟩, List.mem_of_getElem? (i := 138) (by decide +kernel), List.mem_of_getElem? (i := 757) (by decide +kernel), List.mem_of_getElem? (i := 758) (by decide +kernel)⟩
theorem lw_p20 : lw_okq (⟨"NameWall$Laws", "reckon", "(I)V"⟩, 7) := ⟨⟨by decide +kernel, by decide +kernel⟩, List.mem_of_getElem? (i := 138) (by decide +kernel), List.mem_of_getElem? (i := 761) (by decide +kernel), List.mem_of_getElem? (i := 762) (by decide +kernel)⟩
theorem lw_p21 : lw_okq (⟨"NameWall$Laws", "push", "(I)V"⟩, 7) := ⟨⟨by decide +kernel, by decide +kernel⟩, List.mem_of_getElem? (i := 138) (by decide +kernel), List.mem_of_getElem? (i := 765) (by decide +kernel), List.mem_of_getElem? (i := 766) (by decide +kernel)⟩
theorem lw_p22 : lw_okq (⟨"NameWall", "drawWeather", "()V"⟩, 12) := ⟨⟨by decide +kernel, by decide +kernel⟩, List.mem_of_getElem? (i := 26) (by decide +kernel), List.mem_of_getElem? (i := 811) (by decide +kernel), List.mem_of_getElem? (i := 812) (by decide +kernel)⟩
theorem lw_p23 : lw_okq (⟨"NameWall", "draw", "(I)I"⟩, 12) := ⟨⟨by decide +kernel, by decide +kernel⟩, List.mem_of_getElem? (i := 26) (by decide +kernel), List.mem_of_getElem? (i := 815) (by decide +kernel), List.mem_of_getElem? (i := 816) (by decide +kernel)⟩
theorem lw_p24 : lw_okq (⟨"NameWall", "drawShouts", "()V"⟩, 12) := ⟨⟨by decide +kernel, by decide +kernel⟩, List.mem_of_getElem? (i := 26) (by decide +kernel), List.mem_of_getElem? (i := 821) (by decide +kernel), List.mem_of_getElem? (i := 822) (by decide +kernel)⟩
theorem lw_p25 : lw_okq (⟨"NameWall$Plans", "findLosses", "(LNameWall$Wall;I)V"⟩, 14) := ⟨⟨by decide +kernel, by decide +kernel⟩, List.mem_of_getElem? (i := 299) (by decide +kernel), List.mem_of_getElem? (i := 862) (by decide +kernel), List.mem_of_getElem? (i := 863) (by decide +kernel)⟩
theorem lw_p26 : lw_okq (⟨"NameWall$Plans", "findShouters", "(LNameWall$Wall;)V"⟩, 14) := ⟨⟨by decide +kernel, by decide +kernel⟩, List.mem_of_getElem? (i := 299) (by decide +kernel), List.mem_of_getElem? (i := 868) (by decide +kernel), List.mem_of_getElem? (i := 869) (by decide +kernel)⟩
theorem lw_p27 : lw_okq (⟨"NameWall$Plans", "lay", "(LNameWall$Wall;II)V"⟩, 14) := ⟨⟨by decide +kernel, by decide +kernel⟩, List.mem_of_getElem? (i := 299) (by decide +kernel), List.mem_of_getElem? (i := 874) (by decide +kernel), List.mem_of_getElem? (i := 875) (by decide +kernel)⟩
theorem lw_p28 : lw_okq (⟨"NameWall$Plans", "hasHope", "(LNameWall$Wall;I)Z"⟩, 14) := ⟨⟨by decide +kernel, by decide +kernel⟩, List.mem_of_getElem? (i := 299) (by decide +kernel), List.mem_of_getElem? (i := 878) (by decide +kernel), List.mem_of_getElem? (i := 879) (by decide +kernel)⟩
theorem lw_p29 : lw_okq (⟨"NameWall$Plans", "isKept", "(LNameWall$Wall;)Z"⟩, 14) := ⟨⟨by decide +kernel, by decide +kernel⟩, List.mem_of_getElem? (i := 299) (by decide +kernel), List.mem_of_getElem? (i := 884) (by decide +kernel), List.mem_of_getElem? (i := 885) (by decide +kernel)⟩
theorem lw_p30 : lw_okq (⟨"NameWall$Plans", "writeDigits", "()V"⟩, 14) := ⟨⟨by decide +kernel, by decide +kernel⟩, List.mem_of_getElem? (i := 299) (by decide +kernel), List.mem_of_getElem? (i := 889) (by decide +kernel), List.mem_of_getElem? (i := 890) (by decide +kernel)⟩
theorem lw_p31 : lw_okq (⟨"NameWall$Plans", "change", "(IIII)V"⟩, 14) := ⟨⟨by decide +kernel, by decide +kernel⟩, List.mem_of_getElem? (i := 299) (by decide +kernel), List.mem_of_getElem? (i := 894) (by decide +kernel), List.mem_of_getElem? (i := 895) (by decide +kernel)⟩
def lw_privs_2 : List (MethodName × Nat) := [(⟨"NameWall", "isHour", "(I)Z"⟩, 12), (⟨"NameWall", "cannotPass", "(I)Z"⟩, 12), (⟨"NameWall$Wall", "shoutsIn", "(I)I"⟩, 4), (⟨"NameWall$Laws", "pop", "()I"⟩, 7), (⟨"NameWall$Laws", "reckon", "(I)V"⟩, 7), (⟨"NameWall$Laws", "push", "(I)V"⟩, 7), (⟨"NameWall", "drawWeather", "()V"⟩, 12), (⟨"NameWall", "draw", "(I)I"⟩, 12), (⟨"NameWall", "drawShouts", "()V"⟩, 12), (⟨"NameWall$Plans", "findLosses", "(LNameWall$Wall;I)V"⟩, 14), (⟨"NameWall$Plans", "findShouters", "(LNameWall$Wall;)V"⟩, 14), (⟨"NameWall$Plans", "lay", "(LNameWall$Wall;II)V"⟩, 14), (⟨"NameWall$Plans", "hasHope", "(LNameWall$Wall;I)Z"⟩, 14), (⟨"NameWall$Plans", "isKept", "(LNameWall$Wall;)Z"⟩, 14), (⟨"NameWall$Plans", "writeDigits", "()V"⟩, 14), (⟨"NameWall$Plans", "change", "(IIII)V"⟩, 14)]
theorem lw_r2 : ∀ q ∈ lw_privs_2, lw_okq q := List.forall_mem_cons.mpr ⟨lw_p16, List.forall_mem_cons.mpr ⟨lw_p17, List.forall_mem_cons.mpr ⟨lw_p18, List.forall_mem_cons.mpr ⟨lw_p19, List.forall_mem_cons.mpr ⟨lw_p20, List.forall_mem_cons.mpr ⟨lw_p21, List.forall_mem_cons.mpr ⟨lw_p22, List.forall_mem_cons.mpr ⟨lw_p23, List.forall_mem_cons.mpr ⟨lw_p24, List.forall_mem_cons.mpr ⟨lw_p25, List.forall_mem_cons.mpr ⟨lw_p26, List.forall_mem_cons.mpr ⟨lw_p27, List.forall_mem_cons.mpr ⟨lw_p28, List.forall_mem_cons.mpr ⟨lw_p29, List.forall_mem_cons.mpr ⟨lw_p30, List.forall_mem_cons.mpr ⟨lw_p31, fun _ h => absurd h List.not_mem_nil⟩⟩⟩⟩⟩⟩⟩⟩⟩⟩⟩⟩⟩⟩⟩⟩
theorem lw_p32 : lw_okq (⟨"NameWall$Plans", "goRound", "(LNameWall$Wall;III)I"⟩, 14) := ⟨⟨by decide +kernel, by decide +kernel⟩, List.mem_of_getElem? (i := 299) (by decide +kernel), List.mem_of_getElem? (i := 907) (by decide +kernel), List.mem_of_getElem? (i := 908) (by decide +kernel)⟩
theorem lw_p33 : lw_okq (⟨"NameWall$Plans", "priceOf", "(LNameWall$Wall;III)V"⟩, 14) := ⟨⟨by decide +kernel, by decide +kernel⟩, List.mem_of_getElem? (i := 299) (by decide +kernel), List.mem_of_getElem? (i := 925) (by decide +kernel), List.mem_of_getElem? (i := 926) (by decide +kernel)⟩
theorem lw_p34 : lw_okq (⟨"NameWall$Dents", "canBe", "(I)Z"⟩, 4) := ⟨⟨by decide +kernel, by decide +kernel⟩, List.mem_of_getElem? (i := 278) (by decide +kernel), List.mem_of_getElem? (i := 984) (by decide +kernel), List.mem_of_getElem? (i := 985) (by decide +kernel)⟩
theorem lw_p35 : lw_okq (⟨"NameWall$Dents", "fittingWith", "(II)I"⟩, 4) := ⟨⟨by decide +kernel, by decide +kernel⟩, List.mem_of_getElem? (i := 278) (by decide +kernel), List.mem_of_getElem? (i := 1004) (by decide +kernel), List.mem_of_getElem? (i := 1005) (by decide +kernel)⟩
theorem lw_p36 : lw_okq (⟨"NameWall", "canShout", "(I)Z"⟩, 12) := ⟨⟨by decide +kernel, by decide +kernel⟩, List.mem_of_getElem? (i := 26) (by decide +kernel), List.mem_of_getElem? (i := 1015) (by decide +kernel), List.mem_of_getElem? (i := 1016) (by decide +kernel)⟩
theorem lw_p37 : lw_okq (⟨"NameWall$Odds", "passDay", "(LNameWall$Wall;IIII)V"⟩, 2) := ⟨⟨by decide +kernel, by decide +kernel⟩, List.mem_of_getElem? (i := 352) (by decide +kernel), List.mem_of_getElem? (i := 1041) (by decide +kernel), List.mem_of_getElem? (i := 1042) (by decide +kernel)⟩
theorem lw_p38 : lw_okq (⟨"NameWall$Odds", "add", "(II)V"⟩, 2) := ⟨⟨by decide +kernel, by decide +kernel⟩, List.mem_of_getElem? (i := 352) (by decide +kernel), List.mem_of_getElem? (i := 1048) (by decide +kernel), List.mem_of_getElem? (i := 1049) (by decide +kernel)⟩
theorem lw_p39 : lw_okq (⟨"java/lang/Throwable", "fillInStackTrace", "(I)Ljava/lang/Throwable;"⟩, 6) := ⟨⟨by decide +kernel, by decide +kernel⟩, List.mem_of_getElem? (i := 1152) (by decide +kernel), List.mem_of_getElem? (i := 1150) (by decide +kernel), List.mem_of_getElem? (i := 1151) (by decide +kernel)⟩
theorem lw_p40 : lw_okq (⟨"NameWallModel", "readCity", "()I"⟩, 47) := ⟨⟨by decide +kernel, by decide +kernel⟩, List.mem_of_getElem? (i := 1182) (by decide +kernel), List.mem_of_getElem? (i := 1350) (by decide +kernel), List.mem_of_getElem? (i := 1351) (by decide +kernel)⟩
theorem lw_p41 : lw_okq (⟨"NameWallModel", "look", "()I"⟩, 47) := ⟨⟨by decide +kernel, by decide +kernel⟩, List.mem_of_getElem? (i := 1182) (by decide +kernel), List.mem_of_getElem? (i := 1357) (by decide +kernel), List.mem_of_getElem? (i := 1358) (by decide +kernel)⟩
theorem lw_p42 : lw_okq (⟨"NameWallModel", "here", "()I"⟩, 47) := ⟨⟨by decide +kernel, by decide +kernel⟩, List.mem_of_getElem? (i := 1182) (by decide +kernel), List.mem_of_getElem? (i := 1361) (by decide +kernel), List.mem_of_getElem? (i := 1362) (by decide +kernel)⟩
theorem lw_p43 : lw_okq (⟨"NameWallModel", "items", "(I[III)V"⟩, 47) := ⟨⟨by decide +kernel, by decide +kernel⟩, List.mem_of_getElem? (i := 1182) (by decide +kernel), List.mem_of_getElem? (i := 1365) (by decide +kernel), List.mem_of_getElem? (i := 1366) (by decide +kernel)⟩
theorem lw_p44 : lw_okq (⟨"NameWallModel", "number", "(II)I"⟩, 47) := ⟨⟨by decide +kernel, by decide +kernel⟩, List.mem_of_getElem? (i := 1182) (by decide +kernel), List.mem_of_getElem? (i := 1381) (by decide +kernel), List.mem_of_getElem? (i := 1382) (by decide +kernel)⟩
theorem lw_p45 : lw_okq (⟨"NameWallModel", "bad", "()V"⟩, 47) := ⟨⟨by decide +kernel, by decide +kernel⟩, List.mem_of_getElem? (i := 1182) (by decide +kernel), List.mem_of_getElem? (i := 1388) (by decide +kernel), List.mem_of_getElem? (i := 1389) (by decide +kernel)⟩
theorem lw_p46 : lw_okq (⟨"NameWallModel", "isWhole", "()Z"⟩, 47) := ⟨⟨by decide +kernel, by decide +kernel⟩, List.mem_of_getElem? (i := 1182) (by decide +kernel), List.mem_of_getElem? (i := 1395) (by decide +kernel), List.mem_of_getElem? (i := 1396) (by decide +kernel)⟩
theorem lw_p47 : lw_okq (⟨"NameWallModel", "readLaw", "(I)I"⟩, 47) := ⟨⟨by decide +kernel, by decide +kernel⟩, List.mem_of_getElem? (i := 1182) (by decide +kernel), List.mem_of_getElem? (i := 1399) (by decide +kernel), List.mem_of_getElem? (i := 1400) (by decide +kernel)⟩
def lw_privs_3 : List (MethodName × Nat) := [(⟨"NameWall$Plans", "goRound", "(LNameWall$Wall;III)I"⟩, 14), (⟨"NameWall$Plans", "priceOf", "(LNameWall$Wall;III)V"⟩, 14), (⟨"NameWall$Dents", "canBe", "(I)Z"⟩, 4), (⟨"NameWall$Dents", "fittingWith", "(II)I"⟩, 4), (⟨"NameWall", "canShout", "(I)Z"⟩, 12), (⟨"NameWall$Odds", "passDay", "(LNameWall$Wall;IIII)V"⟩, 2), (⟨"NameWall$Odds", "add", "(II)V"⟩, 2), (⟨"java/lang/Throwable", "fillInStackTrace", "(I)Ljava/lang/Throwable;"⟩, 6), (⟨"NameWallModel", "readCity", "()I"⟩, 47), (⟨"NameWallModel", "look", "()I"⟩, 47), (⟨"NameWallModel", "here", "()I"⟩, 47), (⟨"NameWallModel", "items", "(I[III)V"⟩, 47), (⟨"NameWallModel", "number", "(II)I"⟩, 47), (⟨"NameWallModel", "bad", "()V"⟩, 47), (⟨"NameWallModel", "isWhole", "()Z"⟩, 47), (⟨"NameWallModel", "readLaw", "(I)I"⟩, 47)]
theorem lw_r3 : ∀ q ∈ lw_privs_3, lw_okq q := List.forall_mem_cons.mpr ⟨lw_p32, List.forall_mem_cons.mpr ⟨lw_p33, List.forall_mem_cons.mpr ⟨lw_p34, List.forall_mem_cons.mpr ⟨lw_p35, List.forall_mem_cons.mpr ⟨lw_p36, List.forall_mem_cons.mpr ⟨lw_p37, List.forall_mem_cons.mpr ⟨lw_p38, List.forall_mem_cons.mpr ⟨lw_p39, List.forall_mem_cons.mpr ⟨lw_p40, List.forall_mem_cons.mpr ⟨lw_p41, List.forall_mem_cons.mpr ⟨lw_p42, List.forall_mem_cons.mpr ⟨lw_p43, List.forall_mem_cons.mpr ⟨lw_p44, List.forall_mem_cons.mpr ⟨lw_p45, List.forall_mem_cons.mpr ⟨lw_p46, List.forall_mem_cons.mpr ⟨lw_p47, fun _ h => absurd h List.not_mem_nil⟩⟩⟩⟩⟩⟩⟩⟩⟩⟩⟩⟩⟩⟩⟩⟩
theorem lw_p48 : lw_okq (⟨"NameWallModel", "open", "(I)V"⟩, 47) := ⟨⟨by decide +kernel, by decide +kernel⟩, List.mem_of_getElem? (i := 1182) (by decide +kernel), List.mem_of_getElem? (i := 1403) (by decide +kernel), List.mem_of_getElem? (i := 1404) (by decide +kernel)⟩
theorem lw_p49 : lw_okq (⟨"NameWallModel", "clause", "()V"⟩, 47) := ⟨⟨by decide +kernel, by decide +kernel⟩, List.mem_of_getElem? (i := 1182) (by decide +kernel), List.mem_of_getElem? (i := 1407) (by decide +kernel), List.mem_of_getElem? (i := 1408) (by decide +kernel)⟩
theorem lw_p50 : lw_okq (⟨"NameWallModel", "condition", "()V"⟩, 47) := ⟨⟨by decide +kernel, by decide +kernel⟩, List.mem_of_getElem? (i := 1182) (by decide +kernel), List.mem_of_getElem? (i := 1411) (by decide +kernel), List.mem_of_getElem? (i := 1412) (by decide +kernel)⟩
theorem lw_p51 : lw_okq (⟨"NameWallModel", "unit", "()V"⟩, 47) := ⟨⟨by decide +kernel, by decide +kernel⟩, List.mem_of_getElem? (i := 1182) (by decide +kernel), List.mem_of_getElem? (i := 1415) (by decide +kernel), List.mem_of_getElem? (i := 1416) (by decide +kernel)⟩
theorem lw_p52 : lw_okq (⟨"NameWallModel", "opens", "()V"⟩, 47) := ⟨⟨by decide +kernel, by decide +kernel⟩, List.mem_of_getElem? (i := 1182) (by decide +kernel), List.mem_of_getElem? (i := 1419) (by decide +kernel), List.mem_of_getElem? (i := 1420) (by decide +kernel)⟩
theorem lw_p53 : lw_okq (⟨"NameWallModel", "put", "(II)V"⟩, 47) := ⟨⟨by decide +kernel, by decide +kernel⟩, List.mem_of_getElem? (i := 1182) (by decide +kernel), List.mem_of_getElem? (i := 1423) (by decide +kernel), List.mem_of_getElem? (i := 1424) (by decide +kernel)⟩
theorem lw_p54 : lw_okq (⟨"NameWallModel", "closes", "(I)V"⟩, 47) := ⟨⟨by decide +kernel, by decide +kernel⟩, List.mem_of_getElem? (i := 1182) (by decide +kernel), List.mem_of_getElem? (i := 1427) (by decide +kernel), List.mem_of_getElem? (i := 1428) (by decide +kernel)⟩
theorem lw_p55 : lw_okq (⟨"NameWallModel", "sum", "()V"⟩, 47) := ⟨⟨by decide +kernel, by decide +kernel⟩, List.mem_of_getElem? (i := 1182) (by decide +kernel), List.mem_of_getElem? (i := 1431) (by decide +kernel), List.mem_of_getElem? (i := 1432) (by decide +kernel)⟩
theorem lw_p56 : lw_okq (⟨"NameWallModel", "term", "()V"⟩, 47) := ⟨⟨by decide +kernel, by decide +kernel⟩, List.mem_of_getElem? (i := 1182) (by decide +kernel), List.mem_of_getElem? (i := 1435) (by decide +kernel), List.mem_of_getElem? (i := 1436) (by decide +kernel)⟩
theorem lw_p57 : lw_okq (⟨"NameWallModel", "atom", "()V"⟩, 47) := ⟨⟨by decide +kernel, by decide +kernel⟩, List.mem_of_getElem? (i := 1182) (by decide +kernel), List.mem_of_getElem? (i := 1439) (by decide +kernel), List.mem_of_getElem? (i := 1440) (by decide +kernel)⟩
theorem lw_p58 : lw_okq (⟨"NameWallModel", "plainNumber", "()I"⟩, 47) := ⟨⟨by decide +kernel, by decide +kernel⟩, List.mem_of_getElem? (i := 1182) (by decide +kernel), List.mem_of_getElem? (i := 1443) (by decide +kernel), List.mem_of_getElem? (i := 1444) (by decide +kernel)⟩
theorem lw_p59 : lw_okq (⟨"NameWallModel", "compare", "()V"⟩, 47) := ⟨⟨by decide +kernel, by decide +kernel⟩, List.mem_of_getElem? (i := 1182) (by decide +kernel), List.mem_of_getElem? (i := 1450) (by decide +kernel), List.mem_of_getElem? (i := 1451) (by decide +kernel)⟩
theorem lw_p60 : lw_okq (⟨"NameWallModel", "goOnAnd", "()V"⟩, 47) := ⟨⟨by decide +kernel, by decide +kernel⟩, List.mem_of_getElem? (i := 1182) (by decide +kernel), List.mem_of_getElem? (i := 1457) (by decide +kernel), List.mem_of_getElem? (i := 1458) (by decide +kernel)⟩
theorem lw_p61 : lw_okq (⟨"NameWallModel", "goOnOr", "()V"⟩, 47) := ⟨⟨by decide +kernel, by decide +kernel⟩, List.mem_of_getElem? (i := 1182) (by decide +kernel), List.mem_of_getElem? (i := 1461) (by decide +kernel), List.mem_of_getElem? (i := 1462) (by decide +kernel)⟩
theorem lw_p62 : lw_okq (⟨"NameWallModel", "atEnd", "()I"⟩, 47) := ⟨⟨by decide +kernel, by decide +kernel⟩, List.mem_of_getElem? (i := 1182) (by decide +kernel), List.mem_of_getElem? (i := 1465) (by decide +kernel), List.mem_of_getElem? (i := 1466) (by decide +kernel)⟩
theorem lw_p63 : lw_okq (⟨"NameWallModel", "takeCity", "()I"⟩, 47) := ⟨⟨by decide +kernel, by decide +kernel⟩, List.mem_of_getElem? (i := 1182) (by decide +kernel), List.mem_of_getElem? (i := 1473) (by decide +kernel), List.mem_of_getElem? (i := 1474) (by decide +kernel)⟩
def lw_privs_4 : List (MethodName × Nat) := [(⟨"NameWallModel", "open", "(I)V"⟩, 47), (⟨"NameWallModel", "clause", "()V"⟩, 47), (⟨"NameWallModel", "condition", "()V"⟩, 47), (⟨"NameWallModel", "unit", "()V"⟩, 47), (⟨"NameWallModel", "opens", "()V"⟩, 47), (⟨"NameWallModel", "put", "(II)V"⟩, 47), (⟨"NameWallModel", "closes", "(I)V"⟩, 47), (⟨"NameWallModel", "sum", "()V"⟩, 47), (⟨"NameWallModel", "term", "()V"⟩, 47), (⟨"NameWallModel", "atom", "()V"⟩, 47), (⟨"NameWallModel", "plainNumber", "()I"⟩, 47), (⟨"NameWallModel", "compare", "()V"⟩, 47), (⟨"NameWallModel", "goOnAnd", "()V"⟩, 47), (⟨"NameWallModel", "goOnOr", "()V"⟩, 47), (⟨"NameWallModel", "atEnd", "()I"⟩, 47), (⟨"NameWallModel", "takeCity", "()I"⟩, 47)]
theorem lw_r4 : ∀ q ∈ lw_privs_4, lw_okq q := List.forall_mem_cons.mpr ⟨lw_p48, List.forall_mem_cons.mpr ⟨lw_p49, List.forall_mem_cons.mpr ⟨lw_p50, List.forall_mem_cons.mpr ⟨lw_p51, List.forall_mem_cons.mpr ⟨lw_p52, List.forall_mem_cons.mpr ⟨lw_p53, List.forall_mem_cons.mpr ⟨lw_p54, List.forall_mem_cons.mpr ⟨lw_p55, List.forall_mem_cons.mpr ⟨lw_p56, List.forall_mem_cons.mpr ⟨lw_p57, List.forall_mem_cons.mpr ⟨lw_p58, List.forall_mem_cons.mpr ⟨lw_p59, List.forall_mem_cons.mpr ⟨lw_p60, List.forall_mem_cons.mpr ⟨lw_p61, List.forall_mem_cons.mpr ⟨lw_p62, List.forall_mem_cons.mpr ⟨lw_p63, fun _ h => absurd h List.not_mem_nil⟩⟩⟩⟩⟩⟩⟩⟩⟩⟩⟩⟩⟩⟩⟩⟩
theorem lw_p64 : lw_okq (⟨"NameWallModel", "hush", "()V"⟩, 47) := ⟨⟨by decide +kernel, by decide +kernel⟩, List.mem_of_getElem? (i := 1182) (by decide +kernel), List.mem_of_getElem? (i := 1477) (by decide +kernel), List.mem_of_getElem? (i := 1478) (by decide +kernel)⟩
theorem lw_p65 : lw_okq (⟨"NameWallModel", "isName", "(I)Z"⟩, 47) := ⟨⟨by decide +kernel, by decide +kernel⟩, List.mem_of_getElem? (i := 1182) (by decide +kernel), List.mem_of_getElem? (i := 1489) (by decide +kernel), List.mem_of_getElem? (i := 1490) (by decide +kernel)⟩
theorem lw_p66 : lw_okq (⟨"NameWallModel", "lossNow", "(I)I"⟩, 47) := ⟨⟨by decide +kernel, by decide +kernel⟩, List.mem_of_getElem? (i := 1182) (by decide +kernel), List.mem_of_getElem? (i := 1493) (by decide +kernel), List.mem_of_getElem? (i := 1494) (by decide +kernel)⟩
theorem lw_p67 : lw_okq (⟨"NameWallModel", "shoutsOf", "(I)I"⟩, 47) := ⟨⟨by decide +kernel, by decide +kernel⟩, List.mem_of_getElem? (i := 1182) (by decide +kernel), List.mem_of_getElem? (i := 1497) (by decide +kernel), List.mem_of_getElem? (i := 1498) (by decide +kernel)⟩
theorem lw_p68 : lw_okq (⟨"NameWallModel", "isHeard", "(I)Z"⟩, 47) := ⟨⟨by decide +kernel, by decide +kernel⟩, List.mem_of_getElem? (i := 1182) (by decide +kernel), List.mem_of_getElem? (i := 1501) (by decide +kernel), List.mem_of_getElem? (i := 1502) (by decide +kernel)⟩
theorem lw_p69 : lw_okq (⟨"NameWallModel", "inHour", "(I)I"⟩, 47) := ⟨⟨by decide +kernel, by decide +kernel⟩, List.mem_of_getElem? (i := 1182) (by decide +kernel), List.mem_of_getElem? (i := 1505) (by decide +kernel), List.mem_of_getElem? (i := 1506) (by decide +kernel)⟩
theorem lw_p70 : lw_okq (⟨"NameWallModel", "lossBy", "(IIII)I"⟩, 47) := ⟨⟨by decide +kernel, by decide +kernel⟩, List.mem_of_getElem? (i := 1182) (by decide +kernel), List.mem_of_getElem? (i := 1509) (by decide +kernel), List.mem_of_getElem? (i := 1510) (by decide +kernel)⟩
theorem lw_p71 : lw_okq (⟨"NameWallModel", "of", "(II)I"⟩, 47) := ⟨⟨by decide +kernel, by decide +kernel⟩, List.mem_of_getElem? (i := 1182) (by decide +kernel), List.mem_of_getElem? (i := 1513) (by decide +kernel), List.mem_of_getElem? (i := 1514) (by decide +kernel)⟩
theorem lw_p72 : lw_okq (⟨"NameWallModel", "worthOf", "(I)I"⟩, 47) := ⟨⟨by decide +kernel, by decide +kernel⟩, List.mem_of_getElem? (i := 1182) (by decide +kernel), List.mem_of_getElem? (i := 1517) (by decide +kernel), List.mem_of_getElem? (i := 1518) (by decide +kernel)⟩
theorem lw_p73 : lw_okq (⟨"NameWallModel", "workOut", "(III)I"⟩, 47) := ⟨⟨by decide +kernel, by decide +kernel⟩, List.mem_of_getElem? (i := 1182) (by decide +kernel), List.mem_of_getElem? (i := 1521) (by decide +kernel), List.mem_of_getElem? (i := 1522) (by decide +kernel)⟩
theorem lw_p74 : lw_okq (⟨"NameWallModel", "stands", "(I)Z"⟩, 47) := ⟨⟨by decide +kernel, by decide +kernel⟩, List.mem_of_getElem? (i := 1182) (by decide +kernel), List.mem_of_getElem? (i := 1541) (by decide +kernel), List.mem_of_getElem? (i := 1542) (by decide +kernel)⟩
theorem lw_p75 : lw_okq (⟨"NameWallModel", "gain", "(I)I"⟩, 47) := ⟨⟨by decide +kernel, by decide +kernel⟩, List.mem_of_getElem? (i := 1182) (by decide +kernel), List.mem_of_getElem? (i := 1545) (by decide +kernel), List.mem_of_getElem? (i := 1546) (by decide +kernel)⟩
theorem lw_p76 : lw_okq (⟨"NameWallModel", "voiceOf", "(I)I"⟩, 47) := ⟨⟨by decide +kernel, by decide +kernel⟩, List.mem_of_getElem? (i := 1182) (by decide +kernel), List.mem_of_getElem? (i := 1549) (by decide +kernel), List.mem_of_getElem? (i := 1550) (by decide +kernel)⟩
theorem lw_p77 : lw_okq (⟨"NameWallModel", "areLike", "(II)Z"⟩, 47) := ⟨⟨by decide +kernel, by decide +kernel⟩, List.mem_of_getElem? (i := 1182) (by decide +kernel), List.mem_of_getElem? (i := 1553) (by decide +kernel), List.mem_of_getElem? (i := 1554) (by decide +kernel)⟩
theorem lw_p78 : lw_okq (⟨"NameWallModel", "areTied", "(II)Z"⟩, 47) := ⟨⟨by decide +kernel, by decide +kernel⟩, List.mem_of_getElem? (i := 1182) (by decide +kernel), List.mem_of_getElem? (i := 1565) (by decide +kernel), List.mem_of_getElem? (i := 1566) (by decide +kernel)⟩
theorem lw_p79 : lw_okq (⟨"NameWallModel", "canShout", "(I)Z"⟩, 47) := ⟨⟨by decide +kernel, by decide +kernel⟩, List.mem_of_getElem? (i := 1182) (by decide +kernel), List.mem_of_getElem? (i := 1573) (by decide +kernel), List.mem_of_getElem? (i := 1574) (by decide +kernel)⟩
def lw_privs_5 : List (MethodName × Nat) := [(⟨"NameWallModel", "hush", "()V"⟩, 47), (⟨"NameWallModel", "isName", "(I)Z"⟩, 47), (⟨"NameWallModel", "lossNow", "(I)I"⟩, 47), (⟨"NameWallModel", "shoutsOf", "(I)I"⟩, 47), (⟨"NameWallModel", "isHeard", "(I)Z"⟩, 47), (⟨"NameWallModel", "inHour", "(I)I"⟩, 47), (⟨"NameWallModel", "lossBy", "(IIII)I"⟩, 47), (⟨"NameWallModel", "of", "(II)I"⟩, 47), (⟨"NameWallModel", "worthOf", "(I)I"⟩, 47), (⟨"NameWallModel", "workOut", "(III)I"⟩, 47), (⟨"NameWallModel", "stands", "(I)Z"⟩, 47), (⟨"NameWallModel", "gain", "(I)I"⟩, 47), (⟨"NameWallModel", "voiceOf", "(I)I"⟩, 47), (⟨"NameWallModel", "areLike", "(II)Z"⟩, 47), (⟨"NameWallModel", "areTied", "(II)Z"⟩, 47), (⟨"NameWallModel", "canShout", "(I)Z"⟩, 47)]
theorem lw_r5 : ∀ q ∈ lw_privs_5, lw_okq q := List.forall_mem_cons.mpr ⟨lw_p64, List.forall_mem_cons.mpr ⟨lw_p65, List.forall_mem_cons.mpr ⟨lw_p66, List.forall_mem_cons.mpr ⟨lw_p67, List.forall_mem_cons.mpr ⟨lw_p68, List.forall_mem_cons.mpr ⟨lw_p69, List.forall_mem_cons.mpr ⟨lw_p70, List.forall_mem_cons.mpr ⟨lw_p71, List.forall_mem_cons.mpr ⟨lw_p72, List.forall_mem_cons.mpr ⟨lw_p73, List.forall_mem_cons.mpr ⟨lw_p74, List.forall_mem_cons.mpr ⟨lw_p75, List.forall_mem_cons.mpr ⟨lw_p76, List.forall_mem_cons.mpr ⟨lw_p77, List.forall_mem_cons.mpr ⟨lw_p78, List.forall_mem_cons.mpr ⟨lw_p79, fun _ h => absurd h List.not_mem_nil⟩⟩⟩⟩⟩⟩⟩⟩⟩⟩⟩⟩⟩⟩⟩⟩
theorem lw_p80 : lw_okq (⟨"NameWallModel", "costOf", "(II)I"⟩, 47) := ⟨⟨by decide +kernel, by decide +kernel⟩, List.mem_of_getElem? (i := 1182) (by decide +kernel), List.mem_of_getElem? (i := 1577) (by decide +kernel), List.mem_of_getElem? (i := 1578) (by decide +kernel)⟩
theorem lw_p81 : lw_okq (⟨"NameWallModel", "keepRow", "()V"⟩, 47) := ⟨⟨by decide +kernel, by decide +kernel⟩, List.mem_of_getElem? (i := 1182) (by decide +kernel), List.mem_of_getElem? (i := 1581) (by decide +kernel), List.mem_of_getElem? (i := 1582) (by decide +kernel)⟩
theorem lw_p82 : lw_okq (⟨"NameWallModel", "shoutNow", "(III)V"⟩, 47) := ⟨⟨by decide +kernel, by decide +kernel⟩, List.mem_of_getElem? (i := 1182) (by decide +kernel), List.mem_of_getElem? (i := 1585) (by decide +kernel), List.mem_of_getElem? (i := 1586) (by decide +kernel)⟩
theorem lw_p83 : lw_okq (⟨"NameWallModel", "areDays", "(I)Z"⟩, 47) := ⟨⟨by decide +kernel, by decide +kernel⟩, List.mem_of_getElem? (i := 1182) (by decide +kernel), List.mem_of_getElem? (i := 1601) (by decide +kernel), List.mem_of_getElem? (i := 1602) (by decide +kernel)⟩
theorem lw_p84 : lw_okq (⟨"NameWallModel", "dusk", "()V"⟩, 47) := ⟨⟨by decide +kernel, by decide +kernel⟩, List.mem_of_getElem? (i := 1182) (by decide +kernel), List.mem_of_getElem? (i := 1605) (by decide +kernel), List.mem_of_getElem? (i := 1606) (by decide +kernel)⟩
theorem lw_p85 : lw_okq (⟨"NameWallModel", "layThen", "()V"⟩, 47) := ⟨⟨by decide +kernel, by decide +kernel⟩, List.mem_of_getElem? (i := 1182) (by decide +kernel), List.mem_of_getElem? (i := 1609) (by decide +kernel), List.mem_of_getElem? (i := 1610) (by decide +kernel)⟩
theorem lw_p86 : lw_okq (⟨"NameWallModel", "heldIn", "(I)I"⟩, 47) := ⟨⟨by decide +kernel, by decide +kernel⟩, List.mem_of_getElem? (i := 1182) (by decide +kernel), List.mem_of_getElem? (i := 1613) (by decide +kernel), List.mem_of_getElem? (i := 1614) (by decide +kernel)⟩
theorem lw_p87 : lw_okq (⟨"NameWallModel", "heardMany", "()I"⟩, 47) := ⟨⟨by decide +kernel, by decide +kernel⟩, List.mem_of_getElem? (i := 1182) (by decide +kernel), List.mem_of_getElem? (i := 1617) (by decide +kernel), List.mem_of_getElem? (i := 1618) (by decide +kernel)⟩
theorem lw_p88 : lw_okq (⟨"NameWallModel", "standing", "()I"⟩, 47) := ⟨⟨by decide +kernel, by decide +kernel⟩, List.mem_of_getElem? (i := 1182) (by decide +kernel), List.mem_of_getElem? (i := 1621) (by decide +kernel), List.mem_of_getElem? (i := 1622) (by decide +kernel)⟩
theorem lw_p89 : lw_okq (⟨"NameWallModel", "sumOf", "(I)I"⟩, 47) := ⟨⟨by decide +kernel, by decide +kernel⟩, List.mem_of_getElem? (i := 1182) (by decide +kernel), List.mem_of_getElem? (i := 1625) (by decide +kernel), List.mem_of_getElem? (i := 1626) (by decide +kernel)⟩
theorem lw_p90 : lw_okq (⟨"NameWallModel", "drawDay", "()V"⟩, 47) := ⟨⟨by decide +kernel, by decide +kernel⟩, List.mem_of_getElem? (i := 1182) (by decide +kernel), List.mem_of_getElem? (i := 1641) (by decide +kernel), List.mem_of_getElem? (i := 1642) (by decide +kernel)⟩
theorem lw_p91 : lw_okq (⟨"NameWallModel", "draw", "(I)I"⟩, 47) := ⟨⟨by decide +kernel, by decide +kernel⟩, List.mem_of_getElem? (i := 1182) (by decide +kernel), List.mem_of_getElem? (i := 1645) (by decide +kernel), List.mem_of_getElem? (i := 1646) (by decide +kernel)⟩
theorem lw_p92 : lw_okq (⟨"NameWallModel", "isSome", "(I)Z"⟩, 47) := ⟨⟨by decide +kernel, by decide +kernel⟩, List.mem_of_getElem? (i := 1182) (by decide +kernel), List.mem_of_getElem? (i := 1674) (by decide +kernel), List.mem_of_getElem? (i := 1675) (by decide +kernel)⟩
theorem lw_p93 : lw_okq (⟨"NameWallModel", "tryKeep", "(IIIII)V"⟩, 47) := ⟨⟨by decide +kernel, by decide +kernel⟩, List.mem_of_getElem? (i := 1182) (by decide +kernel), List.mem_of_getElem? (i := 1680) (by decide +kernel), List.mem_of_getElem? (i := 1681) (by decide +kernel)⟩
theorem lw_p94 : lw_okq (⟨"NameWallModel", "isKept", "(I)Z"⟩, 47) := ⟨⟨by decide +kernel, by decide +kernel⟩, List.mem_of_getElem? (i := 1182) (by decide +kernel), List.mem_of_getElem? (i := 1684) (by decide +kernel), List.mem_of_getElem? (i := 1685) (by decide +kernel)⟩
theorem lw_p95 : lw_okq (⟨"NameWallModel", "isShouted", "(I)Z"⟩, 47) := ⟨⟨by decide +kernel, by decide +kernel⟩, List.mem_of_getElem? (i := 1182) (by decide +kernel), List.mem_of_getElem? (i := 1688) (by decide +kernel), List.mem_of_getElem? (i := 1689) (by decide +kernel)⟩
def lw_privs_6 : List (MethodName × Nat) := [(⟨"NameWallModel", "costOf", "(II)I"⟩, 47), (⟨"NameWallModel", "keepRow", "()V"⟩, 47), (⟨"NameWallModel", "shoutNow", "(III)V"⟩, 47), (⟨"NameWallModel", "areDays", "(I)Z"⟩, 47), (⟨"NameWallModel", "dusk", "()V"⟩, 47), (⟨"NameWallModel", "layThen", "()V"⟩, 47), (⟨"NameWallModel", "heldIn", "(I)I"⟩, 47), (⟨"NameWallModel", "heardMany", "()I"⟩, 47), (⟨"NameWallModel", "standing", "()I"⟩, 47), (⟨"NameWallModel", "sumOf", "(I)I"⟩, 47), (⟨"NameWallModel", "drawDay", "()V"⟩, 47), (⟨"NameWallModel", "draw", "(I)I"⟩, 47), (⟨"NameWallModel", "isSome", "(I)Z"⟩, 47), (⟨"NameWallModel", "tryKeep", "(IIIII)V"⟩, 47), (⟨"NameWallModel", "isKept", "(I)Z"⟩, 47), (⟨"NameWallModel", "isShouted", "(I)Z"⟩, 47)]
theorem lw_r6 : ∀ q ∈ lw_privs_6, lw_okq q := List.forall_mem_cons.mpr ⟨lw_p80, List.forall_mem_cons.mpr ⟨lw_p81, List.forall_mem_cons.mpr ⟨lw_p82, List.forall_mem_cons.mpr ⟨lw_p83, List.forall_mem_cons.mpr ⟨lw_p84, List.forall_mem_cons.mpr ⟨lw_p85, List.forall_mem_cons.mpr ⟨lw_p86, List.forall_mem_cons.mpr ⟨lw_p87, List.forall_mem_cons.mpr ⟨lw_p88, List.forall_mem_cons.mpr ⟨lw_p89, List.forall_mem_cons.mpr ⟨lw_p90, List.forall_mem_cons.mpr ⟨lw_p91, List.forall_mem_cons.mpr ⟨lw_p92, List.forall_mem_cons.mpr ⟨lw_p93, List.forall_mem_cons.mpr ⟨lw_p94, List.forall_mem_cons.mpr ⟨lw_p95, fun _ h => absurd h List.not_mem_nil⟩⟩⟩⟩⟩⟩⟩⟩⟩⟩⟩⟩⟩⟩⟩⟩
theorem lw_p96 : lw_okq (⟨"NameWallModel", "ringFrom", "(IIII)I"⟩, 47) := ⟨⟨by decide +kernel, by decide +kernel⟩, List.mem_of_getElem? (i := 1182) (by decide +kernel), List.mem_of_getElem? (i := 1696) (by decide +kernel), List.mem_of_getElem? (i := 1697) (by decide +kernel)⟩
theorem lw_p97 : lw_okq (⟨"NameWallModel", "isEnough", "(II)Z"⟩, 47) := ⟨⟨by decide +kernel, by decide +kernel⟩, List.mem_of_getElem? (i := 1182) (by decide +kernel), List.mem_of_getElem? (i := 1700) (by decide +kernel), List.mem_of_getElem? (i := 1701) (by decide +kernel)⟩
theorem lw_p98 : lw_okq (⟨"NameWallModel", "canPack", "(II)Z"⟩, 47) := ⟨⟨by decide +kernel, by decide +kernel⟩, List.mem_of_getElem? (i := 1182) (by decide +kernel), List.mem_of_getElem? (i := 1712) (by decide +kernel), List.mem_of_getElem? (i := 1713) (by decide +kernel)⟩
theorem lw_p99 : lw_okq (⟨"NameWallModel", "fitsIn", "(II)Z"⟩, 47) := ⟨⟨by decide +kernel, by decide +kernel⟩, List.mem_of_getElem? (i := 1182) (by decide +kernel), List.mem_of_getElem? (i := 1716) (by decide +kernel), List.mem_of_getElem? (i := 1717) (by decide +kernel)⟩
theorem lw_p100 : lw_okq (⟨"NameWallModel", "partsOf", "(I)I"⟩, 47) := ⟨⟨by decide +kernel, by decide +kernel⟩, List.mem_of_getElem? (i := 1182) (by decide +kernel), List.mem_of_getElem? (i := 1728) (by decide +kernel), List.mem_of_getElem? (i := 1729) (by decide +kernel)⟩
theorem lw_p101 : lw_okq (⟨"NameWallModel", "partOf", "(II)I"⟩, 47) := ⟨⟨by decide +kernel, by decide +kernel⟩, List.mem_of_getElem? (i := 1182) (by decide +kernel), List.mem_of_getElem? (i := 1732) (by decide +kernel), List.mem_of_getElem? (i := 1733) (by decide +kernel)⟩
theorem lw_p102 : lw_okq (⟨"NameWallModel", "isFound", "(I)Z"⟩, 47) := ⟨⟨by decide +kernel, by decide +kernel⟩, List.mem_of_getElem? (i := 1182) (by decide +kernel), List.mem_of_getElem? (i := 1752) (by decide +kernel), List.mem_of_getElem? (i := 1753) (by decide +kernel)⟩
theorem lw_p103 : lw_okq (⟨"NameWallModel", "isHour", "(I)Z"⟩, 47) := ⟨⟨by decide +kernel, by decide +kernel⟩, List.mem_of_getElem? (i := 1182) (by decide +kernel), List.mem_of_getElem? (i := 1769) (by decide +kernel), List.mem_of_getElem? (i := 1770) (by decide +kernel)⟩
theorem lw_p104 : lw_okq (⟨"NameWallModel", "rivalOf", "(III)I"⟩, 47) := ⟨⟨by decide +kernel, by decide +kernel⟩, List.mem_of_getElem? (i := 1182) (by decide +kernel), List.mem_of_getElem? (i := 1773) (by decide +kernel), List.mem_of_getElem? (i := 1774) (by decide +kernel)⟩
theorem lw_p105 : lw_okq (⟨"NameWallModel", "isRest", "(III)Z"⟩, 47) := ⟨⟨by decide +kernel, by decide +kernel⟩, List.mem_of_getElem? (i := 1182) (by decide +kernel), List.mem_of_getElem? (i := 1781) (by decide +kernel), List.mem_of_getElem? (i := 1782) (by decide +kernel)⟩
theorem lw_p106 : lw_okq (⟨"NameWallModel", "extreme", "(IIZ)I"⟩, 47) := ⟨⟨by decide +kernel, by decide +kernel⟩, List.mem_of_getElem? (i := 1182) (by decide +kernel), List.mem_of_getElem? (i := 1799) (by decide +kernel), List.mem_of_getElem? (i := 1800) (by decide +kernel)⟩
theorem lw_p107 : lw_okq (⟨"NameWallModel", "shoutsToday", "()I"⟩, 47) := ⟨⟨by decide +kernel, by decide +kernel⟩, List.mem_of_getElem? (i := 1182) (by decide +kernel), List.mem_of_getElem? (i := 1835) (by decide +kernel), List.mem_of_getElem? (i := 1836) (by decide +kernel)⟩
def lw_privs_7 : List (MethodName × Nat) := [(⟨"NameWallModel", "ringFrom", "(IIII)I"⟩, 47), (⟨"NameWallModel", "isEnough", "(II)Z"⟩, 47), (⟨"NameWallModel", "canPack", "(II)Z"⟩, 47), (⟨"NameWallModel", "fitsIn", "(II)Z"⟩, 47), (⟨"NameWallModel", "partsOf", "(I)I"⟩, 47), (⟨"NameWallModel", "partOf", "(II)I"⟩, 47), (⟨"NameWallModel", "isFound", "(I)Z"⟩, 47), (⟨"NameWallModel", "isHour", "(I)Z"⟩, 47), (⟨"NameWallModel", "rivalOf", "(III)I"⟩, 47), (⟨"NameWallModel", "isRest", "(III)Z"⟩, 47), (⟨"NameWallModel", "extreme", "(IIZ)I"⟩, 47), (⟨"NameWallModel", "shoutsToday", "()I"⟩, 47)]
theorem lw_r7 : ∀ q ∈ lw_privs_7, lw_okq q := List.forall_mem_cons.mpr ⟨lw_p96, List.forall_mem_cons.mpr ⟨lw_p97, List.forall_mem_cons.mpr ⟨lw_p98, List.forall_mem_cons.mpr ⟨lw_p99, List.forall_mem_cons.mpr ⟨lw_p100, List.forall_mem_cons.mpr ⟨lw_p101, List.forall_mem_cons.mpr ⟨lw_p102, List.forall_mem_cons.mpr ⟨lw_p103, List.forall_mem_cons.mpr ⟨lw_p104, List.forall_mem_cons.mpr ⟨lw_p105, List.forall_mem_cons.mpr ⟨lw_p106, List.forall_mem_cons.mpr ⟨lw_p107, fun _ h => absurd h List.not_mem_nil⟩⟩⟩⟩⟩⟩⟩⟩⟩⟩⟩⟩
def lw_privs : List (MethodName × Nat) := lw_privs_1 ++ (lw_privs_2 ++ (lw_privs_3 ++ (lw_privs_4 ++ (lw_privs_5 ++ (lw_privs_6 ++ (lw_privs_7))))))
def lw_tbl : List Cond := k2_sels lw_privs ++ tables_1
theorem lw_privs_ok : ∀ q ∈ lw_privs, lw_okq q := by
  show ∀ q ∈ lw_privs_1 ++ (lw_privs_2 ++ (lw_privs_3 ++ (lw_privs_4 ++ (lw_privs_5 ++ (lw_privs_6 ++ (lw_privs_7)))))), lw_okq q
  exact List.forall_mem_append.mpr ⟨lw_r1, List.forall_mem_append.mpr ⟨lw_r2, List.forall_mem_append.mpr ⟨lw_r3, List.forall_mem_append.mpr ⟨lw_r4, List.forall_mem_append.mpr ⟨lw_r5, List.forall_mem_append.mpr ⟨lw_r6, lw_r7⟩⟩⟩⟩⟩⟩
-- ===== end of PART A; then your names; then what follows =====
def RX0 : String := "NameWall$City"
def TX0 : u_T := fun k => match k with
  | 0 => ("NameWall$City", "square", "[I", true)
  | 1 => ("NameWall$City", "given", "[[I", true)
  | 2 => ("NameWall$City", "tie", "[[I", true)
  | 3 => ("NameWall$City", "friends", "[I", true)
  | 4 => ("NameWall$City", "alike", "[I", true)
  | 5 => ("NameWall$City", "isSquareTold", "Z", false)
  | 6 => ("NameWall$City", "names", "I", false)
  | _ => ("NameWall$City", "ties", "I", false)
def tyX0 : Nat → FieldType := fun k => match k with
  | 0 => .array .int
  | 1 => .array (.array .int)
  | 2 => .array (.array .int)
  | 3 => .array .int
  | 4 => .array .int
  | 5 => .boolean
  | 6 => .int
  | _ => .int
abbrev wsX00 : List Cond := u_ws RX0 TX0 8
theorem nmX0 : ∀ a, a < 8 → ∀ b, b < 8 → a ≠ b → (TX0 a).2.1 ≠ (TX0 b).2.1 := by decide +kernel
theorem tyX0_ok : ∀ k, k < 8 → parseFieldDescriptor (TX0 k).2.2.1 = some (tyX0 k) := by decide +kernel
abbrev cX0_init : ByteArray := prog_2_method_1_code
def yX0_init : MethodName := ⟨RX0, "<init>", "()V"⟩
abbrev cX0_clear : ByteArray := prog_2_method_2_code
def yX0_clear : MethodName := ⟨RX0, "clear", "()V"⟩
abbrev cX0_isWhole : ByteArray := prog_2_method_3_code
def yX0_isWhole : MethodName := ⟨RX0, "isWhole", "()Z"⟩
abbrev cX0_findFriends : ByteArray := prog_2_method_4_code
def yX0_findFriends : MethodName := ⟨RX0, "findFriends", "()V"⟩
abbrev cX0_findAlike : ByteArray := prog_2_method_5_code
def yX0_findAlike : MethodName := ⟨RX0, "findAlike", "()V"⟩
abbrev cX0_partWith : ByteArray := prog_2_method_6_code
def yX0_partWith : MethodName := ⟨RX0, "partWith", "(II)I"⟩
abbrev cX0_partsOf : ByteArray := prog_2_method_7_code
def yX0_partsOf : MethodName := ⟨RX0, "partsOf", "(I)I"⟩
def RX1 : String := "NameWall$CityReader"
def TX1 : u_T := fun k => match k with
  | _ => ("", "", "", false)
def tyX1 : Nat → FieldType := fun k => match k with
  | _ => .int
abbrev wsX10 : List Cond := u_ws RX1 TX1 0
theorem nmX1 : ∀ a, a < 0 → ∀ b, b < 0 → a ≠ b → (TX1 a).2.1 ≠ (TX1 b).2.1 := by decide +kernel
theorem tyX1_ok : ∀ k, k < 0 → parseFieldDescriptor (TX1 k).2.2.1 = some (tyX1 k) := by decide +kernel
abbrev cX1_init : ByteArray := prog_3_method_1_code
def yX1_init : MethodName := ⟨RX1, "<init>", "()V"⟩
abbrev cX1_read : ByteArray := prog_3_method_2_code
def yX1_read : MethodName := ⟨RX1, "read", "(LNameWall$Tape;LNameWall$City;)I"⟩
abbrev cX1_readClause : ByteArray := prog_3_method_3_code
def yX1_readClause : MethodName := ⟨RX1, "readClause", "(LNameWall$Tape;LNameWall$City;)Z"⟩
abbrev cX1_readItems : ByteArray := prog_3_method_4_code
def yX1_readItems : MethodName := ⟨RX1, "readItems", "(LNameWall$Tape;Ljava/lang/String;[I[I[I[I)Z"⟩
def RX2 : String := "NameWall$Day"
def TX2 : u_T := fun k => match k with
  | 0 => ("NameWall$Day", "depth", "[I", true)
  | 1 => ("NameWall$Day", "pence", "[I", true)
  | 2 => ("NameWall$Day", "whom", "[I", true)
  | 3 => ("NameWall$Day", "hour", "[I", true)
  | 4 => ("NameWall$Day", "hoarse", "I", false)
  | 5 => ("NameWall$Day", "fog", "Z", false)
  | 6 => ("NameWall$Day", "day", "I", false)
  | _ => ("NameWall$Day", "logged", "I", false)
def tyX2 : Nat → FieldType := fun k => match k with
  | 0 => .array .int
  | 1 => .array .int
  | 2 => .array .int
  | 3 => .array .int
  | 4 => .int
  | 5 => .boolean
  | 6 => .int
  | _ => .int
abbrev wsX20 : List Cond := u_ws RX2 TX2 8
theorem nmX2 : ∀ a, a < 8 → ∀ b, b < 8 → a ≠ b → (TX2 a).2.1 ≠ (TX2 b).2.1 := by decide +kernel
theorem tyX2_ok : ∀ k, k < 8 → parseFieldDescriptor (TX2 k).2.2.1 = some (tyX2 k) := by decide +kernel
abbrev cX2_init : ByteArray := prog_4_method_1_code
def yX2_init : MethodName := ⟨RX2, "<init>", "()V"⟩
abbrev cX2_begin : ByteArray := prog_4_method_2_code
def yX2_begin : MethodName := ⟨RX2, "begin", "(LNameWall$City;)V"⟩
abbrev cX2_dawn : ByteArray := prog_4_method_3_code
def yX2_dawn : MethodName := ⟨RX2, "dawn", "()V"⟩
abbrev cX2_silence : ByteArray := prog_4_method_4_code
def yX2_silence : MethodName := ⟨RX2, "silence", "()V"⟩
abbrev cX2_become : ByteArray := prog_4_method_5_code
def yX2_become : MethodName := ⟨RX2, "become", "(LNameWall$Day;)V"⟩
def RX3 : String := "NameWall$Dents"
def TX3 : u_T := fun k => match k with
  | 0 => ("NameWall$Dents", "place", "[I", true)
  | 1 => ("NameWall$Dents", "letter", "[I", true)
  | 2 => ("NameWall$Dents", "is", "[Z", true)
  | _ => ("NameWall$Dents", "count", "I", false)
def tyX3 : Nat → FieldType := fun k => match k with
  | 0 => .array .int
  | 1 => .array .int
  | 2 => .array .boolean
  | _ => .int
abbrev wsX30 : List Cond := u_ws RX3 TX3 4
theorem nmX3 : ∀ a, a < 4 → ∀ b, b < 4 → a ≠ b → (TX3 a).2.1 ≠ (TX3 b).2.1 := by decide +kernel
theorem tyX3_ok : ∀ k, k < 4 → parseFieldDescriptor (TX3 k).2.2.1 = some (tyX3 k) := by decide +kernel
abbrev cX3_init : ByteArray := prog_5_method_1_code
def yX3_init : MethodName := ⟨RX3, "<init>", "()V"⟩
abbrev cX3_add : ByteArray := prog_5_method_2_code
def yX3_add : MethodName := ⟨RX3, "add", "(IIZ)Z"⟩
abbrev cX3_letterOf : ByteArray := prog_5_method_3_code
def yX3_letterOf : MethodName := ⟨RX3, "letterOf", "(II)I"⟩
abbrev cX3_canBe : ByteArray := prog_5_method_4_code
def yX3_canBe : MethodName := ⟨RX3, "canBe", "(I)Z"⟩
abbrev cX3_fitting : ByteArray := prog_5_method_5_code
def yX3_fitting : MethodName := ⟨RX3, "fitting", "()I"⟩
abbrev cX3_fittingAt : ByteArray := prog_5_method_6_code
def yX3_fittingAt : MethodName := ⟨RX3, "fittingAt", "(I)I"⟩
abbrev cX3_look : ByteArray := prog_5_method_7_code
def yX3_look : MethodName := ⟨RX3, "look", "()I"⟩
abbrev cX3_fittingWith : ByteArray := prog_5_method_8_code
def yX3_fittingWith : MethodName := ⟨RX3, "fittingWith", "(II)I"⟩
def RX4 : String := "NameWall$LawReader"
def TX4 : u_T := fun k => match k with
  | 0 => ("NameWall$LawReader", "code", "[I", true)
  | _ => ("NameWall$LawReader", "length", "I", false)
def tyX4 : Nat → FieldType := fun k => match k with
  | 0 => .array .int
  | _ => .int
abbrev wsX40 : List Cond := u_ws RX4 TX4 2
theorem nmX4 : ∀ a, a < 2 → ∀ b, b < 2 → a ≠ b → (TX4 a).2.1 ≠ (TX4 b).2.1 := by decide +kernel
theorem tyX4_ok : ∀ k, k < 2 → parseFieldDescriptor (TX4 k).2.2.1 = some (tyX4 k) := by decide +kernel
abbrev cX4_init : ByteArray := prog_6_method_1_code
def yX4_init : MethodName := ⟨RX4, "<init>", "()V"⟩
abbrev cX4_read : ByteArray := prog_6_method_2_code
def yX4_read : MethodName := ⟨RX4, "read", "(LNameWall$Tape;)I"⟩
abbrev cX4_put : ByteArray := prog_6_method_3_code
def yX4_put : MethodName := ⟨RX4, "put", "(I)Z"⟩
abbrev cX4_readClause : ByteArray := prog_6_method_4_code
def yX4_readClause : MethodName := ⟨RX4, "readClause", "(LNameWall$Tape;)Z"⟩
abbrev cX4_isConditionAhead : ByteArray := prog_6_method_5_code
def yX4_isConditionAhead : MethodName := ⟨RX4, "isConditionAhead", "(LNameWall$Tape;)Z"⟩
abbrev cX4_isComparison : ByteArray := prog_6_method_6_code
def yX4_isComparison : MethodName := ⟨RX4, "isComparison", "(I)Z"⟩
abbrev cX4_readCondition : ByteArray := prog_6_method_7_code
def yX4_readCondition : MethodName := ⟨RX4, "readCondition", "(LNameWall$Tape;I)Z"⟩
abbrev cX4_readTruth : ByteArray := prog_6_method_8_code
def yX4_readTruth : MethodName := ⟨RX4, "readTruth", "(LNameWall$Tape;I)Z"⟩
abbrev cX4_readUnit : ByteArray := prog_6_method_9_code
def yX4_readUnit : MethodName := ⟨RX4, "readUnit", "(LNameWall$Tape;I)Z"⟩
abbrev cX4_readSum : ByteArray := prog_6_method_10_code
def yX4_readSum : MethodName := ⟨RX4, "readSum", "(LNameWall$Tape;I)Z"⟩
abbrev cX4_readTerm : ByteArray := prog_6_method_11_code
def yX4_readTerm : MethodName := ⟨RX4, "readTerm", "(LNameWall$Tape;I)Z"⟩
abbrev cX4_readAtom : ByteArray := prog_6_method_12_code
def yX4_readAtom : MethodName := ⟨RX4, "readAtom", "(LNameWall$Tape;I)Z"⟩
def RX5 : String := "NameWall$Laws"
def TX5 : u_T := fun k => match k with
  | 0 => ("NameWall$Laws", "code", "[[I", true)
  | 1 => ("NameWall$Laws", "length", "[I", true)
  | 2 => ("NameWall$Laws", "letters", "[I", true)
  | 3 => ("NameWall$Laws", "stack", "[I", true)
  | 4 => ("NameWall$Laws", "top", "I", false)
  | 5 => ("NameWall$Laws", "count", "I", false)
  | _ => ("NameWall$Laws", "holding", "I", false)
def tyX5 : Nat → FieldType := fun k => match k with
  | 0 => .array (.array .int)
  | 1 => .array .int
  | 2 => .array .int
  | 3 => .array .int
  | 4 => .int
  | 5 => .int
  | _ => .int
abbrev wsX50 : List Cond := u_ws RX5 TX5 7
theorem nmX5 : ∀ a, a < 7 → ∀ b, b < 7 → a ≠ b → (TX5 a).2.1 ≠ (TX5 b).2.1 := by decide +kernel
theorem tyX5_ok : ∀ k, k < 7 → parseFieldDescriptor (TX5 k).2.2.1 = some (tyX5 k) := by decide +kernel
abbrev cX5_init : ByteArray := prog_7_method_1_code
def yX5_init : MethodName := ⟨RX5, "<init>", "()V"⟩
abbrev cX5_add : ByteArray := prog_7_method_2_code
def yX5_add : MethodName := ⟨RX5, "add", "([II)I"⟩
abbrev cX5_worth : ByteArray := prog_7_method_3_code
def yX5_worth : MethodName := ⟨RX5, "worth", "(IIIIII)I"⟩
abbrev cX5_reckon : ByteArray := prog_7_method_4_code
def yX5_reckon : MethodName := ⟨RX5, "reckon", "(I)V"⟩
abbrev cX5_joined : ByteArray := prog_7_method_5_code
def yX5_joined : MethodName := ⟨RX5, "joined", "(III)J"⟩
abbrev cX5_bounded : ByteArray := prog_7_method_6_code
def yX5_bounded : MethodName := ⟨RX5, "bounded", "(J)I"⟩
abbrev cX5_push : ByteArray := prog_7_method_7_code
def yX5_push : MethodName := ⟨RX5, "push", "(I)V"⟩
abbrev cX5_pop : ByteArray := prog_7_method_8_code
def yX5_pop : MethodName := ⟨RX5, "pop", "()I"⟩
def RX6 : String := "NameWall$Odds"
def TX6 : u_T := fun k => match k with
  | 0 => ("NameWall$Odds", "parts", "[I", true)
  | _ => ("NameWall$Odds", "next", "[I", true)
def tyX6 : Nat → FieldType := fun k => match k with
  | 0 => .array .int
  | _ => .array .int
abbrev wsX60 : List Cond := u_ws RX6 TX6 2
theorem nmX6 : ∀ a, a < 2 → ∀ b, b < 2 → a ≠ b → (TX6 a).2.1 ≠ (TX6 b).2.1 := by decide +kernel
theorem tyX6_ok : ∀ k, k < 2 → parseFieldDescriptor (TX6 k).2.2.1 = some (tyX6 k) := by decide +kernel
abbrev cX6_init : ByteArray := prog_8_method_1_code
def yX6_init : MethodName := ⟨RX6, "<init>", "()V"⟩
abbrev cX6_standing : ByteArray := prog_8_method_2_code
def yX6_standing : MethodName := ⟨RX6, "standing", "(LNameWall$Wall;IIII)I"⟩
abbrev cX6_passDay : ByteArray := prog_8_method_3_code
def yX6_passDay : MethodName := ⟨RX6, "passDay", "(LNameWall$Wall;IIII)V"⟩
abbrev cX6_add : ByteArray := prog_8_method_4_code
def yX6_add : MethodName := ⟨RX6, "add", "(II)V"⟩
def RX7 : String := "NameWall$Past"
def TX7 : u_T := fun k => match k with
  | 0 => ("NameWall$Past", "ahead", "[LNameWall$Day;", true)
  | 1 => ("NameWall$Past", "log", "[[I", true)
  | 2 => ("NameWall$Past", "image", "LNameWall$Day;", true)
  | 3 => ("NameWall$Past", "imageLog", "[[I", true)
  | 4 => ("NameWall$Past", "hasImage", "Z", false)
  | 5 => ("NameWall$Past", "next", "I", false)
  | _ => ("NameWall$Past", "acts", "I", false)
def tyX7 : Nat → FieldType := fun k => match k with
  | 0 => .array (.object "NameWall$Day")
  | 1 => .array (.array .int)
  | 2 => .object "NameWall$Day"
  | 3 => .array (.array .int)
  | 4 => .boolean
  | 5 => .int
  | _ => .int
abbrev wsX70 : List Cond := u_ws RX7 TX7 7
theorem nmX7 : ∀ a, a < 7 → ∀ b, b < 7 → a ≠ b → (TX7 a).2.1 ≠ (TX7 b).2.1 := by decide +kernel
theorem tyX7_ok : ∀ k, k < 7 → parseFieldDescriptor (TX7 k).2.2.1 = some (tyX7 k) := by decide +kernel
abbrev cX7_init : ByteArray := prog_9_method_1_code
def yX7_init : MethodName := ⟨RX7, "<init>", "()V"⟩
abbrev cX7_clear : ByteArray := prog_9_method_2_code
def yX7_clear : MethodName := ⟨RX7, "clear", "()V"⟩
abbrev cX7_remember : ByteArray := prog_9_method_3_code
def yX7_remember : MethodName := ⟨RX7, "remember", "(LNameWall$Day;)V"⟩
abbrev cX7_takeBack : ByteArray := prog_9_method_4_code
def yX7_takeBack : MethodName := ⟨RX7, "takeBack", "(LNameWall$Day;)Z"⟩
abbrev cX7_write : ByteArray := prog_9_method_5_code
def yX7_write : MethodName := ⟨RX7, "write", "(LNameWall$Day;III)V"⟩
abbrev cX7_read : ByteArray := prog_9_method_6_code
def yX7_read : MethodName := ⟨RX7, "read", "(LNameWall$Day;II)I"⟩
abbrev cX7_paint : ByteArray := prog_9_method_7_code
def yX7_paint : MethodName := ⟨RX7, "paint", "(LNameWall$Day;)V"⟩
abbrev cX7_showImage : ByteArray := prog_9_method_8_code
def yX7_showImage : MethodName := ⟨RX7, "showImage", "(LNameWall$Day;)Z"⟩
abbrev cX7_copyLog : ByteArray := prog_9_method_9_code
def yX7_copyLog : MethodName := ⟨RX7, "copyLog", "([[I[[I)V"⟩
def RX8 : String := "NameWall$Plans"
def TX8 : u_T := fun k => match k with
  | 0 => ("NameWall$Plans", "who", "[I", true)
  | 1 => ("NameWall$Plans", "whom", "[I", true)
  | 2 => ("NameWall$Plans", "voicesLeft", "[I", true)
  | 3 => ("NameWall$Plans", "got", "[I", true)
  | 4 => ("NameWall$Plans", "shouts", "[I", true)
  | 5 => ("NameWall$Plans", "purse", "[I", true)
  | 6 => ("NameWall$Plans", "leastLoss", "[I", true)
  | 7 => ("NameWall$Plans", "loss", "[[I", true)
  | 8 => ("NameWall$Plans", "shouters", "I", false)
  | 9 => ("NameWall$Plans", "kept", "I", false)
  | 10 => ("NameWall$Plans", "room", "I", false)
  | 11 => ("NameWall$Plans", "wages", "I", false)
  | 12 => ("NameWall$Plans", "digits", "I", false)
  | _ => ("NameWall$Plans", "helpers", "I", false)
def tyX8 : Nat → FieldType := fun k => match k with
  | 0 => .array .int
  | 1 => .array .int
  | 2 => .array .int
  | 3 => .array .int
  | 4 => .array .int
  | 5 => .array .int
  | 6 => .array .int
  | 7 => .array (.array .int)
  | 8 => .int
  | 9 => .int
  | 10 => .int
  | 11 => .int
  | 12 => .int
  | _ => .int
abbrev wsX80 : List Cond := u_ws RX8 TX8 14
theorem nmX8 : ∀ a, a < 14 → ∀ b, b < 14 → a ≠ b → (TX8 a).2.1 ≠ (TX8 b).2.1 := by decide +kernel
theorem tyX8_ok : ∀ k, k < 14 → parseFieldDescriptor (TX8 k).2.2.1 = some (tyX8 k) := by decide +kernel
abbrev cX8_init : ByteArray := prog_10_method_1_code
def yX8_init : MethodName := ⟨RX8, "<init>", "()V"⟩
abbrev cX8_findKeep : ByteArray := prog_10_method_2_code
def yX8_findKeep : MethodName := ⟨RX8, "findKeep", "(LNameWall$Wall;I)Z"⟩
abbrev cX8_findLosses : ByteArray := prog_10_method_3_code
def yX8_findLosses : MethodName := ⟨RX8, "findLosses", "(LNameWall$Wall;I)V"⟩
abbrev cX8_findShouters : ByteArray := prog_10_method_4_code
def yX8_findShouters : MethodName := ⟨RX8, "findShouters", "(LNameWall$Wall;)V"⟩
abbrev cX8_lay : ByteArray := prog_10_method_5_code
def yX8_lay : MethodName := ⟨RX8, "lay", "(LNameWall$Wall;II)V"⟩
abbrev cX8_change : ByteArray := prog_10_method_6_code
def yX8_change : MethodName := ⟨RX8, "change", "(IIII)V"⟩
abbrev cX8_hasHope : ByteArray := prog_10_method_7_code
def yX8_hasHope : MethodName := ⟨RX8, "hasHope", "(LNameWall$Wall;I)Z"⟩
abbrev cX8_isKept : ByteArray := prog_10_method_8_code
def yX8_isKept : MethodName := ⟨RX8, "isKept", "(LNameWall$Wall;)Z"⟩
abbrev cX8_writeDigits : ByteArray := prog_10_method_9_code
def yX8_writeDigits : MethodName := ⟨RX8, "writeDigits", "()V"⟩
abbrev cX8_findRing : ByteArray := prog_10_method_10_code
def yX8_findRing : MethodName := ⟨RX8, "findRing", "(LNameWall$Wall;I)I"⟩
abbrev cX8_goRound : ByteArray := prog_10_method_11_code
def yX8_goRound : MethodName := ⟨RX8, "goRound", "(LNameWall$Wall;III)I"⟩
abbrev cX8_findPrice : ByteArray := prog_10_method_12_code
def yX8_findPrice : MethodName := ⟨RX8, "findPrice", "(LNameWall$Wall;I)Z"⟩
abbrev cX8_priceOf : ByteArray := prog_10_method_13_code
def yX8_priceOf : MethodName := ⟨RX8, "priceOf", "(LNameWall$Wall;III)V"⟩
def RX9 : String := "NameWall$Tape"
def TX9 : u_T := fun k => match k with
  | 0 => ("NameWall$Tape", "signs", "[I", true)
  | 1 => ("NameWall$Tape", "length", "I", false)
  | _ => ("NameWall$Tape", "at", "I", false)
def tyX9 : Nat → FieldType := fun k => match k with
  | 0 => .array .int
  | 1 => .int
  | _ => .int
abbrev wsX90 : List Cond := u_ws RX9 TX9 3
theorem nmX9 : ∀ a, a < 3 → ∀ b, b < 3 → a ≠ b → (TX9 a).2.1 ≠ (TX9 b).2.1 := by decide +kernel
theorem tyX9_ok : ∀ k, k < 3 → parseFieldDescriptor (TX9 k).2.2.1 = some (tyX9 k) := by decide +kernel
abbrev cX9_init : ByteArray := prog_11_method_1_code
def yX9_init : MethodName := ⟨RX9, "<init>", "()V"⟩
abbrev cX9_bytesIn : ByteArray := prog_11_method_2_code
def yX9_bytesIn : MethodName := ⟨RX9, "bytesIn", "(I)I"⟩
abbrev cX9_add : ByteArray := prog_11_method_3_code
def yX9_add : MethodName := ⟨RX9, "add", "(I)V"⟩
abbrev cX9_sign : ByteArray := prog_11_method_4_code
def yX9_sign : MethodName := ⟨RX9, "sign", "()I"⟩
abbrev cX9_takes : ByteArray := prog_11_method_5_code
def yX9_takes : MethodName := ⟨RX9, "takes", "(I)Z"⟩
abbrev cX9_number : ByteArray := prog_11_method_6_code
def yX9_number : MethodName := ⟨RX9, "number", "(III)I"⟩
def RX10 : String := "NameWall$Wall"
def TX10 : u_T := fun k => match k with
  | 0 => ("NameWall$Wall", "city", "LNameWall$City;", true)
  | 1 => ("NameWall$Wall", "laws", "LNameWall$Laws;", true)
  | 2 => ("NameWall$Wall", "now", "LNameWall$Day;", true)
  | _ => ("NameWall$Wall", "deep", "[I", true)
def tyX10 : Nat → FieldType := fun k => match k with
  | 0 => .object "NameWall$City"
  | 1 => .object "NameWall$Laws"
  | 2 => .object "NameWall$Day"
  | _ => .array .int
abbrev wsX100 : List Cond := u_ws RX10 TX10 4
theorem nmX10 : ∀ a, a < 4 → ∀ b, b < 4 → a ≠ b → (TX10 a).2.1 ≠ (TX10 b).2.1 := by decide +kernel
theorem tyX10_ok : ∀ k, k < 4 → parseFieldDescriptor (TX10 k).2.2.1 = some (tyX10 k) := by decide +kernel
abbrev cX10_init : ByteArray := prog_12_method_1_code
def yX10_init : MethodName := ⟨RX10, "<init>", "()V"⟩
abbrev cX10_isName : ByteArray := prog_12_method_2_code
def yX10_isName : MethodName := ⟨RX10, "isName", "(I)Z"⟩
abbrev cX10_stands : ByteArray := prog_12_method_3_code
def yX10_stands : MethodName := ⟨RX10, "stands", "(I)Z"⟩
abbrev cX10_standing : ByteArray := prog_12_method_4_code
def yX10_standing : MethodName := ⟨RX10, "standing", "()I"⟩
abbrev cX10_hasShouted : ByteArray := prog_12_method_5_code
def yX10_hasShouted : MethodName := ⟨RX10, "hasShouted", "(I)Z"⟩
abbrev cX10_shouts : ByteArray := prog_12_method_6_code
def yX10_shouts : MethodName := ⟨RX10, "shouts", "()I"⟩
abbrev cX10_shoutsIn : ByteArray := prog_12_method_7_code
def yX10_shoutsIn : MethodName := ⟨RX10, "shoutsIn", "(I)I"⟩
abbrev cX10_voice : ByteArray := prog_12_method_8_code
def yX10_voice : MethodName := ⟨RX10, "voice", "(I)I"⟩
abbrev cX10_wage : ByteArray := prog_12_method_9_code
def yX10_wage : MethodName := ⟨RX10, "wage", "(II)I"⟩
abbrev cX10_heard : ByteArray := prog_12_method_10_code
def yX10_heard : MethodName := ⟨RX10, "heard", "()I"⟩
abbrev cX10_heardFor : ByteArray := prog_12_method_11_code
def yX10_heardFor : MethodName := ⟨RX10, "heardFor", "(II)I"⟩
abbrev cX10_gets : ByteArray := prog_12_method_12_code
def yX10_gets : MethodName := ⟨RX10, "gets", "(II)I"⟩
abbrev cX10_loss : ByteArray := prog_12_method_13_code
def yX10_loss : MethodName := ⟨RX10, "loss", "(IIII)I"⟩
abbrev cX10_lossNow : ByteArray := prog_12_method_14_code
def yX10_lossNow : MethodName := ⟨RX10, "lossNow", "(II)I"⟩
abbrev cX10_held : ByteArray := prog_12_method_15_code
def yX10_held : MethodName := ⟨RX10, "held", "(I)I"⟩
abbrev cX10_depthBehind : ByteArray := prog_12_method_16_code
def yX10_depthBehind : MethodName := ⟨RX10, "depthBehind", "(II)I"⟩
abbrev cX10_passEvening : ByteArray := prog_12_method_17_code
def yX10_passEvening : MethodName := ⟨RX10, "passEvening", "(LNameWall$Past;)V"⟩
abbrev cX10_hoursNeeded : ByteArray := prog_12_method_18_code
def yX10_hoursNeeded : MethodName := ⟨RX10, "hoursNeeded", "()I"⟩
abbrev cX10_againstRival : ByteArray := prog_12_method_19_code
def yX10_againstRival : MethodName := ⟨RX10, "againstRival", "(III)I"⟩
abbrev cX10_isRest : ByteArray := prog_12_method_20_code
def yX10_isRest : MethodName := ⟨RX10, "isRest", "(III)Z"⟩
def RX11 : String := "NameWall"
def TX11 : u_T := fun k => match k with
  | 0 => ("NameWall", "tape", "LNameWall$Tape;", true)
  | 1 => ("NameWall", "cityReader", "LNameWall$CityReader;", true)
  | 2 => ("NameWall", "lawReader", "LNameWall$LawReader;", true)
  | 3 => ("NameWall", "draft", "LNameWall$City;", true)
  | 4 => ("NameWall", "wall", "LNameWall$Wall;", true)
  | 5 => ("NameWall", "past", "LNameWall$Past;", true)
  | 6 => ("NameWall", "dents", "LNameWall$Dents;", true)
  | 7 => ("NameWall", "plans", "LNameWall$Plans;", true)
  | 8 => ("NameWall", "chances", "LNameWall$Odds;", true)
  | 9 => ("NameWall", "fogChance", "I", false)
  | 10 => ("NameWall", "coldChance", "I", false)
  | _ => ("NameWall", "drawn", "J", false)
def tyX11 : Nat → FieldType := fun k => match k with
  | 0 => .object "NameWall$Tape"
  | 1 => .object "NameWall$CityReader"
  | 2 => .object "NameWall$LawReader"
  | 3 => .object "NameWall$City"
  | 4 => .object "NameWall$Wall"
  | 5 => .object "NameWall$Past"
  | 6 => .object "NameWall$Dents"
  | 7 => .object "NameWall$Plans"
  | 8 => .object "NameWall$Odds"
  | 9 => .int
  | 10 => .int
  | _ => .long
abbrev wsX110 : List Cond := u_ws RX11 TX11 12
theorem nmX11 : ∀ a, a < 12 → ∀ b, b < 12 → a ≠ b → (TX11 a).2.1 ≠ (TX11 b).2.1 := by decide +kernel
theorem tyX11_ok : ∀ k, k < 12 → parseFieldDescriptor (TX11 k).2.2.1 = some (tyX11 k) := by decide +kernel
abbrev cX11_init : ByteArray := prog_1_method_1_code
def yX11_init : MethodName := ⟨RX11, "<init>", "()V"⟩
abbrev cX11_feed : ByteArray := prog_1_method_2_code
def yX11_feed : MethodName := ⟨RX11, "feed", "(IIIII)I"⟩
abbrev cX11_end : ByteArray := prog_1_method_3_code
def yX11_end : MethodName := ⟨RX11, "end", "(I)Z"⟩
abbrev cX11_fault : ByteArray := prog_1_method_4_code
def yX11_fault : MethodName := ⟨RX11, "fault", "(I)I"⟩
abbrev cX11_text : ByteArray := prog_1_method_5_code
def yX11_text : MethodName := ⟨RX11, "text", "(I)I"⟩
abbrev cX11_beginCity : ByteArray := prog_1_method_6_code
def yX11_beginCity : MethodName := ⟨RX11, "beginCity", "()V"⟩
abbrev cX11_square : ByteArray := prog_1_method_7_code
def yX11_square : MethodName := ⟨RX11, "square", "(I)I"⟩
abbrev cX11_name : ByteArray := prog_1_method_8_code
def yX11_name : MethodName := ⟨RX11, "name", "(II)I"⟩
abbrev cX11_law : ByteArray := prog_1_method_9_code
def yX11_law : MethodName := ⟨RX11, "law", "(I)Z"⟩
abbrev cX11_tied : ByteArray := prog_1_method_10_code
def yX11_tied : MethodName := ⟨RX11, "tied", "(II)I"⟩
abbrev cX11_shout : ByteArray := prog_1_method_11_code
def yX11_shout : MethodName := ⟨RX11, "shout", "(III)I"⟩
abbrev cX11_fog : ByteArray := prog_1_method_12_code
def yX11_fog : MethodName := ⟨RX11, "fog", "(Z)Z"⟩
abbrev cX11_hoarse : ByteArray := prog_1_method_13_code
def yX11_hoarse : MethodName := ⟨RX11, "hoarse", "(I)Z"⟩
abbrev cX11_evening : ByteArray := prog_1_method_14_code
def yX11_evening : MethodName := ⟨RX11, "evening", "(I)I"⟩
abbrev cX11_cannotPass : ByteArray := prog_1_method_15_code
def yX11_cannotPass : MethodName := ⟨RX11, "cannotPass", "(I)Z"⟩
abbrev cX11_fogs : ByteArray := prog_1_method_16_code
def yX11_fogs : MethodName := ⟨RX11, "fogs", "(I)Z"⟩
abbrev cX11_colds : ByteArray := prog_1_method_17_code
def yX11_colds : MethodName := ⟨RX11, "colds", "(I)Z"⟩
abbrev cX11_centuries : ByteArray := prog_1_method_18_code
def yX11_centuries : MethodName := ⟨RX11, "centuries", "(IJ)I"⟩
abbrev cX11_drawWeather : ByteArray := prog_1_method_19_code
def yX11_drawWeather : MethodName := ⟨RX11, "drawWeather", "()V"⟩
abbrev cX11_drawShouts : ByteArray := prog_1_method_20_code
def yX11_drawShouts : MethodName := ⟨RX11, "drawShouts", "()V"⟩
abbrev cX11_draw : ByteArray := prog_1_method_21_code
def yX11_draw : MethodName := ⟨RX11, "draw", "(I)I"⟩
abbrev cX11_undo : ByteArray := prog_1_method_22_code
def yX11_undo : MethodName := ⟨RX11, "undo", "()I"⟩
abbrev cX11_log : ByteArray := prog_1_method_23_code
def yX11_log : MethodName := ⟨RX11, "log", "(II)I"⟩
abbrev cX11_alone : ByteArray := prog_1_method_24_code
def yX11_alone : MethodName := ⟨RX11, "alone", "(I)I"⟩
abbrev cX11_keep : ByteArray := prog_1_method_25_code
def yX11_keep : MethodName := ⟨RX11, "keep", "(II)I"⟩
abbrev cX11_ring : ByteArray := prog_1_method_26_code
def yX11_ring : MethodName := ⟨RX11, "ring", "(I)I"⟩
abbrev cX11_price : ByteArray := prog_1_method_27_code
def yX11_price : MethodName := ⟨RX11, "price", "(II)I"⟩
abbrev cX11_packed : ByteArray := prog_1_method_28_code
def yX11_packed : MethodName := ⟨RX11, "packed", "()I"⟩
abbrev cX11_weak : ByteArray := prog_1_method_29_code
def yX11_weak : MethodName := ⟨RX11, "weak", "()I"⟩
abbrev cX11_parts : ByteArray := prog_1_method_30_code
def yX11_parts : MethodName := ⟨RX11, "parts", "()I"⟩
abbrev cX11_bridges : ByteArray := prog_1_method_31_code
def yX11_bridges : MethodName := ⟨RX11, "bridges", "()I"⟩
abbrev cX11_bond : ByteArray := prog_1_method_32_code
def yX11_bond : MethodName := ⟨RX11, "bond", "()I"⟩
abbrev cX11_dent : ByteArray := prog_1_method_33_code
def yX11_dent : MethodName := ⟨RX11, "dent", "(IIZ)I"⟩
abbrev cX11_fits : ByteArray := prog_1_method_34_code
def yX11_fits : MethodName := ⟨RX11, "fits", "(I)I"⟩
abbrev cX11_best : ByteArray := prog_1_method_35_code
def yX11_best : MethodName := ⟨RX11, "best", "()I"⟩
abbrev cX11_rival : ByteArray := prog_1_method_36_code
def yX11_rival : MethodName := ⟨RX11, "rival", "(III)I"⟩
abbrev cX11_rests : ByteArray := prog_1_method_37_code
def yX11_rests : MethodName := ⟨RX11, "rests", "(II)I"⟩
abbrev cX11_odds : ByteArray := prog_1_method_38_code
def yX11_odds : MethodName := ⟨RX11, "odds", "(IIII)I"⟩
abbrev cX11_need : ByteArray := prog_1_method_39_code
def yX11_need : MethodName := ⟨RX11, "need", "(I)I"⟩
abbrev cX11_sharpest : ByteArray := prog_1_method_40_code
def yX11_sharpest : MethodName := ⟨RX11, "sharpest", "()I"⟩
abbrev cX11_faintest : ByteArray := prog_1_method_41_code
def yX11_faintest : MethodName := ⟨RX11, "faintest", "()I"⟩
abbrev cX11_richest : ByteArray := prog_1_method_42_code
def yX11_richest : MethodName := ⟨RX11, "richest", "()I"⟩
abbrev cX11_friends : ByteArray := prog_1_method_43_code
def yX11_friends : MethodName := ⟨RX11, "friends", "(I)I"⟩
abbrev cX11_helped : ByteArray := prog_1_method_44_code
def yX11_helped : MethodName := ⟨RX11, "helped", "()I"⟩
abbrev cX11_doomed : ByteArray := prog_1_method_45_code
def yX11_doomed : MethodName := ⟨RX11, "doomed", "()I"⟩
abbrev cX11_image : ByteArray := prog_1_method_46_code
def yX11_image : MethodName := ⟨RX11, "image", "()I"⟩
abbrev cX11_back : ByteArray := prog_1_method_47_code
def yX11_back : MethodName := ⟨RX11, "back", "()I"⟩
abbrev cX11_count : ByteArray := prog_1_method_48_code
def yX11_count : MethodName := ⟨RX11, "count", "(I)I"⟩
abbrev cX11_hasNoCity : ByteArray := prog_1_method_49_code
def yX11_hasNoCity : MethodName := ⟨RX11, "hasNoCity", "()Z"⟩
abbrev cX11_canShout : ByteArray := prog_1_method_50_code
def yX11_canShout : MethodName := ⟨RX11, "canShout", "(I)Z"⟩
abbrev cX11_isHour : ByteArray := prog_1_method_51_code
def yX11_isHour : MethodName := ⟨RX11, "isHour", "(I)Z"⟩
abbrev cX11_isOutside : ByteArray := prog_1_method_52_code
def yX11_isOutside : MethodName := ⟨RX11, "isOutside", "(III)Z"⟩
abbrev cX11_has : ByteArray := prog_1_method_53_code
def yX11_has : MethodName := ⟨RX11, "has", "(II)Z"⟩
abbrev cX11_lowest : ByteArray := prog_1_method_54_code
def yX11_lowest : MethodName := ⟨RX11, "lowest", "(I)I"⟩
def RX12 : String := "NameWallModel"
def TX12 : u_T := fun k => match k with
  | 0 => ("NameWallModel", "thrown", "I", false)
  | 1 => ("NameWallModel", "tape", "[I", true)
  | 2 => ("NameWallModel", "size", "I", false)
  | 3 => ("NameWallModel", "at", "I", false)
  | 4 => ("NameWallModel", "wrong", "I", false)
  | 5 => ("NameWallModel", "deep", "I", false)
  | 6 => ("NameWallModel", "code", "[I", true)
  | 7 => ("NameWallModel", "value", "[I", true)
  | 8 => ("NameWallModel", "codes", "[I", true)
  | 9 => ("NameWallModel", "clauses", "[I", true)
  | 10 => ("NameWallModel", "testFrom", "[I", true)
  | 11 => ("NameWallModel", "sumFrom", "[I", true)
  | 12 => ("NameWallModel", "sumTo", "[I", true)
  | 13 => ("NameWallModel", "laws", "I", false)
  | 14 => ("NameWallModel", "text", "I", false)
  | 15 => ("NameWallModel", "letters", "[I", true)
  | 16 => ("NameWallModel", "stack", "[I", true)
  | 17 => ("NameWallModel", "readSquare", "[I", true)
  | 18 => ("NameWallModel", "readName", "[I", true)
  | 19 => ("NameWallModel", "readTie", "[I", true)
  | 20 => ("NameWallModel", "readNames", "I", false)
  | 21 => ("NameWallModel", "readTies", "I", false)
  | 22 => ("NameWallModel", "square", "[I", true)
  | 23 => ("NameWallModel", "told", "[I", true)
  | 24 => ("NameWallModel", "tiesOf", "[I", true)
  | 25 => ("NameWallModel", "names", "I", false)
  | 26 => ("NameWallModel", "ties", "I", false)
  | 27 => ("NameWallModel", "now", "[I", true)
  | 28 => ("NameWallModel", "holding", "I", false)
  | 29 => ("NameWallModel", "foggy", "I", false)
  | 30 => ("NameWallModel", "cold", "I", false)
  | 31 => ("NameWallModel", "kept", "[I", true)
  | 32 => ("NameWallModel", "acts", "I", false)
  | 33 => ("NameWallModel", "then", "[I", true)
  | 34 => ("NameWallModel", "draws", "J", false)
  | 35 => ("NameWallModel", "shouted", "[I", true)
  | 36 => ("NameWallModel", "keepRowBest", "I", false)
  | 37 => ("NameWallModel", "keepCost", "I", false)
  | 38 => ("NameWallModel", "packs", "[I", true)
  | 39 => ("NameWallModel", "dentPlace", "[I", true)
  | 40 => ("NameWallModel", "dentLetter", "[I", true)
  | 41 => ("NameWallModel", "dentIs", "[Z", true)
  | 42 => ("NameWallModel", "dents", "I", false)
  | 43 => ("NameWallModel", "partAt", "[J", true)
  | 44 => ("NameWallModel", "partThen", "[J", true)
  | 45 => ("NameWallModel", "image", "[I", true)
  | _ => ("NameWallModel", "hasImage", "Z", false)
def tyX12 : Nat → FieldType := fun k => match k with
  | 0 => .int
  | 1 => .array .int
  | 2 => .int
  | 3 => .int
  | 4 => .int
  | 5 => .int
  | 6 => .array .int
  | 7 => .array .int
  | 8 => .array .int
  | 9 => .array .int
  | 10 => .array .int
  | 11 => .array .int
  | 12 => .array .int
  | 13 => .int
  | 14 => .int
  | 15 => .array .int
  | 16 => .array .int
  | 17 => .array .int
  | 18 => .array .int
  | 19 => .array .int
  | 20 => .int
  | 21 => .int
  | 22 => .array .int
  | 23 => .array .int
  | 24 => .array .int
  | 25 => .int
  | 26 => .int
  | 27 => .array .int
  | 28 => .int
  | 29 => .int
  | 30 => .int
  | 31 => .array .int
  | 32 => .int
  | 33 => .array .int
  | 34 => .long
  | 35 => .array .int
  | 36 => .int
  | 37 => .int
  | 38 => .array .int
  | 39 => .array .int
  | 40 => .array .int
  | 41 => .array .boolean
  | 42 => .int
  | 43 => .array .long
  | 44 => .array .long
  | 45 => .array .int
  | _ => .boolean
abbrev wsX120 : List Cond := u_ws RX12 TX12 47
theorem nmX12 : ∀ a, a < 47 → ∀ b, b < 47 → a ≠ b → (TX12 a).2.1 ≠ (TX12 b).2.1 := by decide +kernel
theorem tyX12_ok : ∀ k, k < 47 → parseFieldDescriptor (TX12 k).2.2.1 = some (tyX12 k) := by decide +kernel
abbrev cX12_in : ByteArray := prog_14_method_1_code
def yX12_in : MethodName := ⟨RX12, "in", "(III)Z"⟩
abbrev cX12_has : ByteArray := prog_14_method_2_code
def yX12_has : MethodName := ⟨RX12, "has", "(II)Z"⟩
abbrev cX12_init : ByteArray := prog_14_method_3_code
def yX12_init : MethodName := ⟨RX12, "<init>", "()V"⟩
abbrev cX12_thrown : ByteArray := prog_14_method_4_code
def yX12_thrown : MethodName := ⟨RX12, "thrown", "()I"⟩
abbrev cX12_byteOf : ByteArray := prog_14_method_5_code
def yX12_byteOf : MethodName := ⟨RX12, "byteOf", "(IIIIII)I"⟩
abbrev cX12_feed : ByteArray := prog_14_method_6_code
def yX12_feed : MethodName := ⟨RX12, "feed", "(IIIII)I"⟩
abbrev cX12_end : ByteArray := prog_14_method_7_code
def yX12_end : MethodName := ⟨RX12, "end", "(I)Z"⟩
abbrev cX12_here : ByteArray := prog_14_method_8_code
def yX12_here : MethodName := ⟨RX12, "here", "()I"⟩
abbrev cX12_look : ByteArray := prog_14_method_9_code
def yX12_look : MethodName := ⟨RX12, "look", "()I"⟩
abbrev cX12_bad : ByteArray := prog_14_method_10_code
def yX12_bad : MethodName := ⟨RX12, "bad", "()V"⟩
abbrev cX12_isDigit : ByteArray := prog_14_method_11_code
def yX12_isDigit : MethodName := ⟨RX12, "isDigit", "(I)Z"⟩
abbrev cX12_put : ByteArray := prog_14_method_12_code
def yX12_put : MethodName := ⟨RX12, "put", "(II)V"⟩
abbrev cX12_letterOf : ByteArray := prog_14_method_13_code
def yX12_letterOf : MethodName := ⟨RX12, "letterOf", "(I)I"⟩
abbrev cX12_opens : ByteArray := prog_14_method_14_code
def yX12_opens : MethodName := ⟨RX12, "opens", "()V"⟩
abbrev cX12_closes : ByteArray := prog_14_method_15_code
def yX12_closes : MethodName := ⟨RX12, "closes", "(I)V"⟩
abbrev cX12_plainNumber : ByteArray := prog_14_method_16_code
def yX12_plainNumber : MethodName := ⟨RX12, "plainNumber", "()I"⟩
abbrev cX12_atom : ByteArray := prog_14_method_17_code
def yX12_atom : MethodName := ⟨RX12, "atom", "()V"⟩
abbrev cX12_term : ByteArray := prog_14_method_18_code
def yX12_term : MethodName := ⟨RX12, "term", "()V"⟩
abbrev cX12_sum : ByteArray := prog_14_method_19_code
def yX12_sum : MethodName := ⟨RX12, "sum", "()V"⟩
abbrev cX12_isSign : ByteArray := prog_14_method_20_code
def yX12_isSign : MethodName := ⟨RX12, "isSign", "(I)Z"⟩
abbrev cX12_compare : ByteArray := prog_14_method_21_code
def yX12_compare : MethodName := ⟨RX12, "compare", "()V"⟩
abbrev cX12_unit : ByteArray := prog_14_method_22_code
def yX12_unit : MethodName := ⟨RX12, "unit", "()V"⟩
abbrev cX12_goOnAnd : ByteArray := prog_14_method_23_code
def yX12_goOnAnd : MethodName := ⟨RX12, "goOnAnd", "()V"⟩
abbrev cX12_goOnOr : ByteArray := prog_14_method_24_code
def yX12_goOnOr : MethodName := ⟨RX12, "goOnOr", "()V"⟩
abbrev cX12_condition : ByteArray := prog_14_method_25_code
def yX12_condition : MethodName := ⟨RX12, "condition", "()V"⟩
abbrev cX12_clause : ByteArray := prog_14_method_26_code
def yX12_clause : MethodName := ⟨RX12, "clause", "()V"⟩
abbrev cX12_open : ByteArray := prog_14_method_27_code
def yX12_open : MethodName := ⟨RX12, "open", "(I)V"⟩
abbrev cX12_atEnd : ByteArray := prog_14_method_28_code
def yX12_atEnd : MethodName := ⟨RX12, "atEnd", "()I"⟩
abbrev cX12_readLaw : ByteArray := prog_14_method_29_code
def yX12_readLaw : MethodName := ⟨RX12, "readLaw", "(I)I"⟩
abbrev cX12_bounded : ByteArray := prog_14_method_30_code
def yX12_bounded : MethodName := ⟨RX12, "bounded", "(J)I"⟩
abbrev cX12_worked : ByteArray := prog_14_method_31_code
def yX12_worked : MethodName := ⟨RX12, "worked", "(IJJ)I"⟩
abbrev cX12_workOut : ByteArray := prog_14_method_32_code
def yX12_workOut : MethodName := ⟨RX12, "workOut", "(III)I"⟩
abbrev cX12_worthOf : ByteArray := prog_14_method_33_code
def yX12_worthOf : MethodName := ⟨RX12, "worthOf", "(I)I"⟩
abbrev cX12_number : ByteArray := prog_14_method_34_code
def yX12_number : MethodName := ⟨RX12, "number", "(II)I"⟩
abbrev cX12_itemOf : ByteArray := prog_14_method_35_code
def yX12_itemOf : MethodName := ⟨RX12, "itemOf", "(II)I"⟩
abbrev cX12_lowest : ByteArray := prog_14_method_36_code
def yX12_lowest : MethodName := ⟨RX12, "lowest", "(II)I"⟩
abbrev cX12_highest : ByteArray := prog_14_method_37_code
def yX12_highest : MethodName := ⟨RX12, "highest", "(II)I"⟩
abbrev cX12_usual : ByteArray := prog_14_method_38_code
def yX12_usual : MethodName := ⟨RX12, "usual", "(II)I"⟩
abbrev cX12_items : ByteArray := prog_14_method_39_code
def yX12_items : MethodName := ⟨RX12, "items", "(I[III)V"⟩
abbrev cX12_isWhole : ByteArray := prog_14_method_40_code
def yX12_isWhole : MethodName := ⟨RX12, "isWhole", "()Z"⟩
abbrev cX12_readCity : ByteArray := prog_14_method_41_code
def yX12_readCity : MethodName := ⟨RX12, "readCity", "()I"⟩
abbrev cX12_fault : ByteArray := prog_14_method_42_code
def yX12_fault : MethodName := ⟨RX12, "fault", "(I)I"⟩
abbrev cX12_takeCity : ByteArray := prog_14_method_43_code
def yX12_takeCity : MethodName := ⟨RX12, "takeCity", "()I"⟩
abbrev cX12_hush : ByteArray := prog_14_method_44_code
def yX12_hush : MethodName := ⟨RX12, "hush", "()V"⟩
abbrev cX12_text : ByteArray := prog_14_method_45_code
def yX12_text : MethodName := ⟨RX12, "text", "(I)I"⟩
abbrev cX12_isName : ByteArray := prog_14_method_46_code
def yX12_isName : MethodName := ⟨RX12, "isName", "(I)Z"⟩
abbrev cX12_stands : ByteArray := prog_14_method_47_code
def yX12_stands : MethodName := ⟨RX12, "stands", "(I)Z"⟩
abbrev cX12_standing : ByteArray := prog_14_method_48_code
def yX12_standing : MethodName := ⟨RX12, "standing", "()I"⟩
abbrev cX12_of : ByteArray := prog_14_method_49_code
def yX12_of : MethodName := ⟨RX12, "of", "(II)I"⟩
abbrev cX12_areTied : ByteArray := prog_14_method_50_code
def yX12_areTied : MethodName := ⟨RX12, "areTied", "(II)Z"⟩
abbrev cX12_areLike : ByteArray := prog_14_method_51_code
def yX12_areLike : MethodName := ⟨RX12, "areLike", "(II)Z"⟩
abbrev cX12_voiceOf : ByteArray := prog_14_method_52_code
def yX12_voiceOf : MethodName := ⟨RX12, "voiceOf", "(I)I"⟩
abbrev cX12_costOf : ByteArray := prog_14_method_53_code
def yX12_costOf : MethodName := ⟨RX12, "costOf", "(II)I"⟩
abbrev cX12_inHour : ByteArray := prog_14_method_54_code
def yX12_inHour : MethodName := ⟨RX12, "inHour", "(I)I"⟩
abbrev cX12_isHeard : ByteArray := prog_14_method_55_code
def yX12_isHeard : MethodName := ⟨RX12, "isHeard", "(I)Z"⟩
abbrev cX12_shoutsOf : ByteArray := prog_14_method_56_code
def yX12_shoutsOf : MethodName := ⟨RX12, "shoutsOf", "(I)I"⟩
abbrev cX12_heardMany : ByteArray := prog_14_method_57_code
def yX12_heardMany : MethodName := ⟨RX12, "heardMany", "()I"⟩
abbrev cX12_gain : ByteArray := prog_14_method_58_code
def yX12_gain : MethodName := ⟨RX12, "gain", "(I)I"⟩
abbrev cX12_lossBy : ByteArray := prog_14_method_59_code
def yX12_lossBy : MethodName := ⟨RX12, "lossBy", "(IIII)I"⟩
abbrev cX12_lossNow : ByteArray := prog_14_method_60_code
def yX12_lossNow : MethodName := ⟨RX12, "lossNow", "(I)I"⟩
abbrev cX12_heldIn : ByteArray := prog_14_method_61_code
def yX12_heldIn : MethodName := ⟨RX12, "heldIn", "(I)I"⟩
abbrev cX12_square : ByteArray := prog_14_method_62_code
def yX12_square : MethodName := ⟨RX12, "square", "(I)I"⟩
abbrev cX12_name : ByteArray := prog_14_method_63_code
def yX12_name : MethodName := ⟨RX12, "name", "(II)I"⟩
abbrev cX12_law : ByteArray := prog_14_method_64_code
def yX12_law : MethodName := ⟨RX12, "law", "(I)Z"⟩
abbrev cX12_tied : ByteArray := prog_14_method_65_code
def yX12_tied : MethodName := ⟨RX12, "tied", "(II)I"⟩
abbrev cX12_keepRow : ByteArray := prog_14_method_66_code
def yX12_keepRow : MethodName := ⟨RX12, "keepRow", "()V"⟩
abbrev cX12_canShout : ByteArray := prog_14_method_67_code
def yX12_canShout : MethodName := ⟨RX12, "canShout", "(I)Z"⟩
abbrev cX12_shoutNow : ByteArray := prog_14_method_68_code
def yX12_shoutNow : MethodName := ⟨RX12, "shoutNow", "(III)V"⟩
abbrev cX12_shout : ByteArray := prog_14_method_69_code
def yX12_shout : MethodName := ⟨RX12, "shout", "(III)I"⟩
abbrev cX12_fog : ByteArray := prog_14_method_70_code
def yX12_fog : MethodName := ⟨RX12, "fog", "(Z)Z"⟩
abbrev cX12_hoarse : ByteArray := prog_14_method_71_code
def yX12_hoarse : MethodName := ⟨RX12, "hoarse", "(I)Z"⟩
abbrev cX12_sumOf : ByteArray := prog_14_method_72_code
def yX12_sumOf : MethodName := ⟨RX12, "sumOf", "(I)I"⟩
abbrev cX12_layThen : ByteArray := prog_14_method_73_code
def yX12_layThen : MethodName := ⟨RX12, "layThen", "()V"⟩
abbrev cX12_dusk : ByteArray := prog_14_method_74_code
def yX12_dusk : MethodName := ⟨RX12, "dusk", "()V"⟩
abbrev cX12_areDays : ByteArray := prog_14_method_75_code
def yX12_areDays : MethodName := ⟨RX12, "areDays", "(I)Z"⟩
abbrev cX12_evening : ByteArray := prog_14_method_76_code
def yX12_evening : MethodName := ⟨RX12, "evening", "(I)I"⟩
abbrev cX12_fogs : ByteArray := prog_14_method_77_code
def yX12_fogs : MethodName := ⟨RX12, "fogs", "(I)Z"⟩
abbrev cX12_colds : ByteArray := prog_14_method_78_code
def yX12_colds : MethodName := ⟨RX12, "colds", "(I)Z"⟩
abbrev cX12_draw : ByteArray := prog_14_method_79_code
def yX12_draw : MethodName := ⟨RX12, "draw", "(I)I"⟩
abbrev cX12_lowestOf : ByteArray := prog_14_method_80_code
def yX12_lowestOf : MethodName := ⟨RX12, "lowestOf", "(I)I"⟩
abbrev cX12_drawDay : ByteArray := prog_14_method_81_code
def yX12_drawDay : MethodName := ⟨RX12, "drawDay", "()V"⟩
abbrev cX12_centuries : ByteArray := prog_14_method_82_code
def yX12_centuries : MethodName := ⟨RX12, "centuries", "(IJ)I"⟩
abbrev cX12_undo : ByteArray := prog_14_method_83_code
def yX12_undo : MethodName := ⟨RX12, "undo", "()I"⟩
abbrev cX12_log : ByteArray := prog_14_method_84_code
def yX12_log : MethodName := ⟨RX12, "log", "(II)I"⟩
abbrev cX12_alone : ByteArray := prog_14_method_85_code
def yX12_alone : MethodName := ⟨RX12, "alone", "(I)I"⟩
abbrev cX12_isKept : ByteArray := prog_14_method_86_code
def yX12_isKept : MethodName := ⟨RX12, "isKept", "(I)Z"⟩
abbrev cX12_isShouted : ByteArray := prog_14_method_87_code
def yX12_isShouted : MethodName := ⟨RX12, "isShouted", "(I)Z"⟩
abbrev cX12_tryKeep : ByteArray := prog_14_method_88_code
def yX12_tryKeep : MethodName := ⟨RX12, "tryKeep", "(IIIII)V"⟩
abbrev cX12_isSome : ByteArray := prog_14_method_89_code
def yX12_isSome : MethodName := ⟨RX12, "isSome", "(I)Z"⟩
abbrev cX12_keep : ByteArray := prog_14_method_90_code
def yX12_keep : MethodName := ⟨RX12, "keep", "(II)I"⟩
abbrev cX12_isEnough : ByteArray := prog_14_method_91_code
def yX12_isEnough : MethodName := ⟨RX12, "isEnough", "(II)Z"⟩
abbrev cX12_ringFrom : ByteArray := prog_14_method_92_code
def yX12_ringFrom : MethodName := ⟨RX12, "ringFrom", "(IIII)I"⟩
abbrev cX12_ring : ByteArray := prog_14_method_93_code
def yX12_ring : MethodName := ⟨RX12, "ring", "(I)I"⟩
abbrev cX12_price : ByteArray := prog_14_method_94_code
def yX12_price : MethodName := ⟨RX12, "price", "(II)I"⟩
abbrev cX12_fitsIn : ByteArray := prog_14_method_95_code
def yX12_fitsIn : MethodName := ⟨RX12, "fitsIn", "(II)Z"⟩
abbrev cX12_canPack : ByteArray := prog_14_method_96_code
def yX12_canPack : MethodName := ⟨RX12, "canPack", "(II)Z"⟩
abbrev cX12_packed : ByteArray := prog_14_method_97_code
def yX12_packed : MethodName := ⟨RX12, "packed", "()I"⟩
abbrev cX12_weak : ByteArray := prog_14_method_98_code
def yX12_weak : MethodName := ⟨RX12, "weak", "()I"⟩
abbrev cX12_partOf : ByteArray := prog_14_method_99_code
def yX12_partOf : MethodName := ⟨RX12, "partOf", "(II)I"⟩
abbrev cX12_partsOf : ByteArray := prog_14_method_100_code
def yX12_partsOf : MethodName := ⟨RX12, "partsOf", "(I)I"⟩
abbrev cX12_parts : ByteArray := prog_14_method_101_code
def yX12_parts : MethodName := ⟨RX12, "parts", "()I"⟩
abbrev cX12_bridges : ByteArray := prog_14_method_102_code
def yX12_bridges : MethodName := ⟨RX12, "bridges", "()I"⟩
abbrev cX12_bond : ByteArray := prog_14_method_103_code
def yX12_bond : MethodName := ⟨RX12, "bond", "()I"⟩
abbrev cX12_dent : ByteArray := prog_14_method_104_code
def yX12_dent : MethodName := ⟨RX12, "dent", "(IIZ)I"⟩
abbrev cX12_letterAt : ByteArray := prog_14_method_105_code
def yX12_letterAt : MethodName := ⟨RX12, "letterAt", "(II)I"⟩
abbrev cX12_isFound : ByteArray := prog_14_method_106_code
def yX12_isFound : MethodName := ⟨RX12, "isFound", "(I)Z"⟩
abbrev cX12_fits : ByteArray := prog_14_method_107_code
def yX12_fits : MethodName := ⟨RX12, "fits", "(I)I"⟩
abbrev cX12_best : ByteArray := prog_14_method_108_code
def yX12_best : MethodName := ⟨RX12, "best", "()I"⟩
abbrev cX12_rivalOf : ByteArray := prog_14_method_109_code
def yX12_rivalOf : MethodName := ⟨RX12, "rivalOf", "(III)I"⟩
abbrev cX12_isHour : ByteArray := prog_14_method_110_code
def yX12_isHour : MethodName := ⟨RX12, "isHour", "(I)Z"⟩
abbrev cX12_rival : ByteArray := prog_14_method_111_code
def yX12_rival : MethodName := ⟨RX12, "rival", "(III)I"⟩
abbrev cX12_isRest : ByteArray := prog_14_method_112_code
def yX12_isRest : MethodName := ⟨RX12, "isRest", "(III)Z"⟩
abbrev cX12_rests : ByteArray := prog_14_method_113_code
def yX12_rests : MethodName := ⟨RX12, "rests", "(II)I"⟩
abbrev cX12_odds : ByteArray := prog_14_method_114_code
def yX12_odds : MethodName := ⟨RX12, "odds", "(IIII)I"⟩
abbrev cX12_need : ByteArray := prog_14_method_115_code
def yX12_need : MethodName := ⟨RX12, "need", "(I)I"⟩
abbrev cX12_extreme : ByteArray := prog_14_method_116_code
def yX12_extreme : MethodName := ⟨RX12, "extreme", "(IIZ)I"⟩
abbrev cX12_sharpest : ByteArray := prog_14_method_117_code
def yX12_sharpest : MethodName := ⟨RX12, "sharpest", "()I"⟩
abbrev cX12_faintest : ByteArray := prog_14_method_118_code
def yX12_faintest : MethodName := ⟨RX12, "faintest", "()I"⟩
abbrev cX12_richest : ByteArray := prog_14_method_119_code
def yX12_richest : MethodName := ⟨RX12, "richest", "()I"⟩
abbrev cX12_friends : ByteArray := prog_14_method_120_code
def yX12_friends : MethodName := ⟨RX12, "friends", "(I)I"⟩
abbrev cX12_helped : ByteArray := prog_14_method_121_code
def yX12_helped : MethodName := ⟨RX12, "helped", "()I"⟩
abbrev cX12_doomed : ByteArray := prog_14_method_122_code
def yX12_doomed : MethodName := ⟨RX12, "doomed", "()I"⟩
abbrev cX12_image : ByteArray := prog_14_method_123_code
def yX12_image : MethodName := ⟨RX12, "image", "()I"⟩
abbrev cX12_back : ByteArray := prog_14_method_124_code
def yX12_back : MethodName := ⟨RX12, "back", "()I"⟩
abbrev cX12_shoutsToday : ByteArray := prog_14_method_125_code
def yX12_shoutsToday : MethodName := ⟨RX12, "shoutsToday", "()I"⟩
abbrev cX12_count : ByteArray := prog_14_method_126_code
def yX12_count : MethodName := ⟨RX12, "count", "(I)I"⟩
def RJx145de : String := "java/io/Serializable"
def TJx145de : u_T := fun k => match k with
  | _ => ("", "", "", false)
def tyJx145de : Nat → FieldType := fun k => match k with
  | _ => .int
abbrev wsJx145de0 : List Cond := u_ws RJx145de TJx145de 0
theorem nmJx145de : ∀ a, a < 0 → ∀ b, b < 0 → a ≠ b → (TJx145de a).2.1 ≠ (TJx145de b).2.1 := by decide +kernel
theorem tyJx145de_ok : ∀ k, k < 0 → parseFieldDescriptor (TJx145de k).2.2.1 = some (tyJx145de k) := by decide +kernel
def RJx9f9b0 : String := "java/lang/CharSequence"
def TJx9f9b0 : u_T := fun k => match k with
  | _ => ("", "", "", false)
def tyJx9f9b0 : Nat → FieldType := fun k => match k with
  | _ => .int
abbrev wsJx9f9b00 : List Cond := u_ws RJx9f9b0 TJx9f9b0 0
theorem nmJx9f9b0 : ∀ a, a < 0 → ∀ b, b < 0 → a ≠ b → (TJx9f9b0 a).2.1 ≠ (TJx9f9b0 b).2.1 := by decide +kernel
theorem tyJx9f9b0_ok : ∀ k, k < 0 → parseFieldDescriptor (TJx9f9b0 k).2.2.1 = some (tyJx9f9b0 k) := by decide +kernel
def RJ11 : String := "java/lang/Character"
def TJ11 : u_T := fun k => match k with
  | _ => ("", "", "", false)
def tyJ11 : Nat → FieldType := fun k => match k with
  | _ => .int
abbrev wsJ110 : List Cond := u_ws RJ11 TJ11 0
theorem nmJ11 : ∀ a, a < 0 → ∀ b, b < 0 → a ≠ b → (TJ11 a).2.1 ≠ (TJ11 b).2.1 := by decide +kernel
theorem tyJ11_ok : ∀ k, k < 0 → parseFieldDescriptor (TJ11 k).2.2.1 = some (tyJ11 k) := by decide +kernel
abbrev cJ11_isValidCodePoint_9a6ad : ByteArray := prog_17_method_11_code
def yJ11_isValidCodePoint_9a6ad : MethodName := ⟨RJ11, "isValidCodePoint", "(I)Z"⟩
abbrev cJ11_highSurrogate_5068e : ByteArray := prog_17_method_28_code
def yJ11_highSurrogate_5068e : MethodName := ⟨RJ11, "highSurrogate", "(I)C"⟩
abbrev cJ11_lowSurrogate_5068e : ByteArray := prog_17_method_29_code
def yJ11_lowSurrogate_5068e : MethodName := ⟨RJ11, "lowSurrogate", "(I)C"⟩
def RJxb160c : String := "java/lang/Comparable"
def TJxb160c : u_T := fun k => match k with
  | _ => ("", "", "", false)
def tyJxb160c : Nat → FieldType := fun k => match k with
  | _ => .int
abbrev wsJxb160c0 : List Cond := u_ws RJxb160c TJxb160c 0
theorem nmJxb160c : ∀ a, a < 0 → ∀ b, b < 0 → a ≠ b → (TJxb160c a).2.1 ≠ (TJxb160c b).2.1 := by decide +kernel
theorem tyJxb160c_ok : ∀ k, k < 0 → parseFieldDescriptor (TJxb160c k).2.2.1 = some (tyJxb160c k) := by decide +kernel
def RJ6 : String := "java/lang/Integer"
def TJ6 : u_T := fun k => match k with
  | _ => ("", "", "", false)
def tyJ6 : Nat → FieldType := fun k => match k with
  | _ => .int
abbrev wsJ60 : List Cond := u_ws RJ6 TJ6 0
theorem nmJ6 : ∀ a, a < 0 → ∀ b, b < 0 → a ≠ b → (TJ6 a).2.1 ≠ (TJ6 b).2.1 := by decide +kernel
theorem tyJ6_ok : ∀ k, k < 0 → parseFieldDescriptor (TJ6 k).2.2.1 = some (tyJ6 k) := by decide +kernel
abbrev cJ6_numberOfTrailingZeros_0f7a4 : ByteArray := prog_20_method_48_code
def yJ6_numberOfTrailingZeros_0f7a4 : MethodName := ⟨RJ6, "numberOfTrailingZeros", "(I)I"⟩
abbrev cJ6_bitCount_0f7a4 : ByteArray := prog_20_method_49_code
def yJ6_bitCount_0f7a4 : MethodName := ⟨RJ6, "bitCount", "(I)I"⟩
def RJ9 : String := "java/lang/Math"
def TJ9 : u_T := fun k => match k with
  | _ => ("", "", "", false)
def tyJ9 : Nat → FieldType := fun k => match k with
  | _ => .int
abbrev wsJ90 : List Cond := u_ws RJ9 TJ9 0
theorem nmJ9 : ∀ a, a < 0 → ∀ b, b < 0 → a ≠ b → (TJ9 a).2.1 ≠ (TJ9 b).2.1 := by decide +kernel
theorem tyJ9_ok : ∀ k, k < 0 → parseFieldDescriptor (TJ9 k).2.2.1 = some (tyJ9 k) := by decide +kernel
abbrev cJ9_abs_0f7a4 : ByteArray := prog_21_method_59_code
def yJ9_abs_0f7a4 : MethodName := ⟨RJ9, "abs", "(I)I"⟩
abbrev cJ9_max_7cf53 : ByteArray := prog_21_method_65_code
def yJ9_max_7cf53 : MethodName := ⟨RJ9, "max", "(II)I"⟩
abbrev cJ9_max_f86c9 : ByteArray := prog_21_method_66_code
def yJ9_max_f86c9 : MethodName := ⟨RJ9, "max", "(JJ)J"⟩
abbrev cJ9_min_7cf53 : ByteArray := prog_21_method_69_code
def yJ9_min_7cf53 : MethodName := ⟨RJ9, "min", "(II)I"⟩
abbrev cJ9_min_f86c9 : ByteArray := prog_21_method_70_code
def yJ9_min_f86c9 : MethodName := ⟨RJ9, "min", "(JJ)J"⟩
def RJ0 : String := "java/lang/String"
def TJ0 : u_T := fun k => match k with
  | _ => ("", "", "", false)
def tyJ0 : Nat → FieldType := fun k => match k with
  | _ => .int
abbrev wsJ00 : List Cond := u_ws RJ0 TJ0 0
theorem nmJ0 : ∀ a, a < 0 → ∀ b, b < 0 → a ≠ b → (TJ0 a).2.1 ≠ (TJ0 b).2.1 := by decide +kernel
theorem tyJ0_ok : ∀ k, k < 0 → parseFieldDescriptor (TJ0 k).2.2.1 = some (tyJ0 k) := by decide +kernel
abbrev cJ0_length_8abf5 : ByteArray := prog_23_method_54_code
def yJ0_length_8abf5 : MethodName := ⟨RJ0, "length", "()I"⟩
abbrev cJ0_indexOf_0f7a4 : ByteArray := prog_23_method_79_code
def yJ0_indexOf_0f7a4 : MethodName := ⟨RJ0, "indexOf", "(I)I"⟩
abbrev cJ0_indexOf_7cf53 : ByteArray := prog_23_method_80_code
def yJ0_indexOf_7cf53 : MethodName := ⟨RJ0, "indexOf", "(II)I"⟩
abbrev cJ0_coder_7d493 : ByteArray := prog_23_method_152_code
def yJ0_coder_7d493 : MethodName := ⟨RJ0, "coder", "()B"⟩
abbrev cJ0_isLatin1_aae02 : ByteArray := prog_23_method_154_code
def yJ0_isLatin1_aae02 : MethodName := ⟨RJ0, "isLatin1", "()Z"⟩
abbrev cJ0_checkBoundsBeginEnd_23922 : ByteArray := prog_23_method_158_code
def yJ0_checkBoundsBeginEnd_23922 : MethodName := ⟨RJ0, "checkBoundsBeginEnd", "(III)V"⟩
def RJ1 : String := "java/lang/StringLatin1"
def TJ1 : u_T := fun k => match k with
  | _ => ("", "", "", false)
def tyJ1 : Nat → FieldType := fun k => match k with
  | _ => .int
abbrev wsJ10 : List Cond := u_ws RJ1 TJ1 0
theorem nmJ1 : ∀ a, a < 0 → ∀ b, b < 0 → a ≠ b → (TJ1 a).2.1 ≠ (TJ1 b).2.1 := by decide +kernel
theorem tyJ1_ok : ∀ k, k < 0 → parseFieldDescriptor (TJ1 k).2.2.1 = some (tyJ1 k) := by decide +kernel
abbrev cJ1_canEncode_9a6ad : ByteArray := prog_24_method_4_code
def yJ1_canEncode_9a6ad : MethodName := ⟨RJ1, "canEncode", "(I)Z"⟩
abbrev cJ1_indexOf_4cfef : ByteArray := prog_24_method_22_code
def yJ1_indexOf_4cfef : MethodName := ⟨RJ1, "indexOf", "([BIII)I"⟩
abbrev cJ1_indexOfChar_4cfef : ByteArray := prog_24_method_23_code
def yJ1_indexOfChar_4cfef : MethodName := ⟨RJ1, "indexOfChar", "([BIII)I"⟩
def RJ2 : String := "java/lang/StringUTF16"
def TJ2 : u_T := fun k => match k with
  | _ => ("", "", "", false)
def tyJ2 : Nat → FieldType := fun k => match k with
  | _ => .int
abbrev wsJ20 : List Cond := u_ws RJ2 TJ2 0
theorem nmJ2 : ∀ a, a < 0 → ∀ b, b < 0 → a ≠ b → (TJ2 a).2.1 ≠ (TJ2 b).2.1 := by decide +kernel
theorem tyJ2_ok : ∀ k, k < 0 → parseFieldDescriptor (TJ2 k).2.2.1 = some (tyJ2 k) := by decide +kernel
abbrev cJ2_getChar_3b067 : ByteArray := prog_25_method_5_code
def yJ2_getChar_3b067 : MethodName := ⟨RJ2, "getChar", "([BI)C"⟩
abbrev cJ2_length_9d52b : ByteArray := prog_25_method_6_code
def yJ2_length_9d52b : MethodName := ⟨RJ2, "length", "([B)I"⟩
abbrev cJ2_indexOf_4cfef : ByteArray := prog_25_method_40_code
def yJ2_indexOf_4cfef : MethodName := ⟨RJ2, "indexOf", "([BIII)I"⟩
abbrev cJ2_indexOfChar_4cfef : ByteArray := prog_25_method_47_code
def yJ2_indexOfChar_4cfef : MethodName := ⟨RJ2, "indexOfChar", "([BIII)I"⟩
abbrev cJ2_indexOfCharUnsafe_4cfef : ByteArray := prog_25_method_48_code
def yJ2_indexOfCharUnsafe_4cfef : MethodName := ⟨RJ2, "indexOfCharUnsafe", "([BIII)I"⟩
abbrev cJ2_indexOfSupplementary_4cfef : ByteArray := prog_25_method_49_code
def yJ2_indexOfSupplementary_4cfef : MethodName := ⟨RJ2, "indexOfSupplementary", "([BIII)I"⟩
abbrev cJ2_checkBoundsBeginEnd_d044e : ByteArray := prog_25_method_93_code
def yJ2_checkBoundsBeginEnd_d044e : MethodName := ⟨RJ2, "checkBoundsBeginEnd", "(II[B)V"⟩
def RJxfd54e : String := "java/lang/constant/Constable"
def TJxfd54e : u_T := fun k => match k with
  | _ => ("", "", "", false)
def tyJxfd54e : Nat → FieldType := fun k => match k with
  | _ => .int
abbrev wsJxfd54e0 : List Cond := u_ws RJxfd54e TJxfd54e 0
theorem nmJxfd54e : ∀ a, a < 0 → ∀ b, b < 0 → a ≠ b → (TJxfd54e a).2.1 ≠ (TJxfd54e b).2.1 := by decide +kernel
theorem tyJxfd54e_ok : ∀ k, k < 0 → parseFieldDescriptor (TJxfd54e k).2.2.1 = some (tyJxfd54e k) := by decide +kernel
def RJx3cf43 : String := "java/lang/constant/ConstantDesc"
def TJx3cf43 : u_T := fun k => match k with
  | _ => ("", "", "", false)
def tyJx3cf43 : Nat → FieldType := fun k => match k with
  | _ => .int
abbrev wsJx3cf430 : List Cond := u_ws RJx3cf43 TJx3cf43 0
theorem nmJx3cf43 : ∀ a, a < 0 → ∀ b, b < 0 → a ≠ b → (TJx3cf43 a).2.1 ≠ (TJx3cf43 b).2.1 := by decide +kernel
theorem tyJx3cf43_ok : ∀ k, k < 0 → parseFieldDescriptor (TJx3cf43 k).2.2.1 = some (tyJx3cf43 k) := by decide +kernel
def RJ3 : String := "jdk/internal/util/Preconditions"
def TJ3 : u_T := fun k => match k with
  | _ => ("", "", "", false)
def tyJ3 : Nat → FieldType := fun k => match k with
  | _ => .int
abbrev wsJ30 : List Cond := u_ws RJ3 TJ3 0
theorem nmJ3 : ∀ a, a < 0 → ∀ b, b < 0 → a ≠ b → (TJ3 a).2.1 ≠ (TJ3 b).2.1 := by decide +kernel
theorem tyJ3_ok : ∀ k, k < 0 → parseFieldDescriptor (TJ3 k).2.2.1 = some (tyJ3 k) := by decide +kernel
abbrev cJ3_checkFromToIndex_8c36e : ByteArray := prog_30_method_12_code
def yJ3_checkFromToIndex_8c36e : MethodName := ⟨RJ3, "checkFromToIndex", "(IIILjava/util/function/BiFunction;)I"⟩
def RL : String := "NameWallLaw"
abbrev cL_name : ByteArray := method_3_code
def yL_name : MethodName := ⟨RL, "name", "(LNameWall;II[J)I"⟩
abbrev cL_law : ByteArray := code
def yL_law : MethodName := ⟨RL, "law", "([I)Z"⟩
abbrev vwCl : List vw_C := [(RX0, TX0, 8), (RX1, TX1, 0), (RX2, TX2, 8), (RX3, TX3, 4), (RX4, TX4, 2), (RX5, TX5, 7), (RX6, TX6, 2), (RX7, TX7, 7), (RX8, TX8, 14), (RX9, TX9, 3), (RX10, TX10, 4), (RX11, TX11, 12), (RX12, TX12, 47)]
