section
-- ===== PART A: goes FIRST, ahead of the names: the tables' words, and 'selects' of the private methods out of them =====
/-- a private method of a class that the tables say can be made, by its rows of tables_1 -/
def lw_okq (q : MethodName × Nat) : Prop := (q.1.cls ≠ "java/lang/invoke/MethodHandle" ∧ q.1.cls ≠ "java/lang/invoke/VarHandle") ∧ Cond.instantiable q.1.cls q.2 ∈ tables_1 ∧ Cond.privateMethod q.1 ∈ tables_1 ∧ Cond.instanceMethod q.1 ∈ tables_1
theorem lw_p0 : lw_okq (⟨"LastCar$Tape", "next", "()V"⟩, 6) := ⟨⟨by decide +kernel, by decide +kernel⟩, List.mem_of_getElem? (i := 120) (by decide +kernel), List.mem_of_getElem? (i := 283) (by decide +kernel), List.mem_of_getElem? (i := 284) (by decide +kernel)⟩
theorem lw_p1 : lw_okq (⟨"LastCar$Tape", "wordToken", "()I"⟩, 6) := ⟨⟨by decide +kernel, by decide +kernel⟩, List.mem_of_getElem? (i := 120) (by decide +kernel), List.mem_of_getElem? (i := 293) (by decide +kernel), List.mem_of_getElem? (i := 294) (by decide +kernel)⟩
theorem lw_p2 : lw_okq (⟨"LastCar$Tape", "spells", "(Ljava/lang/String;)Z"⟩, 6) := ⟨⟨by decide +kernel, by decide +kernel⟩, List.mem_of_getElem? (i := 120) (by decide +kernel), List.mem_of_getElem? (i := 298) (by decide +kernel), List.mem_of_getElem? (i := 299) (by decide +kernel)⟩
theorem lw_p3 : lw_okq (⟨"LastCar$Tape", "numberToken", "()I"⟩, 6) := ⟨⟨by decide +kernel, by decide +kernel⟩, List.mem_of_getElem? (i := 120) (by decide +kernel), List.mem_of_getElem? (i := 318) (by decide +kernel), List.mem_of_getElem? (i := 319) (by decide +kernel)⟩
theorem lw_p4 : lw_okq (⟨"LastCar$Tape", "expect", "(I)V"⟩, 6) := ⟨⟨by decide +kernel, by decide +kernel⟩, List.mem_of_getElem? (i := 120) (by decide +kernel), List.mem_of_getElem? (i := 325) (by decide +kernel), List.mem_of_getElem? (i := 326) (by decide +kernel)⟩
theorem lw_p5 : lw_okq (⟨"LastCar$Tape", "refuse", "()V"⟩, 6) := ⟨⟨by decide +kernel, by decide +kernel⟩, List.mem_of_getElem? (i := 120) (by decide +kernel), List.mem_of_getElem? (i := 329) (by decide +kernel), List.mem_of_getElem? (i := 330) (by decide +kernel)⟩
theorem lw_p6 : lw_okq (⟨"LastCar$Tape", "readOr", "(LLastCar$Text;I)V"⟩, 6) := ⟨⟨by decide +kernel, by decide +kernel⟩, List.mem_of_getElem? (i := 120) (by decide +kernel), List.mem_of_getElem? (i := 337) (by decide +kernel), List.mem_of_getElem? (i := 338) (by decide +kernel)⟩
theorem lw_p7 : lw_okq (⟨"LastCar$Tape", "readAnd", "(LLastCar$Text;I)V"⟩, 6) := ⟨⟨by decide +kernel, by decide +kernel⟩, List.mem_of_getElem? (i := 120) (by decide +kernel), List.mem_of_getElem? (i := 341) (by decide +kernel), List.mem_of_getElem? (i := 342) (by decide +kernel)⟩
theorem lw_p8 : lw_okq (⟨"LastCar$Tape", "readNot", "(LLastCar$Text;I)V"⟩, 6) := ⟨⟨by decide +kernel, by decide +kernel⟩, List.mem_of_getElem? (i := 120) (by decide +kernel), List.mem_of_getElem? (i := 345) (by decide +kernel), List.mem_of_getElem? (i := 346) (by decide +kernel)⟩
theorem lw_p9 : lw_okq (⟨"LastCar$Tape", "mayOpen", "(I)Z"⟩, 6) := ⟨⟨by decide +kernel, by decide +kernel⟩, List.mem_of_getElem? (i := 120) (by decide +kernel), List.mem_of_getElem? (i := 349) (by decide +kernel), List.mem_of_getElem? (i := 350) (by decide +kernel)⟩
theorem lw_p10 : lw_okq (⟨"LastCar$Tape", "readSum", "(LLastCar$Text;I)V"⟩, 6) := ⟨⟨by decide +kernel, by decide +kernel⟩, List.mem_of_getElem? (i := 120) (by decide +kernel), List.mem_of_getElem? (i := 357) (by decide +kernel), List.mem_of_getElem? (i := 358) (by decide +kernel)⟩
theorem lw_p11 : lw_okq (⟨"LastCar$Tape", "readTerm", "(LLastCar$Text;I)V"⟩, 6) := ⟨⟨by decide +kernel, by decide +kernel⟩, List.mem_of_getElem? (i := 120) (by decide +kernel), List.mem_of_getElem? (i := 361) (by decide +kernel), List.mem_of_getElem? (i := 362) (by decide +kernel)⟩
theorem lw_p12 : lw_okq (⟨"LastCar$Tape", "readOne", "(LLastCar$Text;I)V"⟩, 6) := ⟨⟨by decide +kernel, by decide +kernel⟩, List.mem_of_getElem? (i := 120) (by decide +kernel), List.mem_of_getElem? (i := 365) (by decide +kernel), List.mem_of_getElem? (i := 366) (by decide +kernel)⟩
theorem lw_p13 : lw_okq (⟨"LastCar", "wayAt", "(I)LLastCar$Way;"⟩, 12) := ⟨⟨by decide +kernel, by decide +kernel⟩, List.mem_of_getElem? (i := 18) (by decide +kernel), List.mem_of_getElem? (i := 482) (by decide +kernel), List.mem_of_getElem? (i := 483) (by decide +kernel)⟩
theorem lw_p14 : lw_okq (⟨"LastCar", "isSortOrAll", "(I)Z"⟩, 12) := ⟨⟨by decide +kernel, by decide +kernel⟩, List.mem_of_getElem? (i := 18) (by decide +kernel), List.mem_of_getElem? (i := 514) (by decide +kernel), List.mem_of_getElem? (i := 515) (by decide +kernel)⟩
theorem lw_p15 : lw_okq (⟨"LastCar", "runDay", "(LLastCar$Way;)V"⟩, 12) := ⟨⟨by decide +kernel, by decide +kernel⟩, List.mem_of_getElem? (i := 18) (by decide +kernel), List.mem_of_getElem? (i := 518) (by decide +kernel), List.mem_of_getElem? (i := 519) (by decide +kernel)⟩
def lw_privs_1 : List (MethodName × Nat) := [(⟨"LastCar$Tape", "next", "()V"⟩, 6), (⟨"LastCar$Tape", "wordToken", "()I"⟩, 6), (⟨"LastCar$Tape", "spells", "(Ljava/lang/String;)Z"⟩, 6), (⟨"LastCar$Tape", "numberToken", "()I"⟩, 6), (⟨"LastCar$Tape", "expect", "(I)V"⟩, 6), (⟨"LastCar$Tape", "refuse", "()V"⟩, 6), (⟨"LastCar$Tape", "readOr", "(LLastCar$Text;I)V"⟩, 6), (⟨"LastCar$Tape", "readAnd", "(LLastCar$Text;I)V"⟩, 6), (⟨"LastCar$Tape", "readNot", "(LLastCar$Text;I)V"⟩, 6), (⟨"LastCar$Tape", "mayOpen", "(I)Z"⟩, 6), (⟨"LastCar$Tape", "readSum", "(LLastCar$Text;I)V"⟩, 6), (⟨"LastCar$Tape", "readTerm", "(LLastCar$Text;I)V"⟩, 6), (⟨"LastCar$Tape", "readOne", "(LLastCar$Text;I)V"⟩, 6), (⟨"LastCar", "wayAt", "(I)LLastCar$Way;"⟩, 12), (⟨"LastCar", "isSortOrAll", "(I)Z"⟩, 12), (⟨"LastCar", "runDay", "(LLastCar$Way;)V"⟩, 12)]
theorem lw_r1 : ∀ q ∈ lw_privs_1, lw_okq q := List.forall_mem_cons.mpr ⟨lw_p0, List.forall_mem_cons.mpr ⟨lw_p1, List.forall_mem_cons.mpr ⟨lw_p2, List.forall_mem_cons.mpr ⟨lw_p3, List.forall_mem_cons.mpr ⟨lw_p4, List.forall_mem_cons.mpr ⟨lw_p5, List.forall_mem_cons.mpr ⟨lw_p6, List.forall_mem_cons.mpr ⟨lw_p7, List.forall_mem_cons.mpr ⟨lw_p8, List.forall_mem_cons.mpr ⟨lw_p9, List.forall_mem_cons.mpr ⟨lw_p10, List.forall_mem_cons.mpr ⟨lw_p11, List.forall_mem_cons.mpr ⟨lw_p12, List.forall_mem_cons.mpr ⟨lw_p13, List.forall_mem_cons.mpr ⟨lw_p14, List.forall_mem_cons.mpr ⟨lw_p15, fun _ h => absurd h List.not_mem_nil⟩⟩⟩⟩⟩⟩⟩⟩⟩⟩⟩⟩⟩⟩⟩⟩
theorem lw_p16 : lw_okq (⟨"LastCar$Day", "begin", "(LLastCar$Hill;)V"⟩, 13) := ⟨⟨by decide +kernel, by decide +kernel⟩, List.mem_of_getElem? (i := 150) (by decide +kernel), List.mem_of_getElem? (i := 536) (by decide +kernel), List.mem_of_getElem? (i := 537) (by decide +kernel)⟩
theorem lw_p17 : lw_okq (⟨"LastCar$Day", "sendPeople", "(LLastCar$Hill;LLastCar$Text;I)V"⟩, 13) := ⟨⟨by decide +kernel, by decide +kernel⟩, List.mem_of_getElem? (i := 150) (by decide +kernel), List.mem_of_getElem? (i := 541) (by decide +kernel), List.mem_of_getElem? (i := 542) (by decide +kernel)⟩
theorem lw_p18 : lw_okq (⟨"LastCar$Day", "goingOf", "(LLastCar$Hill;LLastCar$Text;III)I"⟩, 13) := ⟨⟨by decide +kernel, by decide +kernel⟩, List.mem_of_getElem? (i := 150) (by decide +kernel), List.mem_of_getElem? (i := 545) (by decide +kernel), List.mem_of_getElem? (i := 546) (by decide +kernel)⟩
theorem lw_p19 : lw_okq (⟨"LastCar$Day", "setNames", "(LLastCar$Hill;III)V"⟩, 13) := ⟨⟨by decide +kernel, by decide +kernel⟩, List.mem_of_getElem? (i := 150) (by decide +kernel), List.mem_of_getElem? (i := 549) (by decide +kernel), List.mem_of_getElem? (i := 550) (by decide +kernel)⟩
theorem lw_p20 : lw_okq (⟨"LastCar$Day", "sendCars", "(LLastCar$Hill;LLastCar$Cars;ILLastCar$Text;I)V"⟩, 13) := ⟨⟨by decide +kernel, by decide +kernel⟩, List.mem_of_getElem? (i := 150) (by decide +kernel), List.mem_of_getElem? (i := 575) (by decide +kernel), List.mem_of_getElem? (i := 576) (by decide +kernel)⟩
theorem lw_p21 : lw_okq (⟨"LastCar$Day", "board", "(IIII)V"⟩, 13) := ⟨⟨by decide +kernel, by decide +kernel⟩, List.mem_of_getElem? (i := 150) (by decide +kernel), List.mem_of_getElem? (i := 584) (by decide +kernel), List.mem_of_getElem? (i := 585) (by decide +kernel)⟩
theorem lw_p22 : lw_okq (⟨"LastCar$Day", "firstOnes", "(II)I"⟩, 13) := ⟨⟨by decide +kernel, by decide +kernel⟩, List.mem_of_getElem? (i := 150) (by decide +kernel), List.mem_of_getElem? (i := 588) (by decide +kernel), List.mem_of_getElem? (i := 589) (by decide +kernel)⟩
theorem lw_p23 : lw_okq (⟨"LastCar$Day", "isAhead", "(II)Z"⟩, 13) := ⟨⟨by decide +kernel, by decide +kernel⟩, List.mem_of_getElem? (i := 150) (by decide +kernel), List.mem_of_getElem? (i := 592) (by decide +kernel), List.mem_of_getElem? (i := 593) (by decide +kernel)⟩
theorem lw_p24 : lw_okq (⟨"LastCar$Day", "endMinute", "(LLastCar$Hill;I)V"⟩, 13) := ⟨⟨by decide +kernel, by decide +kernel⟩, List.mem_of_getElem? (i := 150) (by decide +kernel), List.mem_of_getElem? (i := 596) (by decide +kernel), List.mem_of_getElem? (i := 597) (by decide +kernel)⟩
theorem lw_p25 : lw_okq (⟨"LastCar", "leftBy", "(LLastCar$Way;II)I"⟩, 12) := ⟨⟨by decide +kernel, by decide +kernel⟩, List.mem_of_getElem? (i := 18) (by decide +kernel), List.mem_of_getElem? (i := 647) (by decide +kernel), List.mem_of_getElem? (i := 648) (by decide +kernel)⟩
theorem lw_p26 : lw_okq (⟨"LastCarModel", "isSort", "(I)Z"⟩, 61) := ⟨⟨by decide +kernel, by decide +kernel⟩, List.mem_of_getElem? (i := 756) (by decide +kernel), List.mem_of_getElem? (i := 967) (by decide +kernel), List.mem_of_getElem? (i := 968) (by decide +kernel)⟩
theorem lw_p27 : lw_okq (⟨"LastCarModel", "isWay", "(I)Z"⟩, 61) := ⟨⟨by decide +kernel, by decide +kernel⟩, List.mem_of_getElem? (i := 756) (by decide +kernel), List.mem_of_getElem? (i := 979) (by decide +kernel), List.mem_of_getElem? (i := 980) (by decide +kernel)⟩
theorem lw_p28 : lw_okq (⟨"LastCarModel", "calls", "(II)I"⟩, 61) := ⟨⟨by decide +kernel, by decide +kernel⟩, List.mem_of_getElem? (i := 756) (by decide +kernel), List.mem_of_getElem? (i := 983) (by decide +kernel), List.mem_of_getElem? (i := 984) (by decide +kernel)⟩
theorem lw_p29 : lw_okq (⟨"LastCarModel", "asks", "(II)I"⟩, 61) := ⟨⟨by decide +kernel, by decide +kernel⟩, List.mem_of_getElem? (i := 756) (by decide +kernel), List.mem_of_getElem? (i := 987) (by decide +kernel), List.mem_of_getElem? (i := 988) (by decide +kernel)⟩
theorem lw_p30 : lw_okq (⟨"LastCarModel", "next", "()V"⟩, 61) := ⟨⟨by decide +kernel, by decide +kernel⟩, List.mem_of_getElem? (i := 756) (by decide +kernel), List.mem_of_getElem? (i := 999) (by decide +kernel), List.mem_of_getElem? (i := 1000) (by decide +kernel)⟩
theorem lw_p31 : lw_okq (⟨"LastCarModel", "wordNow", "()I"⟩, 61) := ⟨⟨by decide +kernel, by decide +kernel⟩, List.mem_of_getElem? (i := 756) (by decide +kernel), List.mem_of_getElem? (i := 1006) (by decide +kernel), List.mem_of_getElem? (i := 1007) (by decide +kernel)⟩
def lw_privs_2 : List (MethodName × Nat) := [(⟨"LastCar$Day", "begin", "(LLastCar$Hill;)V"⟩, 13), (⟨"LastCar$Day", "sendPeople", "(LLastCar$Hill;LLastCar$Text;I)V"⟩, 13), (⟨"LastCar$Day", "goingOf", "(LLastCar$Hill;LLastCar$Text;III)I"⟩, 13), (⟨"LastCar$Day", "setNames", "(LLastCar$Hill;III)V"⟩, 13), (⟨"LastCar$Day", "sendCars", "(LLastCar$Hill;LLastCar$Cars;ILLastCar$Text;I)V"⟩, 13), (⟨"LastCar$Day", "board", "(IIII)V"⟩, 13), (⟨"LastCar$Day", "firstOnes", "(II)I"⟩, 13), (⟨"LastCar$Day", "isAhead", "(II)Z"⟩, 13), (⟨"LastCar$Day", "endMinute", "(LLastCar$Hill;I)V"⟩, 13), (⟨"LastCar", "leftBy", "(LLastCar$Way;II)I"⟩, 12), (⟨"LastCarModel", "isSort", "(I)Z"⟩, 61), (⟨"LastCarModel", "isWay", "(I)Z"⟩, 61), (⟨"LastCarModel", "calls", "(II)I"⟩, 61), (⟨"LastCarModel", "asks", "(II)I"⟩, 61), (⟨"LastCarModel", "next", "()V"⟩, 61), (⟨"LastCarModel", "wordNow", "()I"⟩, 61)]
theorem lw_r2 : ∀ q ∈ lw_privs_2, lw_okq q := List.forall_mem_cons.mpr ⟨lw_p16, List.forall_mem_cons.mpr ⟨lw_p17, List.forall_mem_cons.mpr ⟨lw_p18, List.forall_mem_cons.mpr ⟨lw_p19, List.forall_mem_cons.mpr ⟨lw_p20, List.forall_mem_cons.mpr ⟨lw_p21, List.forall_mem_cons.mpr ⟨lw_p22, List.forall_mem_cons.mpr ⟨lw_p23, List.forall_mem_cons.mpr ⟨lw_p24, List.forall_mem_cons.mpr ⟨lw_p25, List.forall_mem_cons.mpr ⟨lw_p26, List.forall_mem_cons.mpr ⟨lw_p27, List.forall_mem_cons.mpr ⟨lw_p28, List.forall_mem_cons.mpr ⟨lw_p29, List.forall_mem_cons.mpr ⟨lw_p30, List.forall_mem_cons.mpr ⟨lw_p31, fun _ h => absurd h List.not_mem_nil⟩⟩⟩⟩⟩⟩⟩⟩⟩⟩⟩⟩⟩⟩⟩⟩
theorem lw_p32 : lw_okq (⟨"LastCarModel", "rule", "(I)V"⟩, 61) := ⟨⟨by decide +kernel, by decide +kernel⟩, List.mem_of_getElem? (i := 756) (by decide +kernel), List.mem_of_getElem? (i := 1013) (by decide +kernel), List.mem_of_getElem? (i := 1014) (by decide +kernel)⟩
theorem lw_p33 : lw_okq (⟨"LastCarModel", "isKey", "(I)Z"⟩, 61) := ⟨⟨by decide +kernel, by decide +kernel⟩, List.mem_of_getElem? (i := 756) (by decide +kernel), List.mem_of_getElem? (i := 1017) (by decide +kernel), List.mem_of_getElem? (i := 1018) (by decide +kernel)⟩
theorem lw_p34 : lw_okq (⟨"LastCarModel", "faulty", "()V"⟩, 61) := ⟨⟨by decide +kernel, by decide +kernel⟩, List.mem_of_getElem? (i := 756) (by decide +kernel), List.mem_of_getElem? (i := 1021) (by decide +kernel), List.mem_of_getElem? (i := 1022) (by decide +kernel)⟩
theorem lw_p35 : lw_okq (⟨"LastCarModel", "either", "()V"⟩, 61) := ⟨⟨by decide +kernel, by decide +kernel⟩, List.mem_of_getElem? (i := 756) (by decide +kernel), List.mem_of_getElem? (i := 1025) (by decide +kernel), List.mem_of_getElem? (i := 1026) (by decide +kernel)⟩
theorem lw_p36 : lw_okq (⟨"LastCarModel", "all", "()V"⟩, 61) := ⟨⟨by decide +kernel, by decide +kernel⟩, List.mem_of_getElem? (i := 756) (by decide +kernel), List.mem_of_getElem? (i := 1029) (by decide +kernel), List.mem_of_getElem? (i := 1030) (by decide +kernel)⟩
theorem lw_p37 : lw_okq (⟨"LastCarModel", "denied", "()V"⟩, 61) := ⟨⟨by decide +kernel, by decide +kernel⟩, List.mem_of_getElem? (i := 756) (by decide +kernel), List.mem_of_getElem? (i := 1033) (by decide +kernel), List.mem_of_getElem? (i := 1034) (by decide +kernel)⟩
theorem lw_p38 : lw_okq (⟨"LastCarModel", "opens", "()Z"⟩, 61) := ⟨⟨by decide +kernel, by decide +kernel⟩, List.mem_of_getElem? (i := 756) (by decide +kernel), List.mem_of_getElem? (i := 1037) (by decide +kernel), List.mem_of_getElem? (i := 1038) (by decide +kernel)⟩
theorem lw_p39 : lw_okq (⟨"LastCarModel", "addStep", "(II)V"⟩, 61) := ⟨⟨by decide +kernel, by decide +kernel⟩, List.mem_of_getElem? (i := 756) (by decide +kernel), List.mem_of_getElem? (i := 1041) (by decide +kernel), List.mem_of_getElem? (i := 1042) (by decide +kernel)⟩
theorem lw_p40 : lw_okq (⟨"LastCarModel", "sum", "()V"⟩, 61) := ⟨⟨by decide +kernel, by decide +kernel⟩, List.mem_of_getElem? (i := 756) (by decide +kernel), List.mem_of_getElem? (i := 1045) (by decide +kernel), List.mem_of_getElem? (i := 1046) (by decide +kernel)⟩
theorem lw_p41 : lw_okq (⟨"LastCarModel", "term", "()V"⟩, 61) := ⟨⟨by decide +kernel, by decide +kernel⟩, List.mem_of_getElem? (i := 756) (by decide +kernel), List.mem_of_getElem? (i := 1049) (by decide +kernel), List.mem_of_getElem? (i := 1050) (by decide +kernel)⟩
theorem lw_p42 : lw_okq (⟨"LastCarModel", "one", "()V"⟩, 61) := ⟨⟨by decide +kernel, by decide +kernel⟩, List.mem_of_getElem? (i := 756) (by decide +kernel), List.mem_of_getElem? (i := 1053) (by decide +kernel), List.mem_of_getElem? (i := 1054) (by decide +kernel)⟩
theorem lw_p43 : lw_okq (⟨"LastCarModel", "isSign", "(I)Z"⟩, 61) := ⟨⟨by decide +kernel, by decide +kernel⟩, List.mem_of_getElem? (i := 756) (by decide +kernel), List.mem_of_getElem? (i := 1057) (by decide +kernel), List.mem_of_getElem? (i := 1058) (by decide +kernel)⟩
theorem lw_p44 : lw_okq (⟨"LastCarModel", "day", "(II)V"⟩, 61) := ⟨⟨by decide +kernel, by decide +kernel⟩, List.mem_of_getElem? (i := 756) (by decide +kernel), List.mem_of_getElem? (i := 1069) (by decide +kernel), List.mem_of_getElem? (i := 1070) (by decide +kernel)⟩
theorem lw_p45 : lw_okq (⟨"LastCarModel", "goMinute", "(II)V"⟩, 61) := ⟨⟨by decide +kernel, by decide +kernel⟩, List.mem_of_getElem? (i := 756) (by decide +kernel), List.mem_of_getElem? (i := 1073) (by decide +kernel), List.mem_of_getElem? (i := 1074) (by decide +kernel)⟩
theorem lw_p46 : lw_okq (⟨"LastCarModel", "waitingNow", "()I"⟩, 61) := ⟨⟨by decide +kernel, by decide +kernel⟩, List.mem_of_getElem? (i := 756) (by decide +kernel), List.mem_of_getElem? (i := 1077) (by decide +kernel), List.mem_of_getElem? (i := 1078) (by decide +kernel)⟩
theorem lw_p47 : lw_okq (⟨"LastCarModel", "findFacts", "(IIIII)V"⟩, 61) := ⟨⟨by decide +kernel, by decide +kernel⟩, List.mem_of_getElem? (i := 756) (by decide +kernel), List.mem_of_getElem? (i := 1081) (by decide +kernel), List.mem_of_getElem? (i := 1082) (by decide +kernel)⟩
def lw_privs_3 : List (MethodName × Nat) := [(⟨"LastCarModel", "rule", "(I)V"⟩, 61), (⟨"LastCarModel", "isKey", "(I)Z"⟩, 61), (⟨"LastCarModel", "faulty", "()V"⟩, 61), (⟨"LastCarModel", "either", "()V"⟩, 61), (⟨"LastCarModel", "all", "()V"⟩, 61), (⟨"LastCarModel", "denied", "()V"⟩, 61), (⟨"LastCarModel", "opens", "()Z"⟩, 61), (⟨"LastCarModel", "addStep", "(II)V"⟩, 61), (⟨"LastCarModel", "sum", "()V"⟩, 61), (⟨"LastCarModel", "term", "()V"⟩, 61), (⟨"LastCarModel", "one", "()V"⟩, 61), (⟨"LastCarModel", "isSign", "(I)Z"⟩, 61), (⟨"LastCarModel", "day", "(II)V"⟩, 61), (⟨"LastCarModel", "goMinute", "(II)V"⟩, 61), (⟨"LastCarModel", "waitingNow", "()I"⟩, 61), (⟨"LastCarModel", "findFacts", "(IIIII)V"⟩, 61)]
theorem lw_r3 : ∀ q ∈ lw_privs_3, lw_okq q := List.forall_mem_cons.mpr ⟨lw_p32, List.forall_mem_cons.mpr ⟨lw_p33, List.forall_mem_cons.mpr ⟨lw_p34, List.forall_mem_cons.mpr ⟨lw_p35, List.forall_mem_cons.mpr ⟨lw_p36, List.forall_mem_cons.mpr ⟨lw_p37, List.forall_mem_cons.mpr ⟨lw_p38, List.forall_mem_cons.mpr ⟨lw_p39, List.forall_mem_cons.mpr ⟨lw_p40, List.forall_mem_cons.mpr ⟨lw_p41, List.forall_mem_cons.mpr ⟨lw_p42, List.forall_mem_cons.mpr ⟨lw_p43, List.forall_mem_cons.mpr ⟨lw_p44, List.forall_mem_cons.mpr ⟨lw_p45, List.forall_mem_cons.mpr ⟨lw_p46, List.forall_mem_cons.mpr ⟨lw_p47, fun _ h => absurd h List.not_mem_nil⟩⟩⟩⟩⟩⟩⟩⟩⟩⟩⟩⟩⟩⟩⟩⟩
theorem lw_p48 : lw_okq (⟨"LastCarModel", "gives", "(I)I"⟩, 61) := ⟨⟨by decide +kernel, by decide +kernel⟩, List.mem_of_getElem? (i := 756) (by decide +kernel), List.mem_of_getElem? (i := 1085) (by decide +kernel), List.mem_of_getElem? (i := 1086) (by decide +kernel)⟩
theorem lw_p49 : lw_okq (⟨"LastCarModel", "goes", "(II)Z"⟩, 61) := ⟨⟨by decide +kernel, by decide +kernel⟩, List.mem_of_getElem? (i := 756) (by decide +kernel), List.mem_of_getElem? (i := 1095) (by decide +kernel), List.mem_of_getElem? (i := 1096) (by decide +kernel)⟩
theorem lw_p50 : lw_okq (⟨"LastCarModel", "isShut", "(I)Z"⟩, 61) := ⟨⟨by decide +kernel, by decide +kernel⟩, List.mem_of_getElem? (i := 756) (by decide +kernel), List.mem_of_getElem? (i := 1099) (by decide +kernel), List.mem_of_getElem? (i := 1100) (by decide +kernel)⟩
theorem lw_p51 : lw_okq (⟨"LastCarModel", "orderOf", "(I)I"⟩, 61) := ⟨⟨by decide +kernel, by decide +kernel⟩, List.mem_of_getElem? (i := 756) (by decide +kernel), List.mem_of_getElem? (i := 1103) (by decide +kernel), List.mem_of_getElem? (i := 1104) (by decide +kernel)⟩
theorem lw_p52 : lw_okq (⟨"LastCarModel", "load", "(IIII)V"⟩, 61) := ⟨⟨by decide +kernel, by decide +kernel⟩, List.mem_of_getElem? (i := 756) (by decide +kernel), List.mem_of_getElem? (i := 1107) (by decide +kernel), List.mem_of_getElem? (i := 1108) (by decide +kernel)⟩
theorem lw_p53 : lw_okq (⟨"LastCarModel", "isAhead", "(IIIII)Z"⟩, 61) := ⟨⟨by decide +kernel, by decide +kernel⟩, List.mem_of_getElem? (i := 756) (by decide +kernel), List.mem_of_getElem? (i := 1111) (by decide +kernel), List.mem_of_getElem? (i := 1112) (by decide +kernel)⟩
theorem lw_p54 : lw_okq (⟨"LastCarModel", "leftOfAll", "()I"⟩, 61) := ⟨⟨by decide +kernel, by decide +kernel⟩, List.mem_of_getElem? (i := 756) (by decide +kernel), List.mem_of_getElem? (i := 1115) (by decide +kernel), List.mem_of_getElem? (i := 1116) (by decide +kernel)⟩
theorem lw_p55 : lw_okq (⟨"LastCarModel", "leftOf", "(I)I"⟩, 61) := ⟨⟨by decide +kernel, by decide +kernel⟩, List.mem_of_getElem? (i := 756) (by decide +kernel), List.mem_of_getElem? (i := 1119) (by decide +kernel), List.mem_of_getElem? (i := 1120) (by decide +kernel)⟩
theorem lw_p56 : lw_okq (⟨"LastCarModel", "harmOf", "(I)J"⟩, 61) := ⟨⟨by decide +kernel, by decide +kernel⟩, List.mem_of_getElem? (i := 756) (by decide +kernel), List.mem_of_getElem? (i := 1127) (by decide +kernel), List.mem_of_getElem? (i := 1128) (by decide +kernel)⟩
theorem lw_p57 : lw_okq (⟨"LastCarModel", "allUp", "()I"⟩, 61) := ⟨⟨by decide +kernel, by decide +kernel⟩, List.mem_of_getElem? (i := 756) (by decide +kernel), List.mem_of_getElem? (i := 1187) (by decide +kernel), List.mem_of_getElem? (i := 1188) (by decide +kernel)⟩
def lw_privs_4 : List (MethodName × Nat) := [(⟨"LastCarModel", "gives", "(I)I"⟩, 61), (⟨"LastCarModel", "goes", "(II)Z"⟩, 61), (⟨"LastCarModel", "isShut", "(I)Z"⟩, 61), (⟨"LastCarModel", "orderOf", "(I)I"⟩, 61), (⟨"LastCarModel", "load", "(IIII)V"⟩, 61), (⟨"LastCarModel", "isAhead", "(IIIII)Z"⟩, 61), (⟨"LastCarModel", "leftOfAll", "()I"⟩, 61), (⟨"LastCarModel", "leftOf", "(I)I"⟩, 61), (⟨"LastCarModel", "harmOf", "(I)J"⟩, 61), (⟨"LastCarModel", "allUp", "()I"⟩, 61)]
theorem lw_r4 : ∀ q ∈ lw_privs_4, lw_okq q := List.forall_mem_cons.mpr ⟨lw_p48, List.forall_mem_cons.mpr ⟨lw_p49, List.forall_mem_cons.mpr ⟨lw_p50, List.forall_mem_cons.mpr ⟨lw_p51, List.forall_mem_cons.mpr ⟨lw_p52, List.forall_mem_cons.mpr ⟨lw_p53, List.forall_mem_cons.mpr ⟨lw_p54, List.forall_mem_cons.mpr ⟨lw_p55, List.forall_mem_cons.mpr ⟨lw_p56, List.forall_mem_cons.mpr ⟨lw_p57, fun _ h => absurd h List.not_mem_nil⟩⟩⟩⟩⟩⟩⟩⟩⟩⟩
def lw_privs : List (MethodName × Nat) := lw_privs_1 ++ (lw_privs_2 ++ (lw_privs_3 ++ (lw_privs_4)))
def lw_tbl : List Cond := k2_sels lw_privs ++ tables_1
theorem lw_privs_ok : ∀ q ∈ lw_privs, lw_okq q := by
  show ∀ q ∈ lw_privs_1 ++ (lw_privs_2 ++ (lw_privs_3 ++ (lw_privs_4))), lw_okq q
  exact List.forall_mem_append.mpr ⟨lw_r1, List.forall_mem_append.mpr ⟨lw_r2, List.forall_mem_append.mpr ⟨lw_r3, lw_r4⟩⟩⟩
-- ===== end of PART A; then your names; then what follows =====
end
section
def RX0 : String := "LastCar$Cars"
def TX0 : u_T := fun k => match k with
  | 0 => ("LastCar$Cars", "number", "I", false)
  | 1 => ("LastCar$Cars", "room", "[I", true)
  | 2 => ("LastCar$Cars", "every", "[I", true)
  | _ => ("LastCar$Cars", "first", "[I", true)
def tyX0 : Nat → FieldType := fun k => match k with
  | 0 => .int
  | 1 => .array .int
  | 2 => .array .int
  | _ => .array .int
abbrev wsX00 : List Cond := u_ws RX0 TX0 4
theorem nmX0 : ∀ a, a < 4 → ∀ b, b < 4 → a ≠ b → (TX0 a).2.1 ≠ (TX0 b).2.1 := by decide +kernel
theorem tyX0_ok : ∀ k, k < 4 → parseFieldDescriptor (TX0 k).2.2.1 = some (tyX0 k) := by decide +kernel
abbrev cX0_init : ByteArray := prog_2_method_1_code
def yX0_init : MethodName := ⟨RX0, "<init>", "()V"⟩
abbrev cX0_add : ByteArray := prog_2_method_2_code
def yX0_add : MethodName := ⟨RX0, "add", "(III)I"⟩
abbrev cX0_roomOf : ByteArray := prog_2_method_3_code
def yX0_roomOf : MethodName := ⟨RX0, "roomOf", "(II)I"⟩
abbrev cX0_roomIn : ByteArray := prog_2_method_4_code
def yX0_roomIn : MethodName := ⟨RX0, "roomIn", "(I)I"⟩
def RX1 : String := "LastCar$Day"
def TX1 : u_T := fun k => match k with
  | 0 => ("LastCar$Day", "calls", "[I", true)
  | 1 => ("LastCar$Day", "asks", "[I", true)
  | 2 => ("LastCar$Day", "rank", "[I", true)
  | 3 => ("LastCar$Day", "names", "[I", true)
  | 4 => ("LastCar$Day", "up", "[I", true)
  | 5 => ("LastCar$Day", "came", "[[I", true)
  | 6 => ("LastCar$Day", "oldest", "[I", true)
  | 7 => ("LastCar$Day", "rodeOf", "[I", true)
  | 8 => ("LastCar$Day", "downOf", "[[I", true)
  | 9 => ("LastCar$Day", "waiting", "I", false)
  | 10 => ("LastCar$Day", "rodeBy", "[I", true)
  | 11 => ("LastCar$Day", "mostWaiting", "I", false)
  | _ => ("LastCar$Day", "mostWaitingIn", "I", false)
def tyX1 : Nat → FieldType := fun k => match k with
  | 0 => .array .int
  | 1 => .array .int
  | 2 => .array .int
  | 3 => .array .int
  | 4 => .array .int
  | 5 => .array (.array .int)
  | 6 => .array .int
  | 7 => .array .int
  | 8 => .array (.array .int)
  | 9 => .int
  | 10 => .array .int
  | 11 => .int
  | _ => .int
abbrev wsX10 : List Cond := u_ws RX1 TX1 13
theorem nmX1 : ∀ a, a < 13 → ∀ b, b < 13 → a ≠ b → (TX1 a).2.1 ≠ (TX1 b).2.1 := by decide +kernel
theorem tyX1_ok : ∀ k, k < 13 → parseFieldDescriptor (TX1 k).2.2.1 = some (tyX1 k) := by decide +kernel
abbrev cX1_init : ByteArray := prog_3_method_1_code
def yX1_init : MethodName := ⟨RX1, "<init>", "()V"⟩
abbrev cX1_hearWay : ByteArray := prog_3_method_2_code
def yX1_hearWay : MethodName := ⟨RX1, "hearWay", "(LLastCar$Way;ILLastCar$Hill;)V"⟩
abbrev cX1_hearSheet : ByteArray := prog_3_method_3_code
def yX1_hearSheet : MethodName := ⟨RX1, "hearSheet", "(LLastCar$Sheet;)V"⟩
abbrev cX1_run : ByteArray := prog_3_method_4_code
def yX1_run : MethodName := ⟨RX1, "run", "(LLastCar$Hill;LLastCar$Cars;ILLastCar$Text;)V"⟩
abbrev cX1_begin : ByteArray := prog_3_method_5_code
def yX1_begin : MethodName := ⟨RX1, "begin", "(LLastCar$Hill;)V"⟩
abbrev cX1_sendPeople : ByteArray := prog_3_method_6_code
def yX1_sendPeople : MethodName := ⟨RX1, "sendPeople", "(LLastCar$Hill;LLastCar$Text;I)V"⟩
abbrev cX1_goingOf : ByteArray := prog_3_method_7_code
def yX1_goingOf : MethodName := ⟨RX1, "goingOf", "(LLastCar$Hill;LLastCar$Text;III)I"⟩
abbrev cX1_setNames : ByteArray := prog_3_method_8_code
def yX1_setNames : MethodName := ⟨RX1, "setNames", "(LLastCar$Hill;III)V"⟩
abbrev cX1_sendCars : ByteArray := prog_3_method_9_code
def yX1_sendCars : MethodName := ⟨RX1, "sendCars", "(LLastCar$Hill;LLastCar$Cars;ILLastCar$Text;I)V"⟩
abbrev cX1_board : ByteArray := prog_3_method_10_code
def yX1_board : MethodName := ⟨RX1, "board", "(IIII)V"⟩
abbrev cX1_firstOnes : ByteArray := prog_3_method_11_code
def yX1_firstOnes : MethodName := ⟨RX1, "firstOnes", "(II)I"⟩
abbrev cX1_isAhead : ByteArray := prog_3_method_12_code
def yX1_isAhead : MethodName := ⟨RX1, "isAhead", "(II)Z"⟩
abbrev cX1_endMinute : ByteArray := prog_3_method_13_code
def yX1_endMinute : MethodName := ⟨RX1, "endMinute", "(LLastCar$Hill;I)V"⟩
abbrev cX1_rodeInAll : ByteArray := prog_3_method_14_code
def yX1_rodeInAll : MethodName := ⟨RX1, "rodeInAll", "(LLastCar$Hill;)I"⟩
abbrev cX1_leftOf : ByteArray := prog_3_method_15_code
def yX1_leftOf : MethodName := ⟨RX1, "leftOf", "(LLastCar$Hill;I)I"⟩
abbrev cX1_downBehind : ByteArray := prog_3_method_16_code
def yX1_downBehind : MethodName := ⟨RX1, "downBehind", "(LLastCar$Hill;II)I"⟩
abbrev cX1_harmDone : ByteArray := prog_3_method_17_code
def yX1_harmDone : MethodName := ⟨RX1, "harmDone", "(LLastCar$Hill;LLastCar$Text;)J"⟩
def RX2 : String := "LastCar$Hill"
def TX2 : u_T := fun k => match k with
  | 0 => ("LastCar$Hill", "sorts", "I", false)
  | 1 => ("LastCar$Hill", "up", "[I", true)
  | 2 => ("LastCar$Hill", "far", "[I", true)
  | 3 => ("LastCar$Hill", "slow", "[I", true)
  | 4 => ("LastCar$Hill", "hears", "[I", true)
  | 5 => ("LastCar$Hill", "sun", "[I", true)
  | 6 => ("LastCar$Hill", "end", "I", false)
  | 7 => ("LastCar$Hill", "shutFrom", "I", false)
  | 8 => ("LastCar$Hill", "shutTo", "I", false)
  | _ => ("LastCar$Hill", "rule", "I", false)
def tyX2 : Nat → FieldType := fun k => match k with
  | 0 => .int
  | 1 => .array .int
  | 2 => .array .int
  | 3 => .array .int
  | 4 => .array .int
  | 5 => .array .int
  | 6 => .int
  | 7 => .int
  | 8 => .int
  | _ => .int
abbrev wsX20 : List Cond := u_ws RX2 TX2 10
theorem nmX2 : ∀ a, a < 10 → ∀ b, b < 10 → a ≠ b → (TX2 a).2.1 ≠ (TX2 b).2.1 := by decide +kernel
theorem tyX2_ok : ∀ k, k < 10 → parseFieldDescriptor (TX2 k).2.2.1 = some (tyX2 k) := by decide +kernel
abbrev cX2_init : ByteArray := prog_4_method_1_code
def yX2_init : MethodName := ⟨RX2, "<init>", "()V"⟩
abbrev cX2_addSort : ByteArray := prog_4_method_2_code
def yX2_addSort : MethodName := ⟨RX2, "addSort", "(II)I"⟩
abbrev cX2_rowOf : ByteArray := prog_4_method_3_code
def yX2_rowOf : MethodName := ⟨RX2, "rowOf", "(I)[I"⟩
abbrev cX2_sizeOf : ByteArray := prog_4_method_4_code
def yX2_sizeOf : MethodName := ⟨RX2, "sizeOf", "(I)I"⟩
abbrev cX2_isShutIn : ByteArray := prog_4_method_5_code
def yX2_isShutIn : MethodName := ⟨RX2, "isShutIn", "(I)Z"⟩
abbrev cX2_allUp : ByteArray := prog_4_method_6_code
def yX2_allUp : MethodName := ⟨RX2, "allUp", "()I"⟩
abbrev cX2_takeOver : ByteArray := prog_4_method_7_code
def yX2_takeOver : MethodName := ⟨RX2, "takeOver", "(LLastCar$Hill;)V"⟩
def RX3 : String := "LastCar$Sheet"
def TX3 : u_T := fun k => match k with
  | 0 => ("LastCar$Sheet", "sort", "I", false)
  | 1 => ("LastCar$Sheet", "size", "I", false)
  | _ => ("LastCar$Sheet", "cells", "[I", true)
def tyX3 : Nat → FieldType := fun k => match k with
  | 0 => .int
  | 1 => .int
  | _ => .array .int
abbrev wsX30 : List Cond := u_ws RX3 TX3 3
theorem nmX3 : ∀ a, a < 3 → ∀ b, b < 3 → a ≠ b → (TX3 a).2.1 ≠ (TX3 b).2.1 := by decide +kernel
theorem tyX3_ok : ∀ k, k < 3 → parseFieldDescriptor (TX3 k).2.2.1 = some (tyX3 k) := by decide +kernel
abbrev cX3_init : ByteArray := prog_5_method_1_code
def yX3_init : MethodName := ⟨RX3, "<init>", "()V"⟩
abbrev cX3_become : ByteArray := prog_5_method_2_code
def yX3_become : MethodName := ⟨RX3, "become", "(II)V"⟩
abbrev cX3_has : ByteArray := prog_5_method_3_code
def yX3_has : MethodName := ⟨RX3, "has", "(I)Z"⟩
abbrev cX3_hasRow : ByteArray := prog_5_method_4_code
def yX3_hasRow : MethodName := ⟨RX3, "hasRow", "(II)Z"⟩
abbrev cX3_put : ByteArray := prog_5_method_5_code
def yX3_put : MethodName := ⟨RX3, "put", "(II)V"⟩
abbrev cX3_allBetween : ByteArray := prog_5_method_6_code
def yX3_allBetween : MethodName := ⟨RX3, "allBetween", "(II)Z"⟩
def RX4 : String := "LastCar$Tape"
def TX4 : u_T := fun k => match k with
  | 0 => ("LastCar$Tape", "bytes", "[I", true)
  | 1 => ("LastCar$Tape", "size", "I", false)
  | 2 => ("LastCar$Tape", "pos", "I", false)
  | 3 => ("LastCar$Tape", "token", "I", false)
  | 4 => ("LastCar$Tape", "place", "I", false)
  | _ => ("LastCar$Tape", "fault", "I", false)
def tyX4 : Nat → FieldType := fun k => match k with
  | 0 => .array .int
  | 1 => .int
  | 2 => .int
  | 3 => .int
  | 4 => .int
  | _ => .int
abbrev wsX40 : List Cond := u_ws RX4 TX4 6
theorem nmX4 : ∀ a, a < 6 → ∀ b, b < 6 → a ≠ b → (TX4 a).2.1 ≠ (TX4 b).2.1 := by decide +kernel
theorem tyX4_ok : ∀ k, k < 6 → parseFieldDescriptor (TX4 k).2.2.1 = some (tyX4 k) := by decide +kernel
abbrev cX4_init : ByteArray := prog_6_method_1_code
def yX4_init : MethodName := ⟨RX4, "<init>", "()V"⟩
abbrev cX4_append : ByteArray := prog_6_method_2_code
def yX4_append : MethodName := ⟨RX4, "append", "(I)V"⟩
abbrev cX4_empty : ByteArray := prog_6_method_3_code
def yX4_empty : MethodName := ⟨RX4, "empty", "()V"⟩
abbrev cX4_read : ByteArray := prog_6_method_4_code
def yX4_read : MethodName := ⟨RX4, "read", "(LLastCar$Text;)I"⟩
abbrev cX4_expect : ByteArray := prog_6_method_5_code
def yX4_expect : MethodName := ⟨RX4, "expect", "(I)V"⟩
abbrev cX4_refuse : ByteArray := prog_6_method_6_code
def yX4_refuse : MethodName := ⟨RX4, "refuse", "()V"⟩
abbrev cX4_readOr : ByteArray := prog_6_method_7_code
def yX4_readOr : MethodName := ⟨RX4, "readOr", "(LLastCar$Text;I)V"⟩
abbrev cX4_readAnd : ByteArray := prog_6_method_8_code
def yX4_readAnd : MethodName := ⟨RX4, "readAnd", "(LLastCar$Text;I)V"⟩
abbrev cX4_readNot : ByteArray := prog_6_method_9_code
def yX4_readNot : MethodName := ⟨RX4, "readNot", "(LLastCar$Text;I)V"⟩
abbrev cX4_readSum : ByteArray := prog_6_method_10_code
def yX4_readSum : MethodName := ⟨RX4, "readSum", "(LLastCar$Text;I)V"⟩
abbrev cX4_readTerm : ByteArray := prog_6_method_11_code
def yX4_readTerm : MethodName := ⟨RX4, "readTerm", "(LLastCar$Text;I)V"⟩
abbrev cX4_readOne : ByteArray := prog_6_method_12_code
def yX4_readOne : MethodName := ⟨RX4, "readOne", "(LLastCar$Text;I)V"⟩
abbrev cX4_mayOpen : ByteArray := prog_6_method_13_code
def yX4_mayOpen : MethodName := ⟨RX4, "mayOpen", "(I)Z"⟩
abbrev cX4_next : ByteArray := prog_6_method_14_code
def yX4_next : MethodName := ⟨RX4, "next", "()V"⟩
abbrev cX4_isLetter : ByteArray := prog_6_method_15_code
def yX4_isLetter : MethodName := ⟨RX4, "isLetter", "(I)Z"⟩
abbrev cX4_isDigit : ByteArray := prog_6_method_16_code
def yX4_isDigit : MethodName := ⟨RX4, "isDigit", "(I)Z"⟩
abbrev cX4_signToken : ByteArray := prog_6_method_17_code
def yX4_signToken : MethodName := ⟨RX4, "signToken", "(I)I"⟩
abbrev cX4_numberToken : ByteArray := prog_6_method_18_code
def yX4_numberToken : MethodName := ⟨RX4, "numberToken", "()I"⟩
abbrev cX4_wordToken : ByteArray := prog_6_method_19_code
def yX4_wordToken : MethodName := ⟨RX4, "wordToken", "()I"⟩
abbrev cX4_spells : ByteArray := prog_6_method_20_code
def yX4_spells : MethodName := ⟨RX4, "spells", "(Ljava/lang/String;)Z"⟩
def RX5 : String := "LastCar$Text"
def TX5 : u_T := fun k => match k with
  | 0 => ("LastCar$Text", "code", "[I", true)
  | 1 => ("LastCar$Text", "starts", "[I", true)
  | 2 => ("LastCar$Text", "stack", "[I", true)
  | _ => ("LastCar$Text", "size", "I", false)
def tyX5 : Nat → FieldType := fun k => match k with
  | 0 => .array .int
  | 1 => .array .int
  | 2 => .array .int
  | _ => .int
abbrev wsX50 : List Cond := u_ws RX5 TX5 4
theorem nmX5 : ∀ a, a < 4 → ∀ b, b < 4 → a ≠ b → (TX5 a).2.1 ≠ (TX5 b).2.1 := by decide +kernel
theorem tyX5_ok : ∀ k, k < 4 → parseFieldDescriptor (TX5 k).2.2.1 = some (tyX5 k) := by decide +kernel
abbrev cX5_init : ByteArray := prog_7_method_1_code
def yX5_init : MethodName := ⟨RX5, "<init>", "()V"⟩
abbrev cX5_clear : ByteArray := prog_7_method_2_code
def yX5_clear : MethodName := ⟨RX5, "clear", "()V"⟩
abbrev cX5_begin : ByteArray := prog_7_method_3_code
def yX5_begin : MethodName := ⟨RX5, "begin", "(I)V"⟩
abbrev cX5_close : ByteArray := prog_7_method_4_code
def yX5_close : MethodName := ⟨RX5, "close", "()V"⟩
abbrev cX5_add : ByteArray := prog_7_method_5_code
def yX5_add : MethodName := ⟨RX5, "add", "(I)V"⟩
abbrev cX5_value : ByteArray := prog_7_method_6_code
def yX5_value : MethodName := ⟨RX5, "value", "(I[I)I"⟩
abbrev cX5_joined : ByteArray := prog_7_method_7_code
def yX5_joined : MethodName := ⟨RX5, "joined", "(III)I"⟩
def RX6 : String := "LastCar$Way"
def TX6 : u_T := fun k => match k with
  | 0 => ("LastCar$Way", "kind", "I", true)
  | 1 => ("LastCar$Way", "from", "I", true)
  | _ => ("LastCar$Way", "number", "I", true)
def tyX6 : Nat → FieldType := fun k => match k with
  | 0 => .int
  | 1 => .int
  | _ => .int
abbrev wsX60 : List Cond := u_ws RX6 TX6 3
theorem nmX6 : ∀ a, a < 3 → ∀ b, b < 3 → a ≠ b → (TX6 a).2.1 ≠ (TX6 b).2.1 := by decide +kernel
theorem tyX6_ok : ∀ k, k < 3 → parseFieldDescriptor (TX6 k).2.2.1 = some (tyX6 k) := by decide +kernel
abbrev cX6_init : ByteArray := prog_8_method_1_code
def yX6_init : MethodName := ⟨RX6, "<init>", "(III)V"⟩
abbrev cX6_callsIn : ByteArray := prog_8_method_2_code
def yX6_callsIn : MethodName := ⟨RX6, "callsIn", "(II)I"⟩
abbrev cX6_asksIn : ByteArray := prog_8_method_3_code
def yX6_asksIn : MethodName := ⟨RX6, "asksIn", "(II)I"⟩
abbrev cX6_rankOf : ByteArray := prog_8_method_4_code
def yX6_rankOf : MethodName := ⟨RX6, "rankOf", "(II)I"⟩
abbrev cX6_isUnder : ByteArray := prog_8_method_5_code
def yX6_isUnder : MethodName := ⟨RX6, "isUnder", "(I)Z"⟩
def RX7 : String := "LastCar"
def TX7 : u_T := fun k => match k with
  | 0 => ("LastCar", "hill", "LLastCar$Hill;", true)
  | 1 => ("LastCar", "kept", "LLastCar$Hill;", true)
  | 2 => ("LastCar", "imageKept", "Z", false)
  | 3 => ("LastCar", "cars", "LLastCar$Cars;", true)
  | 4 => ("LastCar", "ways", "[LLastCar$Way;", true)
  | 5 => ("LastCar", "wayCount", "I", false)
  | 6 => ("LastCar", "plainWay", "LLastCar$Way;", true)
  | 7 => ("LastCar", "tape", "LLastCar$Tape;", true)
  | 8 => ("LastCar", "texts", "[LLastCar$Text;", true)
  | 9 => ("LastCar", "textCount", "I", false)
  | 10 => ("LastCar", "sheets", "[LLastCar$Sheet;", true)
  | _ => ("LastCar", "day", "LLastCar$Day;", true)
def tyX7 : Nat → FieldType := fun k => match k with
  | 0 => .object "LastCar$Hill"
  | 1 => .object "LastCar$Hill"
  | 2 => .boolean
  | 3 => .object "LastCar$Cars"
  | 4 => .array (.object "LastCar$Way")
  | 5 => .int
  | 6 => .object "LastCar$Way"
  | 7 => .object "LastCar$Tape"
  | 8 => .array (.object "LastCar$Text")
  | 9 => .int
  | 10 => .array (.object "LastCar$Sheet")
  | _ => .object "LastCar$Day"
abbrev wsX70 : List Cond := u_ws RX7 TX7 12
theorem nmX7 : ∀ a, a < 12 → ∀ b, b < 12 → a ≠ b → (TX7 a).2.1 ≠ (TX7 b).2.1 := by decide +kernel
theorem tyX7_ok : ∀ k, k < 12 → parseFieldDescriptor (TX7 k).2.2.1 = some (tyX7 k) := by decide +kernel
abbrev cX7_init : ByteArray := prog_1_method_1_code
def yX7_init : MethodName := ⟨RX7, "<init>", "()V"⟩
abbrev cX7_firstRule : ByteArray := prog_1_method_2_code
def yX7_firstRule : MethodName := ⟨RX7, "firstRule", "()LLastCar$Text;"⟩
abbrev cX7_people : ByteArray := prog_1_method_3_code
def yX7_people : MethodName := ⟨RX7, "people", "(II)I"⟩
abbrev cX7_car : ByteArray := prog_1_method_4_code
def yX7_car : MethodName := ⟨RX7, "car", "(III)I"⟩
abbrev cX7_way : ByteArray := prog_1_method_5_code
def yX7_way : MethodName := ⟨RX7, "way", "(III)I"⟩
abbrev cX7_set : ByteArray := prog_1_method_6_code
def yX7_set : MethodName := ⟨RX7, "set", "(III)I"⟩
abbrev cX7_shut : ByteArray := prog_1_method_7_code
def yX7_shut : MethodName := ⟨RX7, "shut", "(II)I"⟩
abbrev cX7_told : ByteArray := prog_1_method_8_code
def yX7_told : MethodName := ⟨RX7, "told", "(III)I"⟩
abbrev cX7_feed : ByteArray := prog_1_method_9_code
def yX7_feed : MethodName := ⟨RX7, "feed", "(IJ)I"⟩
abbrev cX7_text : ByteArray := prog_1_method_10_code
def yX7_text : MethodName := ⟨RX7, "text", "()I"⟩
abbrev cX7_force : ByteArray := prog_1_method_11_code
def yX7_force : MethodName := ⟨RX7, "force", "(I)I"⟩
abbrev cX7_left : ByteArray := prog_1_method_12_code
def yX7_left : MethodName := ⟨RX7, "left", "(II)I"⟩
abbrev cX7_harm : ByteArray := prog_1_method_13_code
def yX7_harm : MethodName := ⟨RX7, "harm", "(I)J"⟩
abbrev cX7_rode : ByteArray := prog_1_method_14_code
def yX7_rode : MethodName := ⟨RX7, "rode", "(II)I"⟩
abbrev cX7_waits : ByteArray := prog_1_method_15_code
def yX7_waits : MethodName := ⟨RX7, "waits", "(II)I"⟩
abbrev cX7_down : ByteArray := prog_1_method_16_code
def yX7_down : MethodName := ⟨RX7, "down", "(III)I"⟩
abbrev cX7_behind : ByteArray := prog_1_method_17_code
def yX7_behind : MethodName := ⟨RX7, "behind", "(II)I"⟩
abbrev cX7_latest : ByteArray := prog_1_method_18_code
def yX7_latest : MethodName := ⟨RX7, "latest", "(II)I"⟩
abbrev cX7_more : ByteArray := prog_1_method_19_code
def yX7_more : MethodName := ⟨RX7, "more", "(II)I"⟩
abbrev cX7_choose : ByteArray := prog_1_method_20_code
def yX7_choose : MethodName := ⟨RX7, "choose", "(I)J"⟩
abbrev cX7_must : ByteArray := prog_1_method_21_code
def yX7_must : MethodName := ⟨RX7, "must", "()I"⟩
abbrev cX7_latestUp : ByteArray := prog_1_method_22_code
def yX7_latestUp : MethodName := ⟨RX7, "latestUp", "(I)I"⟩
abbrev cX7_judge : ByteArray := prog_1_method_23_code
def yX7_judge : MethodName := ⟨RX7, "judge", "(I)I"⟩
abbrev cX7_image : ByteArray := prog_1_method_24_code
def yX7_image : MethodName := ⟨RX7, "image", "()I"⟩
abbrev cX7_back : ByteArray := prog_1_method_25_code
def yX7_back : MethodName := ⟨RX7, "back", "()I"⟩
abbrev cX7_count : ByteArray := prog_1_method_26_code
def yX7_count : MethodName := ⟨RX7, "count", "(I)I"⟩
abbrev cX7_sheet : ByteArray := prog_1_method_27_code
def yX7_sheet : MethodName := ⟨RX7, "sheet", "(III)I"⟩
abbrev cX7_cell : ByteArray := prog_1_method_28_code
def yX7_cell : MethodName := ⟨RX7, "cell", "(III)I"⟩
abbrev cX7_copy : ByteArray := prog_1_method_29_code
def yX7_copy : MethodName := ⟨RX7, "copy", "(IIIII)I"⟩
abbrev cX7_sorts : ByteArray := prog_1_method_30_code
def yX7_sorts : MethodName := ⟨RX7, "sorts", "(IIII)I"⟩
abbrev cX7_taken : ByteArray := prog_1_method_31_code
def yX7_taken : MethodName := ⟨RX7, "taken", "(II)I"⟩
abbrev cX7_between : ByteArray := prog_1_method_32_code
def yX7_between : MethodName := ⟨RX7, "between", "(III)Z"⟩
abbrev cX7_bounded : ByteArray := prog_1_method_33_code
def yX7_bounded : MethodName := ⟨RX7, "bounded", "(III)I"⟩
abbrev cX7_isMinute : ByteArray := prog_1_method_34_code
def yX7_isMinute : MethodName := ⟨RX7, "isMinute", "(I)Z"⟩
abbrev cX7_isSheet : ByteArray := prog_1_method_35_code
def yX7_isSheet : MethodName := ⟨RX7, "isSheet", "(I)Z"⟩
abbrev cX7_fits : ByteArray := prog_1_method_36_code
def yX7_fits : MethodName := ⟨RX7, "fits", "(II)Z"⟩
abbrev cX7_isSortOrAll : ByteArray := prog_1_method_37_code
def yX7_isSortOrAll : MethodName := ⟨RX7, "isSortOrAll", "(I)Z"⟩
abbrev cX7_wayAt : ByteArray := prog_1_method_38_code
def yX7_wayAt : MethodName := ⟨RX7, "wayAt", "(I)LLastCar$Way;"⟩
abbrev cX7_runDay : ByteArray := prog_1_method_39_code
def yX7_runDay : MethodName := ⟨RX7, "runDay", "(LLastCar$Way;)V"⟩
abbrev cX7_leftBy : ByteArray := prog_1_method_40_code
def yX7_leftBy : MethodName := ⟨RX7, "leftBy", "(LLastCar$Way;II)I"⟩
def RX8 : String := "LastCarModel"
def TX8 : u_T := fun k => match k with
  | 0 => ("LastCarModel", "code", "I", false)
  | 1 => ("LastCarModel", "sorts", "I", false)
  | 2 => ("LastCarModel", "up", "[I", true)
  | 3 => ("LastCarModel", "far", "[I", true)
  | 4 => ("LastCarModel", "slow", "[I", true)
  | 5 => ("LastCarModel", "hears", "[I", true)
  | 6 => ("LastCarModel", "cars", "I", false)
  | 7 => ("LastCarModel", "room", "[I", true)
  | 8 => ("LastCarModel", "every", "[I", true)
  | 9 => ("LastCarModel", "first", "[I", true)
  | 10 => ("LastCarModel", "ways", "I", false)
  | 11 => ("LastCarModel", "kind", "[I", true)
  | 12 => ("LastCarModel", "from0", "[I", true)
  | 13 => ("LastCarModel", "number", "[I", true)
  | 14 => ("LastCarModel", "sun", "[I", true)
  | 15 => ("LastCarModel", "end", "I", false)
  | 16 => ("LastCarModel", "shutFrom", "I", false)
  | 17 => ("LastCarModel", "shutTo", "I", false)
  | 18 => ("LastCarModel", "toldSheet", "I", false)
  | 19 => ("LastCarModel", "tape", "[B", true)
  | 20 => ("LastCarModel", "taped", "I", false)
  | 21 => ("LastCarModel", "texts", "I", false)
  | 22 => ("LastCarModel", "inForce", "I", false)
  | 23 => ("LastCarModel", "act", "[I", true)
  | 24 => ("LastCarModel", "with", "[I", true)
  | 25 => ("LastCarModel", "endOf", "[I", true)
  | 26 => ("LastCarModel", "laid", "I", false)
  | 27 => ("LastCarModel", "fault", "I", false)
  | 28 => ("LastCarModel", "open", "I", false)
  | 29 => ("LastCarModel", "from", "I", false)
  | 30 => ("LastCarModel", "to", "I", false)
  | 31 => ("LastCarModel", "sortNow", "I", false)
  | 32 => ("LastCarModel", "isNow", "I", false)
  | 33 => ("LastCarModel", "pile", "[I", true)
  | 34 => ("LastCarModel", "facts", "[I", true)
  | 35 => ("LastCarModel", "letters", "[I", true)
  | 36 => ("LastCarModel", "meant", "[I", true)
  | 37 => ("LastCarModel", "isUp", "[I", true)
  | 38 => ("LastCarModel", "coming", "[I", true)
  | 39 => ("LastCarModel", "waiting", "[I", true)
  | 40 => ("LastCarModel", "rodeBy", "[I", true)
  | 41 => ("LastCarModel", "downBy", "[I", true)
  | 42 => ("LastCarModel", "downNow", "[I", true)
  | 43 => ("LastCarModel", "waitsMost", "I", false)
  | 44 => ("LastCarModel", "waitsAt", "I", false)
  | 45 => ("LastCarModel", "carsNow", "I", false)
  | 46 => ("LastCarModel", "hasImage", "Z", false)
  | 47 => ("LastCarModel", "keptEnd", "I", false)
  | 48 => ("LastCarModel", "keptShutFrom", "I", false)
  | 49 => ("LastCarModel", "keptShutTo", "I", false)
  | 50 => ("LastCarModel", "keptRule", "I", false)
  | 51 => ("LastCarModel", "keptSorts", "I", false)
  | 52 => ("LastCarModel", "keptUp", "[I", true)
  | 53 => ("LastCarModel", "keptFar", "[I", true)
  | 54 => ("LastCarModel", "keptSlow", "[I", true)
  | 55 => ("LastCarModel", "keptHears", "[I", true)
  | 56 => ("LastCarModel", "keptSun", "[I", true)
  | 57 => ("LastCarModel", "sheetSort", "[I", true)
  | 58 => ("LastCarModel", "sheetSize", "[I", true)
  | 59 => ("LastCarModel", "items", "[I", true)
  | _ => ("LastCarModel", "moving", "[I", true)
def tyX8 : Nat → FieldType := fun k => match k with
  | 0 => .int
  | 1 => .int
  | 2 => .array .int
  | 3 => .array .int
  | 4 => .array .int
  | 5 => .array .int
  | 6 => .int
  | 7 => .array .int
  | 8 => .array .int
  | 9 => .array .int
  | 10 => .int
  | 11 => .array .int
  | 12 => .array .int
  | 13 => .array .int
  | 14 => .array .int
  | 15 => .int
  | 16 => .int
  | 17 => .int
  | 18 => .int
  | 19 => .array .byte
  | 20 => .int
  | 21 => .int
  | 22 => .int
  | 23 => .array .int
  | 24 => .array .int
  | 25 => .array .int
  | 26 => .int
  | 27 => .int
  | 28 => .int
  | 29 => .int
  | 30 => .int
  | 31 => .int
  | 32 => .int
  | 33 => .array .int
  | 34 => .array .int
  | 35 => .array .int
  | 36 => .array .int
  | 37 => .array .int
  | 38 => .array .int
  | 39 => .array .int
  | 40 => .array .int
  | 41 => .array .int
  | 42 => .array .int
  | 43 => .int
  | 44 => .int
  | 45 => .int
  | 46 => .boolean
  | 47 => .int
  | 48 => .int
  | 49 => .int
  | 50 => .int
  | 51 => .int
  | 52 => .array .int
  | 53 => .array .int
  | 54 => .array .int
  | 55 => .array .int
  | 56 => .array .int
  | 57 => .array .int
  | 58 => .array .int
  | 59 => .array .int
  | _ => .array .int
abbrev wsX80 : List Cond := u_ws RX8 TX8 61
theorem nmX8 : ∀ a, a < 61 → ∀ b, b < 61 → a ≠ b → (TX8 a).2.1 ≠ (TX8 b).2.1 := by decide +kernel
theorem tyX8_ok : ∀ k, k < 61 → parseFieldDescriptor (TX8 k).2.2.1 = some (tyX8 k) := by decide +kernel
abbrev cX8_init : ByteArray := prog_10_method_1_code
def yX8_init : MethodName := ⟨RX8, "<init>", "()V"⟩
abbrev cX8_in : ByteArray := prog_10_method_3_code
def yX8_in : MethodName := ⟨RX8, "in", "(III)Z"⟩
abbrev cX8_held : ByteArray := prog_10_method_4_code
def yX8_held : MethodName := ⟨RX8, "held", "(III)I"⟩
abbrev cX8_isSort : ByteArray := prog_10_method_5_code
def yX8_isSort : MethodName := ⟨RX8, "isSort", "(I)Z"⟩
abbrev cX8_isWay : ByteArray := prog_10_method_6_code
def yX8_isWay : MethodName := ⟨RX8, "isWay", "(I)Z"⟩
abbrev cX8_isMinute : ByteArray := prog_10_method_7_code
def yX8_isMinute : MethodName := ⟨RX8, "isMinute", "(I)Z"⟩
abbrev cX8_people : ByteArray := prog_10_method_8_code
def yX8_people : MethodName := ⟨RX8, "people", "(II)I"⟩
abbrev cX8_car : ByteArray := prog_10_method_9_code
def yX8_car : MethodName := ⟨RX8, "car", "(III)I"⟩
abbrev cX8_way : ByteArray := prog_10_method_10_code
def yX8_way : MethodName := ⟨RX8, "way", "(III)I"⟩
abbrev cX8_set : ByteArray := prog_10_method_11_code
def yX8_set : MethodName := ⟨RX8, "set", "(III)I"⟩
abbrev cX8_shut : ByteArray := prog_10_method_12_code
def yX8_shut : MethodName := ⟨RX8, "shut", "(II)I"⟩
abbrev cX8_isShut : ByteArray := prog_10_method_13_code
def yX8_isShut : MethodName := ⟨RX8, "isShut", "(I)Z"⟩
abbrev cX8_calls : ByteArray := prog_10_method_14_code
def yX8_calls : MethodName := ⟨RX8, "calls", "(II)I"⟩
abbrev cX8_asks : ByteArray := prog_10_method_15_code
def yX8_asks : MethodName := ⟨RX8, "asks", "(II)I"⟩
abbrev cX8_orderOf : ByteArray := prog_10_method_16_code
def yX8_orderOf : MethodName := ⟨RX8, "orderOf", "(I)I"⟩
abbrev cX8_told : ByteArray := prog_10_method_17_code
def yX8_told : MethodName := ⟨RX8, "told", "(III)I"⟩
abbrev cX8_feed : ByteArray := prog_10_method_18_code
def yX8_feed : MethodName := ⟨RX8, "feed", "(IJ)I"⟩
abbrev cX8_isLetter : ByteArray := prog_10_method_19_code
def yX8_isLetter : MethodName := ⟨RX8, "isLetter", "(I)Z"⟩
abbrev cX8_isDigit : ByteArray := prog_10_method_20_code
def yX8_isDigit : MethodName := ⟨RX8, "isDigit", "(I)Z"⟩
abbrev cX8_wordNow : ByteArray := prog_10_method_21_code
def yX8_wordNow : MethodName := ⟨RX8, "wordNow", "()I"⟩
abbrev cX8_next : ByteArray := prog_10_method_22_code
def yX8_next : MethodName := ⟨RX8, "next", "()V"⟩
abbrev cX8_faulty : ByteArray := prog_10_method_23_code
def yX8_faulty : MethodName := ⟨RX8, "faulty", "()V"⟩
abbrev cX8_isSign : ByteArray := prog_10_method_24_code
def yX8_isSign : MethodName := ⟨RX8, "isSign", "(I)Z"⟩
abbrev cX8_isKey : ByteArray := prog_10_method_25_code
def yX8_isKey : MethodName := ⟨RX8, "isKey", "(I)Z"⟩
abbrev cX8_addStep : ByteArray := prog_10_method_26_code
def yX8_addStep : MethodName := ⟨RX8, "addStep", "(II)V"⟩
abbrev cX8_opens : ByteArray := prog_10_method_27_code
def yX8_opens : MethodName := ⟨RX8, "opens", "()Z"⟩
abbrev cX8_either : ByteArray := prog_10_method_28_code
def yX8_either : MethodName := ⟨RX8, "either", "()V"⟩
abbrev cX8_all : ByteArray := prog_10_method_29_code
def yX8_all : MethodName := ⟨RX8, "all", "()V"⟩
abbrev cX8_denied : ByteArray := prog_10_method_30_code
def yX8_denied : MethodName := ⟨RX8, "denied", "()V"⟩
abbrev cX8_sum : ByteArray := prog_10_method_31_code
def yX8_sum : MethodName := ⟨RX8, "sum", "()V"⟩
abbrev cX8_term : ByteArray := prog_10_method_32_code
def yX8_term : MethodName := ⟨RX8, "term", "()V"⟩
abbrev cX8_one : ByteArray := prog_10_method_33_code
def yX8_one : MethodName := ⟨RX8, "one", "()V"⟩
abbrev cX8_rule : ByteArray := prog_10_method_34_code
def yX8_rule : MethodName := ⟨RX8, "rule", "(I)V"⟩
abbrev cX8_text : ByteArray := prog_10_method_35_code
def yX8_text : MethodName := ⟨RX8, "text", "()I"⟩
abbrev cX8_force : ByteArray := prog_10_method_36_code
def yX8_force : MethodName := ⟨RX8, "force", "(I)I"⟩
abbrev cX8_twoOf : ByteArray := prog_10_method_37_code
def yX8_twoOf : MethodName := ⟨RX8, "twoOf", "(III)I"⟩
abbrev cX8_gives : ByteArray := prog_10_method_38_code
def yX8_gives : MethodName := ⟨RX8, "gives", "(I)I"⟩
abbrev cX8_waitingNow : ByteArray := prog_10_method_39_code
def yX8_waitingNow : MethodName := ⟨RX8, "waitingNow", "()I"⟩
abbrev cX8_findFacts : ByteArray := prog_10_method_40_code
def yX8_findFacts : MethodName := ⟨RX8, "findFacts", "(IIIII)V"⟩
abbrev cX8_goes : ByteArray := prog_10_method_41_code
def yX8_goes : MethodName := ⟨RX8, "goes", "(II)Z"⟩
abbrev cX8_isAhead : ByteArray := prog_10_method_42_code
def yX8_isAhead : MethodName := ⟨RX8, "isAhead", "(IIIII)Z"⟩
abbrev cX8_load : ByteArray := prog_10_method_43_code
def yX8_load : MethodName := ⟨RX8, "load", "(IIII)V"⟩
abbrev cX8_goMinute : ByteArray := prog_10_method_44_code
def yX8_goMinute : MethodName := ⟨RX8, "goMinute", "(II)V"⟩
abbrev cX8_day : ByteArray := prog_10_method_45_code
def yX8_day : MethodName := ⟨RX8, "day", "(II)V"⟩
abbrev cX8_leftOf : ByteArray := prog_10_method_46_code
def yX8_leftOf : MethodName := ⟨RX8, "leftOf", "(I)I"⟩
abbrev cX8_leftOfAll : ByteArray := prog_10_method_47_code
def yX8_leftOfAll : MethodName := ⟨RX8, "leftOfAll", "()I"⟩
abbrev cX8_left : ByteArray := prog_10_method_48_code
def yX8_left : MethodName := ⟨RX8, "left", "(II)I"⟩
abbrev cX8_harmOf : ByteArray := prog_10_method_49_code
def yX8_harmOf : MethodName := ⟨RX8, "harmOf", "(I)J"⟩
abbrev cX8_harm : ByteArray := prog_10_method_50_code
def yX8_harm : MethodName := ⟨RX8, "harm", "(I)J"⟩
abbrev cX8_rode : ByteArray := prog_10_method_51_code
def yX8_rode : MethodName := ⟨RX8, "rode", "(II)I"⟩
abbrev cX8_waits : ByteArray := prog_10_method_52_code
def yX8_waits : MethodName := ⟨RX8, "waits", "(II)I"⟩
abbrev cX8_down : ByteArray := prog_10_method_53_code
def yX8_down : MethodName := ⟨RX8, "down", "(III)I"⟩
abbrev cX8_behind : ByteArray := prog_10_method_54_code
def yX8_behind : MethodName := ⟨RX8, "behind", "(II)I"⟩
abbrev cX8_latest : ByteArray := prog_10_method_55_code
def yX8_latest : MethodName := ⟨RX8, "latest", "(II)I"⟩
abbrev cX8_more : ByteArray := prog_10_method_56_code
def yX8_more : MethodName := ⟨RX8, "more", "(II)I"⟩
abbrev cX8_choose : ByteArray := prog_10_method_57_code
def yX8_choose : MethodName := ⟨RX8, "choose", "(I)J"⟩
abbrev cX8_must : ByteArray := prog_10_method_58_code
def yX8_must : MethodName := ⟨RX8, "must", "()I"⟩
abbrev cX8_latestUp : ByteArray := prog_10_method_59_code
def yX8_latestUp : MethodName := ⟨RX8, "latestUp", "(I)I"⟩
abbrev cX8_judge : ByteArray := prog_10_method_60_code
def yX8_judge : MethodName := ⟨RX8, "judge", "(I)I"⟩
abbrev cX8_image : ByteArray := prog_10_method_61_code
def yX8_image : MethodName := ⟨RX8, "image", "()I"⟩
abbrev cX8_back : ByteArray := prog_10_method_62_code
def yX8_back : MethodName := ⟨RX8, "back", "()I"⟩
abbrev cX8_allUp : ByteArray := prog_10_method_63_code
def yX8_allUp : MethodName := ⟨RX8, "allUp", "()I"⟩
abbrev cX8_count : ByteArray := prog_10_method_64_code
def yX8_count : MethodName := ⟨RX8, "count", "(I)I"⟩
abbrev cX8_isSheet : ByteArray := prog_10_method_65_code
def yX8_isSheet : MethodName := ⟨RX8, "isSheet", "(I)Z"⟩
abbrev cX8_sheet : ByteArray := prog_10_method_66_code
def yX8_sheet : MethodName := ⟨RX8, "sheet", "(III)I"⟩
abbrev cX8_cell : ByteArray := prog_10_method_67_code
def yX8_cell : MethodName := ⟨RX8, "cell", "(III)I"⟩
abbrev cX8_copy : ByteArray := prog_10_method_68_code
def yX8_copy : MethodName := ⟨RX8, "copy", "(IIIII)I"⟩
abbrev cX8_sorts : ByteArray := prog_10_method_69_code
def yX8_sorts : MethodName := ⟨RX8, "sorts", "(IIII)I"⟩
abbrev cX8_isUnder : ByteArray := prog_10_method_70_code
def yX8_isUnder : MethodName := ⟨RX8, "isUnder", "(II)Z"⟩
abbrev cX8_taken : ByteArray := prog_10_method_71_code
def yX8_taken : MethodName := ⟨RX8, "taken", "(II)I"⟩
def RJx145de : String := "java/io/Serializable"
def RJx9f9b0 : String := "java/lang/CharSequence"
def RJxb160c : String := "java/lang/Comparable"
def RJ9 : String := "java/lang/Math"
abbrev cJ9_max_7cf53 : ByteArray := prog_11_method_65_code
def yJ9_max_7cf53 : MethodName := ⟨RJ9, "max", "(II)I"⟩
abbrev cJ9_min_7cf53 : ByteArray := prog_11_method_69_code
def yJ9_min_7cf53 : MethodName := ⟨RJ9, "min", "(II)I"⟩
def RJ0 : String := "java/lang/String"
abbrev cJ0_length_8abf5 : ByteArray := prog_12_method_54_code
def yJ0_length_8abf5 : MethodName := ⟨RJ0, "length", "()I"⟩
abbrev cJ0_charAt_5068e : ByteArray := prog_12_method_56_code
def yJ0_charAt_5068e : MethodName := ⟨RJ0, "charAt", "(I)C"⟩
abbrev cJ0_coder_7d493 : ByteArray := prog_12_method_152_code
def yJ0_coder_7d493 : MethodName := ⟨RJ0, "coder", "()B"⟩
abbrev cJ0_isLatin1_aae02 : ByteArray := prog_12_method_154_code
def yJ0_isLatin1_aae02 : MethodName := ⟨RJ0, "isLatin1", "()Z"⟩
abbrev cJ0_checkIndex_df160 : ByteArray := prog_12_method_155_code
def yJ0_checkIndex_df160 : MethodName := ⟨RJ0, "checkIndex", "(II)V"⟩
def RJ1 : String := "java/lang/StringLatin1"
abbrev cJ1_charAt_3b067 : ByteArray := prog_13_method_2_code
def yJ1_charAt_3b067 : MethodName := ⟨RJ1, "charAt", "([BI)C"⟩
def RJ2 : String := "java/lang/StringUTF16"
abbrev cJ2_getChar_3b067 : ByteArray := prog_14_method_5_code
def yJ2_getChar_3b067 : MethodName := ⟨RJ2, "getChar", "([BI)C"⟩
abbrev cJ2_length_9d52b : ByteArray := prog_14_method_6_code
def yJ2_length_9d52b : MethodName := ⟨RJ2, "length", "([B)I"⟩
abbrev cJ2_charAt_3b067 : ByteArray := prog_14_method_83_code
def yJ2_charAt_3b067 : MethodName := ⟨RJ2, "charAt", "([BI)C"⟩
abbrev cJ2_checkIndex_2214a : ByteArray := prog_14_method_91_code
def yJ2_checkIndex_2214a : MethodName := ⟨RJ2, "checkIndex", "(I[B)V"⟩
def RJ10 : String := "java/lang/System"
def RJxfd54e : String := "java/lang/constant/Constable"
def RJx3cf43 : String := "java/lang/constant/ConstantDesc"
def RJ7 : String := "java/util/Arrays"
abbrev cJ7_fill_53178 : ByteArray := prog_16_method_103_code
def yJ7_fill_53178 : MethodName := ⟨RJ7, "fill", "([II)V"⟩
def RJ3 : String := "jdk/internal/util/Preconditions"
abbrev cJ3_checkIndex_8e157 : ByteArray := prog_17_method_11_code
def yJ3_checkIndex_8e157 : MethodName := ⟨RJ3, "checkIndex", "(IILjava/util/function/BiFunction;)I"⟩
def RL : String := "LastCarLaw"
abbrev cL_law : ByteArray := code
def yL_law : MethodName := ⟨RL, "law", "([I)Z"⟩
abbrev vwCl : List vw_C := [(RX0, TX0, 4), (RX1, TX1, 13), (RX2, TX2, 10), (RX3, TX3, 3), (RX4, TX4, 6), (RX5, TX5, 4), (RX6, TX6, 3), (RX7, TX7, 12), (RX8, TX8, 61)]
end
section
theorem dX8_init_0 : decode cX8_init 0 = .ok (.aload_n 0, 1) := by decide +kernel
theorem dX8_init_1 : decode cX8_init 1 = .ok (.invokespecial 1, 3) := by decide +kernel
theorem dX8_init_4 : decode cX8_init 4 = .ok (.aload_n 0, 1) := by decide +kernel
theorem dX8_init_5 : decode cX8_init 5 = .ok (.bipush 6, 2) := by decide +kernel
theorem dX8_init_7 : decode cX8_init 7 = .ok (.newarray .int, 2) := by decide +kernel
theorem dX8_init_9 : decode cX8_init 9 = .ok (.putfield 7, 3) := by decide +kernel
theorem dX8_init_12 : decode cX8_init 12 = .ok (.aload_n 0, 1) := by decide +kernel
theorem dX8_init_13 : decode cX8_init 13 = .ok (.bipush 6, 2) := by decide +kernel
theorem dX8_init_15 : decode cX8_init 15 = .ok (.newarray .int, 2) := by decide +kernel
theorem dX8_init_17 : decode cX8_init 17 = .ok (.putfield 13, 3) := by decide +kernel
theorem dX8_init_20 : decode cX8_init 20 = .ok (.aload_n 0, 1) := by decide +kernel
theorem dX8_init_21 : decode cX8_init 21 = .ok (.bipush 6, 2) := by decide +kernel
theorem dX8_init_23 : decode cX8_init 23 = .ok (.newarray .int, 2) := by decide +kernel
theorem dX8_init_25 : decode cX8_init 25 = .ok (.putfield 16, 3) := by decide +kernel
theorem dX8_init_28 : decode cX8_init 28 = .ok (.aload_n 0, 1) := by decide +kernel
theorem dX8_init_29 : decode cX8_init 29 = .ok (.bipush 6, 2) := by decide +kernel
theorem dX8_init_31 : decode cX8_init 31 = .ok (.newarray .int, 2) := by decide +kernel
theorem dX8_init_33 : decode cX8_init 33 = .ok (.putfield 19, 3) := by decide +kernel
theorem dX8_init_36 : decode cX8_init 36 = .ok (.aload_n 0, 1) := by decide +kernel
theorem dX8_init_37 : decode cX8_init 37 = .ok (.bipush 24, 2) := by decide +kernel
theorem dX8_init_39 : decode cX8_init 39 = .ok (.newarray .int, 2) := by decide +kernel
theorem dX8_init_41 : decode cX8_init 41 = .ok (.putfield 22, 3) := by decide +kernel
theorem dX8_init_44 : decode cX8_init 44 = .ok (.aload_n 0, 1) := by decide +kernel
theorem dX8_init_45 : decode cX8_init 45 = .ok (.bipush 24, 2) := by decide +kernel
theorem dX8_init_47 : decode cX8_init 47 = .ok (.newarray .int, 2) := by decide +kernel
theorem dX8_init_49 : decode cX8_init 49 = .ok (.putfield 25, 3) := by decide +kernel
theorem dX8_init_52 : decode cX8_init 52 = .ok (.aload_n 0, 1) := by decide +kernel
theorem dX8_init_53 : decode cX8_init 53 = .ok (.bipush 24, 2) := by decide +kernel
theorem dX8_init_55 : decode cX8_init 55 = .ok (.newarray .int, 2) := by decide +kernel
theorem dX8_init_57 : decode cX8_init 57 = .ok (.putfield 28, 3) := by decide +kernel
theorem dX8_init_60 : decode cX8_init 60 = .ok (.aload_n 0, 1) := by decide +kernel
theorem dX8_init_61 : decode cX8_init 61 = .ok (.bipush 8, 2) := by decide +kernel
theorem dX8_init_63 : decode cX8_init 63 = .ok (.newarray .int, 2) := by decide +kernel
theorem dX8_init_65 : decode cX8_init 65 = .ok (.putfield 31, 3) := by decide +kernel
theorem dX8_init_68 : decode cX8_init 68 = .ok (.aload_n 0, 1) := by decide +kernel
theorem dX8_init_69 : decode cX8_init 69 = .ok (.bipush 8, 2) := by decide +kernel
theorem dX8_init_71 : decode cX8_init 71 = .ok (.newarray .int, 2) := by decide +kernel
theorem dX8_init_73 : decode cX8_init 73 = .ok (.putfield 34, 3) := by decide +kernel
theorem dX8_init_76 : decode cX8_init 76 = .ok (.aload_n 0, 1) := by decide +kernel
theorem dX8_init_77 : decode cX8_init 77 = .ok (.bipush 8, 2) := by decide +kernel
theorem dX8_init_79 : decode cX8_init 79 = .ok (.newarray .int, 2) := by decide +kernel
theorem dX8_init_81 : decode cX8_init 81 = .ok (.putfield 37, 3) := by decide +kernel
theorem dX8_init_84 : decode cX8_init 84 = .ok (.aload_n 0, 1) := by decide +kernel
theorem dX8_init_85 : decode cX8_init 85 = .ok (.bipush 120, 2) := by decide +kernel
theorem dX8_init_87 : decode cX8_init 87 = .ok (.newarray .int, 2) := by decide +kernel
theorem dX8_init_89 : decode cX8_init 89 = .ok (.dup, 1) := by decide +kernel
theorem dX8_init_90 : decode cX8_init 90 = .ok (.iconst 0, 1) := by decide +kernel
theorem dX8_init_91 : decode cX8_init 91 = .ok (.iconst 5, 1) := by decide +kernel
theorem dX8_init_92 : decode cX8_init 92 = .ok (.iastore, 1) := by decide +kernel
theorem dX8_init_93 : decode cX8_init 93 = .ok (.dup, 1) := by decide +kernel
theorem dX8_init_94 : decode cX8_init 94 = .ok (.iconst 1, 1) := by decide +kernel
theorem dX8_init_95 : decode cX8_init 95 = .ok (.iconst 5, 1) := by decide +kernel
theorem dX8_init_96 : decode cX8_init 96 = .ok (.iastore, 1) := by decide +kernel
theorem dX8_init_97 : decode cX8_init 97 = .ok (.dup, 1) := by decide +kernel
theorem dX8_init_98 : decode cX8_init 98 = .ok (.iconst 2, 1) := by decide +kernel
theorem dX8_init_99 : decode cX8_init 99 = .ok (.iconst 5, 1) := by decide +kernel
theorem dX8_init_100 : decode cX8_init 100 = .ok (.iastore, 1) := by decide +kernel
theorem dX8_init_101 : decode cX8_init 101 = .ok (.dup, 1) := by decide +kernel
theorem dX8_init_102 : decode cX8_init 102 = .ok (.iconst 3, 1) := by decide +kernel
theorem dX8_init_103 : decode cX8_init 103 = .ok (.iconst 5, 1) := by decide +kernel
theorem dX8_init_104 : decode cX8_init 104 = .ok (.iastore, 1) := by decide +kernel
theorem dX8_init_105 : decode cX8_init 105 = .ok (.dup, 1) := by decide +kernel
theorem dX8_init_106 : decode cX8_init 106 = .ok (.iconst 4, 1) := by decide +kernel
theorem dX8_init_107 : decode cX8_init 107 = .ok (.iconst 5, 1) := by decide +kernel
theorem dX8_init_108 : decode cX8_init 108 = .ok (.iastore, 1) := by decide +kernel
theorem dX8_init_109 : decode cX8_init 109 = .ok (.dup, 1) := by decide +kernel
theorem dX8_init_110 : decode cX8_init 110 = .ok (.iconst 5, 1) := by decide +kernel
theorem dX8_init_111 : decode cX8_init 111 = .ok (.iconst 5, 1) := by decide +kernel
theorem dX8_init_112 : decode cX8_init 112 = .ok (.iastore, 1) := by decide +kernel
theorem dX8_init_113 : decode cX8_init 113 = .ok (.dup, 1) := by decide +kernel
theorem dX8_init_114 : decode cX8_init 114 = .ok (.bipush 6, 2) := by decide +kernel
theorem dX8_init_116 : decode cX8_init 116 = .ok (.iconst 5, 1) := by decide +kernel
theorem dX8_init_117 : decode cX8_init 117 = .ok (.iastore, 1) := by decide +kernel
theorem dX8_init_118 : decode cX8_init 118 = .ok (.dup, 1) := by decide +kernel
theorem dX8_init_119 : decode cX8_init 119 = .ok (.bipush 7, 2) := by decide +kernel
theorem dX8_init_121 : decode cX8_init 121 = .ok (.iconst 5, 1) := by decide +kernel
theorem dX8_init_122 : decode cX8_init 122 = .ok (.iastore, 1) := by decide +kernel
theorem dX8_init_123 : decode cX8_init 123 = .ok (.dup, 1) := by decide +kernel
theorem dX8_init_124 : decode cX8_init 124 = .ok (.bipush 8, 2) := by decide +kernel
theorem dX8_init_126 : decode cX8_init 126 = .ok (.iconst 5, 1) := by decide +kernel
theorem dX8_init_127 : decode cX8_init 127 = .ok (.iastore, 1) := by decide +kernel
theorem dX8_init_128 : decode cX8_init 128 = .ok (.dup, 1) := by decide +kernel
theorem dX8_init_129 : decode cX8_init 129 = .ok (.bipush 9, 2) := by decide +kernel
theorem dX8_init_131 : decode cX8_init 131 = .ok (.iconst 5, 1) := by decide +kernel
theorem dX8_init_132 : decode cX8_init 132 = .ok (.iastore, 1) := by decide +kernel
theorem dX8_init_133 : decode cX8_init 133 = .ok (.dup, 1) := by decide +kernel
theorem dX8_init_134 : decode cX8_init 134 = .ok (.bipush 10, 2) := by decide +kernel
theorem dX8_init_136 : decode cX8_init 136 = .ok (.iconst 5, 1) := by decide +kernel
theorem dX8_init_137 : decode cX8_init 137 = .ok (.iastore, 1) := by decide +kernel
theorem dX8_init_138 : decode cX8_init 138 = .ok (.dup, 1) := by decide +kernel
theorem dX8_init_139 : decode cX8_init 139 = .ok (.bipush 11, 2) := by decide +kernel
theorem dX8_init_141 : decode cX8_init 141 = .ok (.iconst 5, 1) := by decide +kernel
theorem dX8_init_142 : decode cX8_init 142 = .ok (.iastore, 1) := by decide +kernel
theorem dX8_init_143 : decode cX8_init 143 = .ok (.dup, 1) := by decide +kernel
theorem dX8_init_144 : decode cX8_init 144 = .ok (.bipush 12, 2) := by decide +kernel
theorem dX8_init_146 : decode cX8_init 146 = .ok (.iconst 5, 1) := by decide +kernel
theorem dX8_init_147 : decode cX8_init 147 = .ok (.iastore, 1) := by decide +kernel
theorem dX8_init_148 : decode cX8_init 148 = .ok (.dup, 1) := by decide +kernel
theorem dX8_init_149 : decode cX8_init 149 = .ok (.bipush 13, 2) := by decide +kernel
theorem dX8_init_151 : decode cX8_init 151 = .ok (.iconst 5, 1) := by decide +kernel
theorem dX8_init_152 : decode cX8_init 152 = .ok (.iastore, 1) := by decide +kernel
theorem dX8_init_153 : decode cX8_init 153 = .ok (.dup, 1) := by decide +kernel
theorem dX8_init_154 : decode cX8_init 154 = .ok (.bipush 14, 2) := by decide +kernel
theorem dX8_init_156 : decode cX8_init 156 = .ok (.iconst 5, 1) := by decide +kernel
theorem dX8_init_157 : decode cX8_init 157 = .ok (.iastore, 1) := by decide +kernel
theorem dX8_init_158 : decode cX8_init 158 = .ok (.dup, 1) := by decide +kernel
theorem dX8_init_159 : decode cX8_init 159 = .ok (.bipush 15, 2) := by decide +kernel
theorem dX8_init_161 : decode cX8_init 161 = .ok (.iconst 5, 1) := by decide +kernel
theorem dX8_init_162 : decode cX8_init 162 = .ok (.iastore, 1) := by decide +kernel
theorem dX8_init_163 : decode cX8_init 163 = .ok (.dup, 1) := by decide +kernel
theorem dX8_init_164 : decode cX8_init 164 = .ok (.bipush 16, 2) := by decide +kernel
theorem dX8_init_166 : decode cX8_init 166 = .ok (.iconst 5, 1) := by decide +kernel
theorem dX8_init_167 : decode cX8_init 167 = .ok (.iastore, 1) := by decide +kernel
theorem dX8_init_168 : decode cX8_init 168 = .ok (.dup, 1) := by decide +kernel
theorem dX8_init_169 : decode cX8_init 169 = .ok (.bipush 17, 2) := by decide +kernel
theorem dX8_init_171 : decode cX8_init 171 = .ok (.iconst 5, 1) := by decide +kernel
theorem dX8_init_172 : decode cX8_init 172 = .ok (.iastore, 1) := by decide +kernel
theorem dX8_init_173 : decode cX8_init 173 = .ok (.dup, 1) := by decide +kernel
theorem dX8_init_174 : decode cX8_init 174 = .ok (.bipush 18, 2) := by decide +kernel
theorem dX8_init_176 : decode cX8_init 176 = .ok (.iconst 5, 1) := by decide +kernel
theorem dX8_init_177 : decode cX8_init 177 = .ok (.iastore, 1) := by decide +kernel
theorem dX8_init_178 : decode cX8_init 178 = .ok (.dup, 1) := by decide +kernel
theorem dX8_init_179 : decode cX8_init 179 = .ok (.bipush 19, 2) := by decide +kernel
theorem dX8_init_181 : decode cX8_init 181 = .ok (.iconst 5, 1) := by decide +kernel
theorem dX8_init_182 : decode cX8_init 182 = .ok (.iastore, 1) := by decide +kernel
theorem dX8_init_183 : decode cX8_init 183 = .ok (.dup, 1) := by decide +kernel
theorem dX8_init_184 : decode cX8_init 184 = .ok (.bipush 20, 2) := by decide +kernel
theorem dX8_init_186 : decode cX8_init 186 = .ok (.iconst 5, 1) := by decide +kernel
theorem dX8_init_187 : decode cX8_init 187 = .ok (.iastore, 1) := by decide +kernel
theorem dX8_init_188 : decode cX8_init 188 = .ok (.dup, 1) := by decide +kernel
theorem dX8_init_189 : decode cX8_init 189 = .ok (.bipush 21, 2) := by decide +kernel
theorem dX8_init_191 : decode cX8_init 191 = .ok (.iconst 5, 1) := by decide +kernel
theorem dX8_init_192 : decode cX8_init 192 = .ok (.iastore, 1) := by decide +kernel
theorem dX8_init_193 : decode cX8_init 193 = .ok (.dup, 1) := by decide +kernel
theorem dX8_init_194 : decode cX8_init 194 = .ok (.bipush 22, 2) := by decide +kernel
theorem dX8_init_196 : decode cX8_init 196 = .ok (.iconst 5, 1) := by decide +kernel
theorem dX8_init_197 : decode cX8_init 197 = .ok (.iastore, 1) := by decide +kernel
theorem dX8_init_198 : decode cX8_init 198 = .ok (.dup, 1) := by decide +kernel
theorem dX8_init_199 : decode cX8_init 199 = .ok (.bipush 23, 2) := by decide +kernel
theorem dX8_init_201 : decode cX8_init 201 = .ok (.iconst 5, 1) := by decide +kernel
theorem dX8_init_202 : decode cX8_init 202 = .ok (.iastore, 1) := by decide +kernel
theorem dX8_init_203 : decode cX8_init 203 = .ok (.dup, 1) := by decide +kernel
theorem dX8_init_204 : decode cX8_init 204 = .ok (.bipush 24, 2) := by decide +kernel
theorem dX8_init_206 : decode cX8_init 206 = .ok (.iconst 5, 1) := by decide +kernel
theorem dX8_init_207 : decode cX8_init 207 = .ok (.iastore, 1) := by decide +kernel
theorem dX8_init_208 : decode cX8_init 208 = .ok (.dup, 1) := by decide +kernel
theorem dX8_init_209 : decode cX8_init 209 = .ok (.bipush 25, 2) := by decide +kernel
theorem dX8_init_211 : decode cX8_init 211 = .ok (.iconst 5, 1) := by decide +kernel
theorem dX8_init_212 : decode cX8_init 212 = .ok (.iastore, 1) := by decide +kernel
theorem dX8_init_213 : decode cX8_init 213 = .ok (.dup, 1) := by decide +kernel
theorem dX8_init_214 : decode cX8_init 214 = .ok (.bipush 26, 2) := by decide +kernel
theorem dX8_init_216 : decode cX8_init 216 = .ok (.iconst 5, 1) := by decide +kernel
theorem dX8_init_217 : decode cX8_init 217 = .ok (.iastore, 1) := by decide +kernel
theorem dX8_init_218 : decode cX8_init 218 = .ok (.dup, 1) := by decide +kernel
theorem dX8_init_219 : decode cX8_init 219 = .ok (.bipush 27, 2) := by decide +kernel
theorem dX8_init_221 : decode cX8_init 221 = .ok (.iconst 5, 1) := by decide +kernel
theorem dX8_init_222 : decode cX8_init 222 = .ok (.iastore, 1) := by decide +kernel
theorem dX8_init_223 : decode cX8_init 223 = .ok (.dup, 1) := by decide +kernel
theorem dX8_init_224 : decode cX8_init 224 = .ok (.bipush 28, 2) := by decide +kernel
theorem dX8_init_226 : decode cX8_init 226 = .ok (.iconst 5, 1) := by decide +kernel
theorem dX8_init_227 : decode cX8_init 227 = .ok (.iastore, 1) := by decide +kernel
theorem dX8_init_228 : decode cX8_init 228 = .ok (.dup, 1) := by decide +kernel
theorem dX8_init_229 : decode cX8_init 229 = .ok (.bipush 29, 2) := by decide +kernel
theorem dX8_init_231 : decode cX8_init 231 = .ok (.iconst 5, 1) := by decide +kernel
theorem dX8_init_232 : decode cX8_init 232 = .ok (.iastore, 1) := by decide +kernel
theorem dX8_init_233 : decode cX8_init 233 = .ok (.dup, 1) := by decide +kernel
theorem dX8_init_234 : decode cX8_init 234 = .ok (.bipush 30, 2) := by decide +kernel
theorem dX8_init_236 : decode cX8_init 236 = .ok (.iconst 5, 1) := by decide +kernel
theorem dX8_init_237 : decode cX8_init 237 = .ok (.iastore, 1) := by decide +kernel
theorem dX8_init_238 : decode cX8_init 238 = .ok (.dup, 1) := by decide +kernel
theorem dX8_init_239 : decode cX8_init 239 = .ok (.bipush 31, 2) := by decide +kernel
theorem dX8_init_241 : decode cX8_init 241 = .ok (.iconst 5, 1) := by decide +kernel
theorem dX8_init_242 : decode cX8_init 242 = .ok (.iastore, 1) := by decide +kernel
theorem dX8_init_243 : decode cX8_init 243 = .ok (.dup, 1) := by decide +kernel
theorem dX8_init_244 : decode cX8_init 244 = .ok (.bipush 32, 2) := by decide +kernel
theorem dX8_init_246 : decode cX8_init 246 = .ok (.iconst 5, 1) := by decide +kernel
theorem dX8_init_247 : decode cX8_init 247 = .ok (.iastore, 1) := by decide +kernel
theorem dX8_init_248 : decode cX8_init 248 = .ok (.dup, 1) := by decide +kernel
theorem dX8_init_249 : decode cX8_init 249 = .ok (.bipush 33, 2) := by decide +kernel
theorem dX8_init_251 : decode cX8_init 251 = .ok (.iconst 5, 1) := by decide +kernel
theorem dX8_init_252 : decode cX8_init 252 = .ok (.iastore, 1) := by decide +kernel
theorem dX8_init_253 : decode cX8_init 253 = .ok (.dup, 1) := by decide +kernel
theorem dX8_init_254 : decode cX8_init 254 = .ok (.bipush 34, 2) := by decide +kernel
theorem dX8_init_256 : decode cX8_init 256 = .ok (.iconst 5, 1) := by decide +kernel
theorem dX8_init_257 : decode cX8_init 257 = .ok (.iastore, 1) := by decide +kernel
theorem dX8_init_258 : decode cX8_init 258 = .ok (.dup, 1) := by decide +kernel
theorem dX8_init_259 : decode cX8_init 259 = .ok (.bipush 35, 2) := by decide +kernel
theorem dX8_init_261 : decode cX8_init 261 = .ok (.iconst 5, 1) := by decide +kernel
theorem dX8_init_262 : decode cX8_init 262 = .ok (.iastore, 1) := by decide +kernel
theorem dX8_init_263 : decode cX8_init 263 = .ok (.dup, 1) := by decide +kernel
theorem dX8_init_264 : decode cX8_init 264 = .ok (.bipush 36, 2) := by decide +kernel
theorem dX8_init_266 : decode cX8_init 266 = .ok (.iconst 5, 1) := by decide +kernel
theorem dX8_init_267 : decode cX8_init 267 = .ok (.iastore, 1) := by decide +kernel
theorem dX8_init_268 : decode cX8_init 268 = .ok (.dup, 1) := by decide +kernel
theorem dX8_init_269 : decode cX8_init 269 = .ok (.bipush 37, 2) := by decide +kernel
theorem dX8_init_271 : decode cX8_init 271 = .ok (.iconst 5, 1) := by decide +kernel
theorem dX8_init_272 : decode cX8_init 272 = .ok (.iastore, 1) := by decide +kernel
theorem dX8_init_273 : decode cX8_init 273 = .ok (.dup, 1) := by decide +kernel
theorem dX8_init_274 : decode cX8_init 274 = .ok (.bipush 38, 2) := by decide +kernel
theorem dX8_init_276 : decode cX8_init 276 = .ok (.iconst 5, 1) := by decide +kernel
theorem dX8_init_277 : decode cX8_init 277 = .ok (.iastore, 1) := by decide +kernel
theorem dX8_init_278 : decode cX8_init 278 = .ok (.dup, 1) := by decide +kernel
theorem dX8_init_279 : decode cX8_init 279 = .ok (.bipush 39, 2) := by decide +kernel
theorem dX8_init_281 : decode cX8_init 281 = .ok (.iconst 5, 1) := by decide +kernel
theorem dX8_init_282 : decode cX8_init 282 = .ok (.iastore, 1) := by decide +kernel
theorem dX8_init_283 : decode cX8_init 283 = .ok (.dup, 1) := by decide +kernel
theorem dX8_init_284 : decode cX8_init 284 = .ok (.bipush 40, 2) := by decide +kernel
theorem dX8_init_286 : decode cX8_init 286 = .ok (.iconst 5, 1) := by decide +kernel
theorem dX8_init_287 : decode cX8_init 287 = .ok (.iastore, 1) := by decide +kernel
theorem dX8_init_288 : decode cX8_init 288 = .ok (.dup, 1) := by decide +kernel
theorem dX8_init_289 : decode cX8_init 289 = .ok (.bipush 41, 2) := by decide +kernel
theorem dX8_init_291 : decode cX8_init 291 = .ok (.iconst 5, 1) := by decide +kernel
theorem dX8_init_292 : decode cX8_init 292 = .ok (.iastore, 1) := by decide +kernel
theorem dX8_init_293 : decode cX8_init 293 = .ok (.dup, 1) := by decide +kernel
theorem dX8_init_294 : decode cX8_init 294 = .ok (.bipush 42, 2) := by decide +kernel
theorem dX8_init_296 : decode cX8_init 296 = .ok (.iconst 5, 1) := by decide +kernel
theorem dX8_init_297 : decode cX8_init 297 = .ok (.iastore, 1) := by decide +kernel
theorem dX8_init_298 : decode cX8_init 298 = .ok (.dup, 1) := by decide +kernel
theorem dX8_init_299 : decode cX8_init 299 = .ok (.bipush 43, 2) := by decide +kernel
theorem dX8_init_301 : decode cX8_init 301 = .ok (.iconst 5, 1) := by decide +kernel
theorem dX8_init_302 : decode cX8_init 302 = .ok (.iastore, 1) := by decide +kernel
theorem dX8_init_303 : decode cX8_init 303 = .ok (.dup, 1) := by decide +kernel
theorem dX8_init_304 : decode cX8_init 304 = .ok (.bipush 44, 2) := by decide +kernel
theorem dX8_init_306 : decode cX8_init 306 = .ok (.iconst 5, 1) := by decide +kernel
theorem dX8_init_307 : decode cX8_init 307 = .ok (.iastore, 1) := by decide +kernel
theorem dX8_init_308 : decode cX8_init 308 = .ok (.dup, 1) := by decide +kernel
theorem dX8_init_309 : decode cX8_init 309 = .ok (.bipush 45, 2) := by decide +kernel
theorem dX8_init_311 : decode cX8_init 311 = .ok (.iconst 5, 1) := by decide +kernel
theorem dX8_init_312 : decode cX8_init 312 = .ok (.iastore, 1) := by decide +kernel
theorem dX8_init_313 : decode cX8_init 313 = .ok (.dup, 1) := by decide +kernel
theorem dX8_init_314 : decode cX8_init 314 = .ok (.bipush 46, 2) := by decide +kernel
theorem dX8_init_316 : decode cX8_init 316 = .ok (.iconst 5, 1) := by decide +kernel
theorem dX8_init_317 : decode cX8_init 317 = .ok (.iastore, 1) := by decide +kernel
theorem dX8_init_318 : decode cX8_init 318 = .ok (.dup, 1) := by decide +kernel
theorem dX8_init_319 : decode cX8_init 319 = .ok (.bipush 47, 2) := by decide +kernel
theorem dX8_init_321 : decode cX8_init 321 = .ok (.iconst 5, 1) := by decide +kernel
theorem dX8_init_322 : decode cX8_init 322 = .ok (.iastore, 1) := by decide +kernel
theorem dX8_init_323 : decode cX8_init 323 = .ok (.dup, 1) := by decide +kernel
theorem dX8_init_324 : decode cX8_init 324 = .ok (.bipush 48, 2) := by decide +kernel
theorem dX8_init_326 : decode cX8_init 326 = .ok (.iconst 5, 1) := by decide +kernel
theorem dX8_init_327 : decode cX8_init 327 = .ok (.iastore, 1) := by decide +kernel
theorem dX8_init_328 : decode cX8_init 328 = .ok (.dup, 1) := by decide +kernel
theorem dX8_init_329 : decode cX8_init 329 = .ok (.bipush 49, 2) := by decide +kernel
theorem dX8_init_331 : decode cX8_init 331 = .ok (.iconst 5, 1) := by decide +kernel
theorem dX8_init_332 : decode cX8_init 332 = .ok (.iastore, 1) := by decide +kernel
theorem dX8_init_333 : decode cX8_init 333 = .ok (.dup, 1) := by decide +kernel
theorem dX8_init_334 : decode cX8_init 334 = .ok (.bipush 50, 2) := by decide +kernel
theorem dX8_init_336 : decode cX8_init 336 = .ok (.iconst 5, 1) := by decide +kernel
theorem dX8_init_337 : decode cX8_init 337 = .ok (.iastore, 1) := by decide +kernel
theorem dX8_init_338 : decode cX8_init 338 = .ok (.dup, 1) := by decide +kernel
theorem dX8_init_339 : decode cX8_init 339 = .ok (.bipush 51, 2) := by decide +kernel
theorem dX8_init_341 : decode cX8_init 341 = .ok (.iconst 5, 1) := by decide +kernel
theorem dX8_init_342 : decode cX8_init 342 = .ok (.iastore, 1) := by decide +kernel
theorem dX8_init_343 : decode cX8_init 343 = .ok (.dup, 1) := by decide +kernel
theorem dX8_init_344 : decode cX8_init 344 = .ok (.bipush 52, 2) := by decide +kernel
theorem dX8_init_346 : decode cX8_init 346 = .ok (.iconst 5, 1) := by decide +kernel
theorem dX8_init_347 : decode cX8_init 347 = .ok (.iastore, 1) := by decide +kernel
theorem dX8_init_348 : decode cX8_init 348 = .ok (.dup, 1) := by decide +kernel
theorem dX8_init_349 : decode cX8_init 349 = .ok (.bipush 53, 2) := by decide +kernel
theorem dX8_init_351 : decode cX8_init 351 = .ok (.iconst 5, 1) := by decide +kernel
theorem dX8_init_352 : decode cX8_init 352 = .ok (.iastore, 1) := by decide +kernel
theorem dX8_init_353 : decode cX8_init 353 = .ok (.dup, 1) := by decide +kernel
theorem dX8_init_354 : decode cX8_init 354 = .ok (.bipush 54, 2) := by decide +kernel
theorem dX8_init_356 : decode cX8_init 356 = .ok (.iconst 5, 1) := by decide +kernel
theorem dX8_init_357 : decode cX8_init 357 = .ok (.iastore, 1) := by decide +kernel
theorem dX8_init_358 : decode cX8_init 358 = .ok (.dup, 1) := by decide +kernel
theorem dX8_init_359 : decode cX8_init 359 = .ok (.bipush 55, 2) := by decide +kernel
theorem dX8_init_361 : decode cX8_init 361 = .ok (.iconst 5, 1) := by decide +kernel
theorem dX8_init_362 : decode cX8_init 362 = .ok (.iastore, 1) := by decide +kernel
theorem dX8_init_363 : decode cX8_init 363 = .ok (.dup, 1) := by decide +kernel
theorem dX8_init_364 : decode cX8_init 364 = .ok (.bipush 56, 2) := by decide +kernel
theorem dX8_init_366 : decode cX8_init 366 = .ok (.iconst 5, 1) := by decide +kernel
theorem dX8_init_367 : decode cX8_init 367 = .ok (.iastore, 1) := by decide +kernel
theorem dX8_init_368 : decode cX8_init 368 = .ok (.dup, 1) := by decide +kernel
theorem dX8_init_369 : decode cX8_init 369 = .ok (.bipush 57, 2) := by decide +kernel
theorem dX8_init_371 : decode cX8_init 371 = .ok (.iconst 5, 1) := by decide +kernel
theorem dX8_init_372 : decode cX8_init 372 = .ok (.iastore, 1) := by decide +kernel
theorem dX8_init_373 : decode cX8_init 373 = .ok (.dup, 1) := by decide +kernel
theorem dX8_init_374 : decode cX8_init 374 = .ok (.bipush 58, 2) := by decide +kernel
theorem dX8_init_376 : decode cX8_init 376 = .ok (.iconst 5, 1) := by decide +kernel
theorem dX8_init_377 : decode cX8_init 377 = .ok (.iastore, 1) := by decide +kernel
theorem dX8_init_378 : decode cX8_init 378 = .ok (.dup, 1) := by decide +kernel
theorem dX8_init_379 : decode cX8_init 379 = .ok (.bipush 59, 2) := by decide +kernel
theorem dX8_init_381 : decode cX8_init 381 = .ok (.iconst 5, 1) := by decide +kernel
theorem dX8_init_382 : decode cX8_init 382 = .ok (.iastore, 1) := by decide +kernel
theorem dX8_init_383 : decode cX8_init 383 = .ok (.dup, 1) := by decide +kernel
theorem dX8_init_384 : decode cX8_init 384 = .ok (.bipush 60, 2) := by decide +kernel
theorem dX8_init_386 : decode cX8_init 386 = .ok (.iconst 5, 1) := by decide +kernel
theorem dX8_init_387 : decode cX8_init 387 = .ok (.iastore, 1) := by decide +kernel
theorem dX8_init_388 : decode cX8_init 388 = .ok (.dup, 1) := by decide +kernel
theorem dX8_init_389 : decode cX8_init 389 = .ok (.bipush 61, 2) := by decide +kernel
theorem dX8_init_391 : decode cX8_init 391 = .ok (.iconst 5, 1) := by decide +kernel
theorem dX8_init_392 : decode cX8_init 392 = .ok (.iastore, 1) := by decide +kernel
theorem dX8_init_393 : decode cX8_init 393 = .ok (.dup, 1) := by decide +kernel
theorem dX8_init_394 : decode cX8_init 394 = .ok (.bipush 62, 2) := by decide +kernel
theorem dX8_init_396 : decode cX8_init 396 = .ok (.iconst 5, 1) := by decide +kernel
theorem dX8_init_397 : decode cX8_init 397 = .ok (.iastore, 1) := by decide +kernel
theorem dX8_init_398 : decode cX8_init 398 = .ok (.dup, 1) := by decide +kernel
theorem dX8_init_399 : decode cX8_init 399 = .ok (.bipush 63, 2) := by decide +kernel
theorem dX8_init_401 : decode cX8_init 401 = .ok (.iconst 5, 1) := by decide +kernel
theorem dX8_init_402 : decode cX8_init 402 = .ok (.iastore, 1) := by decide +kernel
theorem dX8_init_403 : decode cX8_init 403 = .ok (.dup, 1) := by decide +kernel
theorem dX8_init_404 : decode cX8_init 404 = .ok (.bipush 64, 2) := by decide +kernel
theorem dX8_init_406 : decode cX8_init 406 = .ok (.iconst 5, 1) := by decide +kernel
theorem dX8_init_407 : decode cX8_init 407 = .ok (.iastore, 1) := by decide +kernel
theorem dX8_init_408 : decode cX8_init 408 = .ok (.dup, 1) := by decide +kernel
theorem dX8_init_409 : decode cX8_init 409 = .ok (.bipush 65, 2) := by decide +kernel
theorem dX8_init_411 : decode cX8_init 411 = .ok (.iconst 5, 1) := by decide +kernel
theorem dX8_init_412 : decode cX8_init 412 = .ok (.iastore, 1) := by decide +kernel
theorem dX8_init_413 : decode cX8_init 413 = .ok (.dup, 1) := by decide +kernel
theorem dX8_init_414 : decode cX8_init 414 = .ok (.bipush 66, 2) := by decide +kernel
theorem dX8_init_416 : decode cX8_init 416 = .ok (.iconst 5, 1) := by decide +kernel
theorem dX8_init_417 : decode cX8_init 417 = .ok (.iastore, 1) := by decide +kernel
theorem dX8_init_418 : decode cX8_init 418 = .ok (.dup, 1) := by decide +kernel
theorem dX8_init_419 : decode cX8_init 419 = .ok (.bipush 67, 2) := by decide +kernel
theorem dX8_init_421 : decode cX8_init 421 = .ok (.iconst 5, 1) := by decide +kernel
theorem dX8_init_422 : decode cX8_init 422 = .ok (.iastore, 1) := by decide +kernel
theorem dX8_init_423 : decode cX8_init 423 = .ok (.dup, 1) := by decide +kernel
theorem dX8_init_424 : decode cX8_init 424 = .ok (.bipush 68, 2) := by decide +kernel
theorem dX8_init_426 : decode cX8_init 426 = .ok (.iconst 5, 1) := by decide +kernel
theorem dX8_init_427 : decode cX8_init 427 = .ok (.iastore, 1) := by decide +kernel
theorem dX8_init_428 : decode cX8_init 428 = .ok (.dup, 1) := by decide +kernel
theorem dX8_init_429 : decode cX8_init 429 = .ok (.bipush 69, 2) := by decide +kernel
theorem dX8_init_431 : decode cX8_init 431 = .ok (.iconst 5, 1) := by decide +kernel
theorem dX8_init_432 : decode cX8_init 432 = .ok (.iastore, 1) := by decide +kernel
theorem dX8_init_433 : decode cX8_init 433 = .ok (.dup, 1) := by decide +kernel
theorem dX8_init_434 : decode cX8_init 434 = .ok (.bipush 70, 2) := by decide +kernel
theorem dX8_init_436 : decode cX8_init 436 = .ok (.iconst 5, 1) := by decide +kernel
theorem dX8_init_437 : decode cX8_init 437 = .ok (.iastore, 1) := by decide +kernel
theorem dX8_init_438 : decode cX8_init 438 = .ok (.dup, 1) := by decide +kernel
theorem dX8_init_439 : decode cX8_init 439 = .ok (.bipush 71, 2) := by decide +kernel
theorem dX8_init_441 : decode cX8_init 441 = .ok (.iconst 5, 1) := by decide +kernel
theorem dX8_init_442 : decode cX8_init 442 = .ok (.iastore, 1) := by decide +kernel
theorem dX8_init_443 : decode cX8_init 443 = .ok (.dup, 1) := by decide +kernel
theorem dX8_init_444 : decode cX8_init 444 = .ok (.bipush 72, 2) := by decide +kernel
theorem dX8_init_446 : decode cX8_init 446 = .ok (.iconst 5, 1) := by decide +kernel
theorem dX8_init_447 : decode cX8_init 447 = .ok (.iastore, 1) := by decide +kernel
theorem dX8_init_448 : decode cX8_init 448 = .ok (.dup, 1) := by decide +kernel
theorem dX8_init_449 : decode cX8_init 449 = .ok (.bipush 73, 2) := by decide +kernel
theorem dX8_init_451 : decode cX8_init 451 = .ok (.iconst 5, 1) := by decide +kernel
theorem dX8_init_452 : decode cX8_init 452 = .ok (.iastore, 1) := by decide +kernel
theorem dX8_init_453 : decode cX8_init 453 = .ok (.dup, 1) := by decide +kernel
theorem dX8_init_454 : decode cX8_init 454 = .ok (.bipush 74, 2) := by decide +kernel
theorem dX8_init_456 : decode cX8_init 456 = .ok (.iconst 5, 1) := by decide +kernel
theorem dX8_init_457 : decode cX8_init 457 = .ok (.iastore, 1) := by decide +kernel
theorem dX8_init_458 : decode cX8_init 458 = .ok (.dup, 1) := by decide +kernel
theorem dX8_init_459 : decode cX8_init 459 = .ok (.bipush 75, 2) := by decide +kernel
theorem dX8_init_461 : decode cX8_init 461 = .ok (.iconst 5, 1) := by decide +kernel
theorem dX8_init_462 : decode cX8_init 462 = .ok (.iastore, 1) := by decide +kernel
theorem dX8_init_463 : decode cX8_init 463 = .ok (.dup, 1) := by decide +kernel
theorem dX8_init_464 : decode cX8_init 464 = .ok (.bipush 76, 2) := by decide +kernel
theorem dX8_init_466 : decode cX8_init 466 = .ok (.iconst 5, 1) := by decide +kernel
theorem dX8_init_467 : decode cX8_init 467 = .ok (.iastore, 1) := by decide +kernel
theorem dX8_init_468 : decode cX8_init 468 = .ok (.dup, 1) := by decide +kernel
theorem dX8_init_469 : decode cX8_init 469 = .ok (.bipush 77, 2) := by decide +kernel
theorem dX8_init_471 : decode cX8_init 471 = .ok (.iconst 5, 1) := by decide +kernel
theorem dX8_init_472 : decode cX8_init 472 = .ok (.iastore, 1) := by decide +kernel
theorem dX8_init_473 : decode cX8_init 473 = .ok (.dup, 1) := by decide +kernel
theorem dX8_init_474 : decode cX8_init 474 = .ok (.bipush 78, 2) := by decide +kernel
theorem dX8_init_476 : decode cX8_init 476 = .ok (.iconst 5, 1) := by decide +kernel
theorem dX8_init_477 : decode cX8_init 477 = .ok (.iastore, 1) := by decide +kernel
theorem dX8_init_478 : decode cX8_init 478 = .ok (.dup, 1) := by decide +kernel
theorem dX8_init_479 : decode cX8_init 479 = .ok (.bipush 79, 2) := by decide +kernel
theorem dX8_init_481 : decode cX8_init 481 = .ok (.iconst 5, 1) := by decide +kernel
theorem dX8_init_482 : decode cX8_init 482 = .ok (.iastore, 1) := by decide +kernel
theorem dX8_init_483 : decode cX8_init 483 = .ok (.dup, 1) := by decide +kernel
theorem dX8_init_484 : decode cX8_init 484 = .ok (.bipush 80, 2) := by decide +kernel
theorem dX8_init_486 : decode cX8_init 486 = .ok (.iconst 5, 1) := by decide +kernel
theorem dX8_init_487 : decode cX8_init 487 = .ok (.iastore, 1) := by decide +kernel
theorem dX8_init_488 : decode cX8_init 488 = .ok (.dup, 1) := by decide +kernel
theorem dX8_init_489 : decode cX8_init 489 = .ok (.bipush 81, 2) := by decide +kernel
theorem dX8_init_491 : decode cX8_init 491 = .ok (.iconst 5, 1) := by decide +kernel
theorem dX8_init_492 : decode cX8_init 492 = .ok (.iastore, 1) := by decide +kernel
theorem dX8_init_493 : decode cX8_init 493 = .ok (.dup, 1) := by decide +kernel
theorem dX8_init_494 : decode cX8_init 494 = .ok (.bipush 82, 2) := by decide +kernel
theorem dX8_init_496 : decode cX8_init 496 = .ok (.iconst 5, 1) := by decide +kernel
theorem dX8_init_497 : decode cX8_init 497 = .ok (.iastore, 1) := by decide +kernel
theorem dX8_init_498 : decode cX8_init 498 = .ok (.dup, 1) := by decide +kernel
theorem dX8_init_499 : decode cX8_init 499 = .ok (.bipush 83, 2) := by decide +kernel
theorem dX8_init_501 : decode cX8_init 501 = .ok (.iconst 5, 1) := by decide +kernel
theorem dX8_init_502 : decode cX8_init 502 = .ok (.iastore, 1) := by decide +kernel
theorem dX8_init_503 : decode cX8_init 503 = .ok (.dup, 1) := by decide +kernel
theorem dX8_init_504 : decode cX8_init 504 = .ok (.bipush 84, 2) := by decide +kernel
theorem dX8_init_506 : decode cX8_init 506 = .ok (.iconst 5, 1) := by decide +kernel
theorem dX8_init_507 : decode cX8_init 507 = .ok (.iastore, 1) := by decide +kernel
theorem dX8_init_508 : decode cX8_init 508 = .ok (.dup, 1) := by decide +kernel
theorem dX8_init_509 : decode cX8_init 509 = .ok (.bipush 85, 2) := by decide +kernel
theorem dX8_init_511 : decode cX8_init 511 = .ok (.iconst 5, 1) := by decide +kernel
theorem dX8_init_512 : decode cX8_init 512 = .ok (.iastore, 1) := by decide +kernel
theorem dX8_init_513 : decode cX8_init 513 = .ok (.dup, 1) := by decide +kernel
theorem dX8_init_514 : decode cX8_init 514 = .ok (.bipush 86, 2) := by decide +kernel
theorem dX8_init_516 : decode cX8_init 516 = .ok (.iconst 5, 1) := by decide +kernel
theorem dX8_init_517 : decode cX8_init 517 = .ok (.iastore, 1) := by decide +kernel
theorem dX8_init_518 : decode cX8_init 518 = .ok (.dup, 1) := by decide +kernel
theorem dX8_init_519 : decode cX8_init 519 = .ok (.bipush 87, 2) := by decide +kernel
theorem dX8_init_521 : decode cX8_init 521 = .ok (.iconst 5, 1) := by decide +kernel
theorem dX8_init_522 : decode cX8_init 522 = .ok (.iastore, 1) := by decide +kernel
theorem dX8_init_523 : decode cX8_init 523 = .ok (.dup, 1) := by decide +kernel
theorem dX8_init_524 : decode cX8_init 524 = .ok (.bipush 88, 2) := by decide +kernel
theorem dX8_init_526 : decode cX8_init 526 = .ok (.iconst 5, 1) := by decide +kernel
theorem dX8_init_527 : decode cX8_init 527 = .ok (.iastore, 1) := by decide +kernel
theorem dX8_init_528 : decode cX8_init 528 = .ok (.dup, 1) := by decide +kernel
theorem dX8_init_529 : decode cX8_init 529 = .ok (.bipush 89, 2) := by decide +kernel
theorem dX8_init_531 : decode cX8_init 531 = .ok (.iconst 5, 1) := by decide +kernel
theorem dX8_init_532 : decode cX8_init 532 = .ok (.iastore, 1) := by decide +kernel
theorem dX8_init_533 : decode cX8_init 533 = .ok (.dup, 1) := by decide +kernel
theorem dX8_init_534 : decode cX8_init 534 = .ok (.bipush 90, 2) := by decide +kernel
theorem dX8_init_536 : decode cX8_init 536 = .ok (.iconst 5, 1) := by decide +kernel
theorem dX8_init_537 : decode cX8_init 537 = .ok (.iastore, 1) := by decide +kernel
theorem dX8_init_538 : decode cX8_init 538 = .ok (.dup, 1) := by decide +kernel
theorem dX8_init_539 : decode cX8_init 539 = .ok (.bipush 91, 2) := by decide +kernel
theorem dX8_init_541 : decode cX8_init 541 = .ok (.iconst 5, 1) := by decide +kernel
theorem dX8_init_542 : decode cX8_init 542 = .ok (.iastore, 1) := by decide +kernel
theorem dX8_init_543 : decode cX8_init 543 = .ok (.dup, 1) := by decide +kernel
theorem dX8_init_544 : decode cX8_init 544 = .ok (.bipush 92, 2) := by decide +kernel
theorem dX8_init_546 : decode cX8_init 546 = .ok (.iconst 5, 1) := by decide +kernel
theorem dX8_init_547 : decode cX8_init 547 = .ok (.iastore, 1) := by decide +kernel
theorem dX8_init_548 : decode cX8_init 548 = .ok (.dup, 1) := by decide +kernel
theorem dX8_init_549 : decode cX8_init 549 = .ok (.bipush 93, 2) := by decide +kernel
theorem dX8_init_551 : decode cX8_init 551 = .ok (.iconst 5, 1) := by decide +kernel
theorem dX8_init_552 : decode cX8_init 552 = .ok (.iastore, 1) := by decide +kernel
theorem dX8_init_553 : decode cX8_init 553 = .ok (.dup, 1) := by decide +kernel
theorem dX8_init_554 : decode cX8_init 554 = .ok (.bipush 94, 2) := by decide +kernel
theorem dX8_init_556 : decode cX8_init 556 = .ok (.iconst 5, 1) := by decide +kernel
theorem dX8_init_557 : decode cX8_init 557 = .ok (.iastore, 1) := by decide +kernel
theorem dX8_init_558 : decode cX8_init 558 = .ok (.dup, 1) := by decide +kernel
theorem dX8_init_559 : decode cX8_init 559 = .ok (.bipush 95, 2) := by decide +kernel
theorem dX8_init_561 : decode cX8_init 561 = .ok (.iconst 5, 1) := by decide +kernel
theorem dX8_init_562 : decode cX8_init 562 = .ok (.iastore, 1) := by decide +kernel
theorem dX8_init_563 : decode cX8_init 563 = .ok (.dup, 1) := by decide +kernel
theorem dX8_init_564 : decode cX8_init 564 = .ok (.bipush 96, 2) := by decide +kernel
theorem dX8_init_566 : decode cX8_init 566 = .ok (.iconst 5, 1) := by decide +kernel
theorem dX8_init_567 : decode cX8_init 567 = .ok (.iastore, 1) := by decide +kernel
theorem dX8_init_568 : decode cX8_init 568 = .ok (.dup, 1) := by decide +kernel
theorem dX8_init_569 : decode cX8_init 569 = .ok (.bipush 97, 2) := by decide +kernel
theorem dX8_init_571 : decode cX8_init 571 = .ok (.iconst 5, 1) := by decide +kernel
theorem dX8_init_572 : decode cX8_init 572 = .ok (.iastore, 1) := by decide +kernel
theorem dX8_init_573 : decode cX8_init 573 = .ok (.dup, 1) := by decide +kernel
theorem dX8_init_574 : decode cX8_init 574 = .ok (.bipush 98, 2) := by decide +kernel
theorem dX8_init_576 : decode cX8_init 576 = .ok (.iconst 5, 1) := by decide +kernel
theorem dX8_init_577 : decode cX8_init 577 = .ok (.iastore, 1) := by decide +kernel
theorem dX8_init_578 : decode cX8_init 578 = .ok (.dup, 1) := by decide +kernel
theorem dX8_init_579 : decode cX8_init 579 = .ok (.bipush 99, 2) := by decide +kernel
theorem dX8_init_581 : decode cX8_init 581 = .ok (.iconst 5, 1) := by decide +kernel
theorem dX8_init_582 : decode cX8_init 582 = .ok (.iastore, 1) := by decide +kernel
theorem dX8_init_583 : decode cX8_init 583 = .ok (.dup, 1) := by decide +kernel
theorem dX8_init_584 : decode cX8_init 584 = .ok (.bipush 100, 2) := by decide +kernel
theorem dX8_init_586 : decode cX8_init 586 = .ok (.iconst 5, 1) := by decide +kernel
theorem dX8_init_587 : decode cX8_init 587 = .ok (.iastore, 1) := by decide +kernel
theorem dX8_init_588 : decode cX8_init 588 = .ok (.dup, 1) := by decide +kernel
theorem dX8_init_589 : decode cX8_init 589 = .ok (.bipush 101, 2) := by decide +kernel
theorem dX8_init_591 : decode cX8_init 591 = .ok (.iconst 5, 1) := by decide +kernel
theorem dX8_init_592 : decode cX8_init 592 = .ok (.iastore, 1) := by decide +kernel
theorem dX8_init_593 : decode cX8_init 593 = .ok (.dup, 1) := by decide +kernel
theorem dX8_init_594 : decode cX8_init 594 = .ok (.bipush 102, 2) := by decide +kernel
theorem dX8_init_596 : decode cX8_init 596 = .ok (.iconst 5, 1) := by decide +kernel
theorem dX8_init_597 : decode cX8_init 597 = .ok (.iastore, 1) := by decide +kernel
theorem dX8_init_598 : decode cX8_init 598 = .ok (.dup, 1) := by decide +kernel
theorem dX8_init_599 : decode cX8_init 599 = .ok (.bipush 103, 2) := by decide +kernel
theorem dX8_init_601 : decode cX8_init 601 = .ok (.iconst 5, 1) := by decide +kernel
theorem dX8_init_602 : decode cX8_init 602 = .ok (.iastore, 1) := by decide +kernel
theorem dX8_init_603 : decode cX8_init 603 = .ok (.dup, 1) := by decide +kernel
theorem dX8_init_604 : decode cX8_init 604 = .ok (.bipush 104, 2) := by decide +kernel
theorem dX8_init_606 : decode cX8_init 606 = .ok (.iconst 5, 1) := by decide +kernel
theorem dX8_init_607 : decode cX8_init 607 = .ok (.iastore, 1) := by decide +kernel
theorem dX8_init_608 : decode cX8_init 608 = .ok (.dup, 1) := by decide +kernel
theorem dX8_init_609 : decode cX8_init 609 = .ok (.bipush 105, 2) := by decide +kernel
theorem dX8_init_611 : decode cX8_init 611 = .ok (.iconst 5, 1) := by decide +kernel
theorem dX8_init_612 : decode cX8_init 612 = .ok (.iastore, 1) := by decide +kernel
theorem dX8_init_613 : decode cX8_init 613 = .ok (.dup, 1) := by decide +kernel
theorem dX8_init_614 : decode cX8_init 614 = .ok (.bipush 106, 2) := by decide +kernel
theorem dX8_init_616 : decode cX8_init 616 = .ok (.iconst 5, 1) := by decide +kernel
theorem dX8_init_617 : decode cX8_init 617 = .ok (.iastore, 1) := by decide +kernel
theorem dX8_init_618 : decode cX8_init 618 = .ok (.dup, 1) := by decide +kernel
theorem dX8_init_619 : decode cX8_init 619 = .ok (.bipush 107, 2) := by decide +kernel
theorem dX8_init_621 : decode cX8_init 621 = .ok (.iconst 5, 1) := by decide +kernel
theorem dX8_init_622 : decode cX8_init 622 = .ok (.iastore, 1) := by decide +kernel
theorem dX8_init_623 : decode cX8_init 623 = .ok (.dup, 1) := by decide +kernel
theorem dX8_init_624 : decode cX8_init 624 = .ok (.bipush 108, 2) := by decide +kernel
theorem dX8_init_626 : decode cX8_init 626 = .ok (.iconst 5, 1) := by decide +kernel
theorem dX8_init_627 : decode cX8_init 627 = .ok (.iastore, 1) := by decide +kernel
theorem dX8_init_628 : decode cX8_init 628 = .ok (.dup, 1) := by decide +kernel
theorem dX8_init_629 : decode cX8_init 629 = .ok (.bipush 109, 2) := by decide +kernel
theorem dX8_init_631 : decode cX8_init 631 = .ok (.iconst 5, 1) := by decide +kernel
theorem dX8_init_632 : decode cX8_init 632 = .ok (.iastore, 1) := by decide +kernel
theorem dX8_init_633 : decode cX8_init 633 = .ok (.dup, 1) := by decide +kernel
theorem dX8_init_634 : decode cX8_init 634 = .ok (.bipush 110, 2) := by decide +kernel
theorem dX8_init_636 : decode cX8_init 636 = .ok (.iconst 5, 1) := by decide +kernel
theorem dX8_init_637 : decode cX8_init 637 = .ok (.iastore, 1) := by decide +kernel
theorem dX8_init_638 : decode cX8_init 638 = .ok (.dup, 1) := by decide +kernel
theorem dX8_init_639 : decode cX8_init 639 = .ok (.bipush 111, 2) := by decide +kernel
theorem dX8_init_641 : decode cX8_init 641 = .ok (.iconst 5, 1) := by decide +kernel
theorem dX8_init_642 : decode cX8_init 642 = .ok (.iastore, 1) := by decide +kernel
theorem dX8_init_643 : decode cX8_init 643 = .ok (.dup, 1) := by decide +kernel
theorem dX8_init_644 : decode cX8_init 644 = .ok (.bipush 112, 2) := by decide +kernel
theorem dX8_init_646 : decode cX8_init 646 = .ok (.iconst 5, 1) := by decide +kernel
theorem dX8_init_647 : decode cX8_init 647 = .ok (.iastore, 1) := by decide +kernel
theorem dX8_init_648 : decode cX8_init 648 = .ok (.dup, 1) := by decide +kernel
theorem dX8_init_649 : decode cX8_init 649 = .ok (.bipush 113, 2) := by decide +kernel
theorem dX8_init_651 : decode cX8_init 651 = .ok (.iconst 5, 1) := by decide +kernel
theorem dX8_init_652 : decode cX8_init 652 = .ok (.iastore, 1) := by decide +kernel
theorem dX8_init_653 : decode cX8_init 653 = .ok (.dup, 1) := by decide +kernel
theorem dX8_init_654 : decode cX8_init 654 = .ok (.bipush 114, 2) := by decide +kernel
theorem dX8_init_656 : decode cX8_init 656 = .ok (.iconst 5, 1) := by decide +kernel
theorem dX8_init_657 : decode cX8_init 657 = .ok (.iastore, 1) := by decide +kernel
theorem dX8_init_658 : decode cX8_init 658 = .ok (.dup, 1) := by decide +kernel
theorem dX8_init_659 : decode cX8_init 659 = .ok (.bipush 115, 2) := by decide +kernel
theorem dX8_init_661 : decode cX8_init 661 = .ok (.iconst 5, 1) := by decide +kernel
theorem dX8_init_662 : decode cX8_init 662 = .ok (.iastore, 1) := by decide +kernel
theorem dX8_init_663 : decode cX8_init 663 = .ok (.dup, 1) := by decide +kernel
theorem dX8_init_664 : decode cX8_init 664 = .ok (.bipush 116, 2) := by decide +kernel
theorem dX8_init_666 : decode cX8_init 666 = .ok (.iconst 5, 1) := by decide +kernel
theorem dX8_init_667 : decode cX8_init 667 = .ok (.iastore, 1) := by decide +kernel
theorem dX8_init_668 : decode cX8_init 668 = .ok (.dup, 1) := by decide +kernel
theorem dX8_init_669 : decode cX8_init 669 = .ok (.bipush 117, 2) := by decide +kernel
theorem dX8_init_671 : decode cX8_init 671 = .ok (.iconst 5, 1) := by decide +kernel
theorem dX8_init_672 : decode cX8_init 672 = .ok (.iastore, 1) := by decide +kernel
theorem dX8_init_673 : decode cX8_init 673 = .ok (.dup, 1) := by decide +kernel
theorem dX8_init_674 : decode cX8_init 674 = .ok (.bipush 118, 2) := by decide +kernel
theorem dX8_init_676 : decode cX8_init 676 = .ok (.iconst 5, 1) := by decide +kernel
theorem dX8_init_677 : decode cX8_init 677 = .ok (.iastore, 1) := by decide +kernel
theorem dX8_init_678 : decode cX8_init 678 = .ok (.dup, 1) := by decide +kernel
theorem dX8_init_679 : decode cX8_init 679 = .ok (.bipush 119, 2) := by decide +kernel
theorem dX8_init_681 : decode cX8_init 681 = .ok (.iconst 5, 1) := by decide +kernel
theorem dX8_init_682 : decode cX8_init 682 = .ok (.iastore, 1) := by decide +kernel
theorem dX8_init_683 : decode cX8_init 683 = .ok (.putfield 40, 3) := by decide +kernel
theorem dX8_init_686 : decode cX8_init 686 = .ok (.aload_n 0, 1) := by decide +kernel
theorem dX8_init_687 : decode cX8_init 687 = .ok (.bipush 90, 2) := by decide +kernel
theorem dX8_init_689 : decode cX8_init 689 = .ok (.putfield 43, 3) := by decide +kernel
theorem dX8_init_692 : decode cX8_init 692 = .ok (.aload_n 0, 1) := by decide +kernel
theorem dX8_init_693 : decode cX8_init 693 = .ok (.iconst (-1), 1) := by decide +kernel
theorem dX8_init_694 : decode cX8_init 694 = .ok (.putfield 47, 3) := by decide +kernel
theorem dX8_init_697 : decode cX8_init 697 = .ok (.aload_n 0, 1) := by decide +kernel
theorem dX8_init_698 : decode cX8_init 698 = .ok (.iconst (-1), 1) := by decide +kernel
theorem dX8_init_699 : decode cX8_init 699 = .ok (.putfield 50, 3) := by decide +kernel
theorem dX8_init_702 : decode cX8_init 702 = .ok (.aload_n 0, 1) := by decide +kernel
theorem dX8_init_703 : decode cX8_init 703 = .ok (.sipush 160, 3) := by decide +kernel
theorem dX8_init_706 : decode cX8_init 706 = .ok (.newarray .byte, 2) := by decide +kernel
theorem dX8_init_708 : decode cX8_init 708 = .ok (.putfield 53, 3) := by decide +kernel
theorem dX8_init_711 : decode cX8_init 711 = .ok (.aload_n 0, 1) := by decide +kernel
theorem dX8_init_712 : decode cX8_init 712 = .ok (.iconst 1, 1) := by decide +kernel
theorem dX8_init_713 : decode cX8_init 713 = .ok (.putfield 57, 3) := by decide +kernel
theorem dX8_init_716 : decode cX8_init 716 = .ok (.aload_n 0, 1) := by decide +kernel
theorem dX8_init_717 : decode cX8_init 717 = .ok (.sipush 1190, 3) := by decide +kernel
theorem dX8_init_720 : decode cX8_init 720 = .ok (.newarray .int, 2) := by decide +kernel
theorem dX8_init_722 : decode cX8_init 722 = .ok (.putfield 60, 3) := by decide +kernel
theorem dX8_init_725 : decode cX8_init 725 = .ok (.aload_n 0, 1) := by decide +kernel
theorem dX8_init_726 : decode cX8_init 726 = .ok (.sipush 1190, 3) := by decide +kernel
theorem dX8_init_729 : decode cX8_init 729 = .ok (.newarray .int, 2) := by decide +kernel
theorem dX8_init_731 : decode cX8_init 731 = .ok (.putfield 63, 3) := by decide +kernel
theorem dX8_init_734 : decode cX8_init 734 = .ok (.aload_n 0, 1) := by decide +kernel
theorem dX8_init_735 : decode cX8_init 735 = .ok (.bipush 21, 2) := by decide +kernel
theorem dX8_init_737 : decode cX8_init 737 = .ok (.newarray .int, 2) := by decide +kernel
theorem dX8_init_739 : decode cX8_init 739 = .ok (.putfield 66, 3) := by decide +kernel
theorem dX8_init_742 : decode cX8_init 742 = .ok (.aload_n 0, 1) := by decide +kernel
theorem dX8_init_743 : decode cX8_init 743 = .ok (.sipush 170, 3) := by decide +kernel
theorem dX8_init_746 : decode cX8_init 746 = .ok (.newarray .int, 2) := by decide +kernel
theorem dX8_init_748 : decode cX8_init 748 = .ok (.putfield 69, 3) := by decide +kernel
theorem dX8_init_751 : decode cX8_init 751 = .ok (.aload_n 0, 1) := by decide +kernel
theorem dX8_init_752 : decode cX8_init 752 = .ok (.bipush 6, 2) := by decide +kernel
theorem dX8_init_754 : decode cX8_init 754 = .ok (.newarray .int, 2) := by decide +kernel
theorem dX8_init_756 : decode cX8_init 756 = .ok (.putfield 72, 3) := by decide +kernel
theorem dX8_init_759 : decode cX8_init 759 = .ok (.aload_n 0, 1) := by decide +kernel
theorem dX8_init_760 : decode cX8_init 760 = .ok (.bipush 53, 2) := by decide +kernel
theorem dX8_init_762 : decode cX8_init 762 = .ok (.newarray .int, 2) := by decide +kernel
theorem dX8_init_764 : decode cX8_init 764 = .ok (.dup, 1) := by decide +kernel
theorem dX8_init_765 : decode cX8_init 765 = .ok (.iconst 0, 1) := by decide +kernel
theorem dX8_init_766 : decode cX8_init 766 = .ok (.bipush 117, 2) := by decide +kernel
theorem dX8_init_768 : decode cX8_init 768 = .ok (.iastore, 1) := by decide +kernel
theorem dX8_init_769 : decode cX8_init 769 = .ok (.dup, 1) := by decide +kernel
theorem dX8_init_770 : decode cX8_init 770 = .ok (.iconst 1, 1) := by decide +kernel
theorem dX8_init_771 : decode cX8_init 771 = .ok (.bipush 112, 2) := by decide +kernel
theorem dX8_init_773 : decode cX8_init 773 = .ok (.iastore, 1) := by decide +kernel
theorem dX8_init_774 : decode cX8_init 774 = .ok (.dup, 1) := by decide +kernel
theorem dX8_init_775 : decode cX8_init 775 = .ok (.iconst 2, 1) := by decide +kernel
theorem dX8_init_776 : decode cX8_init 776 = .ok (.bipush 32, 2) := by decide +kernel
theorem dX8_init_778 : decode cX8_init 778 = .ok (.iastore, 1) := by decide +kernel
theorem dX8_init_779 : decode cX8_init 779 = .ok (.dup, 1) := by decide +kernel
theorem dX8_init_780 : decode cX8_init 780 = .ok (.iconst 3, 1) := by decide +kernel
theorem dX8_init_781 : decode cX8_init 781 = .ok (.bipush 119, 2) := by decide +kernel
theorem dX8_init_783 : decode cX8_init 783 = .ok (.iastore, 1) := by decide +kernel
theorem dX8_init_784 : decode cX8_init 784 = .ok (.dup, 1) := by decide +kernel
theorem dX8_init_785 : decode cX8_init 785 = .ok (.iconst 4, 1) := by decide +kernel
theorem dX8_init_786 : decode cX8_init 786 = .ok (.bipush 97, 2) := by decide +kernel
theorem dX8_init_788 : decode cX8_init 788 = .ok (.iastore, 1) := by decide +kernel
theorem dX8_init_789 : decode cX8_init 789 = .ok (.dup, 1) := by decide +kernel
theorem dX8_init_790 : decode cX8_init 790 = .ok (.iconst 5, 1) := by decide +kernel
theorem dX8_init_791 : decode cX8_init 791 = .ok (.bipush 105, 2) := by decide +kernel
theorem dX8_init_793 : decode cX8_init 793 = .ok (.iastore, 1) := by decide +kernel
theorem dX8_init_794 : decode cX8_init 794 = .ok (.dup, 1) := by decide +kernel
theorem dX8_init_795 : decode cX8_init 795 = .ok (.bipush 6, 2) := by decide +kernel
theorem dX8_init_797 : decode cX8_init 797 = .ok (.bipush 116, 2) := by decide +kernel
theorem dX8_init_799 : decode cX8_init 799 = .ok (.iastore, 1) := by decide +kernel
theorem dX8_init_800 : decode cX8_init 800 = .ok (.dup, 1) := by decide +kernel
theorem dX8_init_801 : decode cX8_init 801 = .ok (.bipush 7, 2) := by decide +kernel
theorem dX8_init_803 : decode cX8_init 803 = .ok (.bipush 32, 2) := by decide +kernel
theorem dX8_init_805 : decode cX8_init 805 = .ok (.iastore, 1) := by decide +kernel
theorem dX8_init_806 : decode cX8_init 806 = .ok (.dup, 1) := by decide +kernel
theorem dX8_init_807 : decode cX8_init 807 = .ok (.bipush 8, 2) := by decide +kernel
theorem dX8_init_809 : decode cX8_init 809 = .ok (.bipush 108, 2) := by decide +kernel
theorem dX8_init_811 : decode cX8_init 811 = .ok (.iastore, 1) := by decide +kernel
theorem dX8_init_812 : decode cX8_init 812 = .ok (.dup, 1) := by decide +kernel
theorem dX8_init_813 : decode cX8_init 813 = .ok (.bipush 9, 2) := by decide +kernel
theorem dX8_init_815 : decode cX8_init 815 = .ok (.bipush 101, 2) := by decide +kernel
theorem dX8_init_817 : decode cX8_init 817 = .ok (.iastore, 1) := by decide +kernel
theorem dX8_init_818 : decode cX8_init 818 = .ok (.dup, 1) := by decide +kernel
theorem dX8_init_819 : decode cX8_init 819 = .ok (.bipush 10, 2) := by decide +kernel
theorem dX8_init_821 : decode cX8_init 821 = .ok (.bipush 102, 2) := by decide +kernel
theorem dX8_init_823 : decode cX8_init 823 = .ok (.iastore, 1) := by decide +kernel
theorem dX8_init_824 : decode cX8_init 824 = .ok (.dup, 1) := by decide +kernel
theorem dX8_init_825 : decode cX8_init 825 = .ok (.bipush 11, 2) := by decide +kernel
theorem dX8_init_827 : decode cX8_init 827 = .ok (.bipush 116, 2) := by decide +kernel
theorem dX8_init_829 : decode cX8_init 829 = .ok (.iastore, 1) := by decide +kernel
theorem dX8_init_830 : decode cX8_init 830 = .ok (.dup, 1) := by decide +kernel
theorem dX8_init_831 : decode cX8_init 831 = .ok (.bipush 12, 2) := by decide +kernel
theorem dX8_init_833 : decode cX8_init 833 = .ok (.bipush 32, 2) := by decide +kernel
theorem dX8_init_835 : decode cX8_init 835 = .ok (.iastore, 1) := by decide +kernel
theorem dX8_init_836 : decode cX8_init 836 = .ok (.dup, 1) := by decide +kernel
theorem dX8_init_837 : decode cX8_init 837 = .ok (.bipush 13, 2) := by decide +kernel
theorem dX8_init_839 : decode cX8_init 839 = .ok (.bipush 112, 2) := by decide +kernel
theorem dX8_init_841 : decode cX8_init 841 = .ok (.iastore, 1) := by decide +kernel
theorem dX8_init_842 : decode cX8_init 842 = .ok (.dup, 1) := by decide +kernel
theorem dX8_init_843 : decode cX8_init 843 = .ok (.bipush 14, 2) := by decide +kernel
theorem dX8_init_845 : decode cX8_init 845 = .ok (.bipush 114, 2) := by decide +kernel
theorem dX8_init_847 : decode cX8_init 847 = .ok (.iastore, 1) := by decide +kernel
theorem dX8_init_848 : decode cX8_init 848 = .ok (.dup, 1) := by decide +kernel
theorem dX8_init_849 : decode cX8_init 849 = .ok (.bipush 15, 2) := by decide +kernel
theorem dX8_init_851 : decode cX8_init 851 = .ok (.bipush 105, 2) := by decide +kernel
theorem dX8_init_853 : decode cX8_init 853 = .ok (.iastore, 1) := by decide +kernel
theorem dX8_init_854 : decode cX8_init 854 = .ok (.dup, 1) := by decide +kernel
theorem dX8_init_855 : decode cX8_init 855 = .ok (.bipush 16, 2) := by decide +kernel
theorem dX8_init_857 : decode cX8_init 857 = .ok (.bipush 99, 2) := by decide +kernel
theorem dX8_init_859 : decode cX8_init 859 = .ok (.iastore, 1) := by decide +kernel
theorem dX8_init_860 : decode cX8_init 860 = .ok (.dup, 1) := by decide +kernel
theorem dX8_init_861 : decode cX8_init 861 = .ok (.bipush 17, 2) := by decide +kernel
theorem dX8_init_863 : decode cX8_init 863 = .ok (.bipush 101, 2) := by decide +kernel
theorem dX8_init_865 : decode cX8_init 865 = .ok (.iastore, 1) := by decide +kernel
theorem dX8_init_866 : decode cX8_init 866 = .ok (.dup, 1) := by decide +kernel
theorem dX8_init_867 : decode cX8_init 867 = .ok (.bipush 18, 2) := by decide +kernel
theorem dX8_init_869 : decode cX8_init 869 = .ok (.bipush 32, 2) := by decide +kernel
theorem dX8_init_871 : decode cX8_init 871 = .ok (.iastore, 1) := by decide +kernel
theorem dX8_init_872 : decode cX8_init 872 = .ok (.dup, 1) := by decide +kernel
theorem dX8_init_873 : decode cX8_init 873 = .ok (.bipush 19, 2) := by decide +kernel
theorem dX8_init_875 : decode cX8_init 875 = .ok (.bipush 104, 2) := by decide +kernel
theorem dX8_init_877 : decode cX8_init 877 = .ok (.iastore, 1) := by decide +kernel
theorem dX8_init_878 : decode cX8_init 878 = .ok (.dup, 1) := by decide +kernel
theorem dX8_init_879 : decode cX8_init 879 = .ok (.bipush 20, 2) := by decide +kernel
theorem dX8_init_881 : decode cX8_init 881 = .ok (.bipush 101, 2) := by decide +kernel
theorem dX8_init_883 : decode cX8_init 883 = .ok (.iastore, 1) := by decide +kernel
theorem dX8_init_884 : decode cX8_init 884 = .ok (.dup, 1) := by decide +kernel
theorem dX8_init_885 : decode cX8_init 885 = .ok (.bipush 21, 2) := by decide +kernel
theorem dX8_init_887 : decode cX8_init 887 = .ok (.bipush 97, 2) := by decide +kernel
theorem dX8_init_889 : decode cX8_init 889 = .ok (.iastore, 1) := by decide +kernel
theorem dX8_init_890 : decode cX8_init 890 = .ok (.dup, 1) := by decide +kernel
theorem dX8_init_891 : decode cX8_init 891 = .ok (.bipush 22, 2) := by decide +kernel
theorem dX8_init_893 : decode cX8_init 893 = .ok (.bipush 114, 2) := by decide +kernel
theorem dX8_init_895 : decode cX8_init 895 = .ok (.iastore, 1) := by decide +kernel
theorem dX8_init_896 : decode cX8_init 896 = .ok (.dup, 1) := by decide +kernel
theorem dX8_init_897 : decode cX8_init 897 = .ok (.bipush 23, 2) := by decide +kernel
theorem dX8_init_899 : decode cX8_init 899 = .ok (.bipush 100, 2) := by decide +kernel
theorem dX8_init_901 : decode cX8_init 901 = .ok (.iastore, 1) := by decide +kernel
theorem dX8_init_902 : decode cX8_init 902 = .ok (.dup, 1) := by decide +kernel
theorem dX8_init_903 : decode cX8_init 903 = .ok (.bipush 24, 2) := by decide +kernel
theorem dX8_init_905 : decode cX8_init 905 = .ok (.bipush 32, 2) := by decide +kernel
theorem dX8_init_907 : decode cX8_init 907 = .ok (.iastore, 1) := by decide +kernel
theorem dX8_init_908 : decode cX8_init 908 = .ok (.dup, 1) := by decide +kernel
theorem dX8_init_909 : decode cX8_init 909 = .ok (.bipush 25, 2) := by decide +kernel
theorem dX8_init_911 : decode cX8_init 911 = .ok (.bipush 115, 2) := by decide +kernel
theorem dX8_init_913 : decode cX8_init 913 = .ok (.iastore, 1) := by decide +kernel
theorem dX8_init_914 : decode cX8_init 914 = .ok (.dup, 1) := by decide +kernel
theorem dX8_init_915 : decode cX8_init 915 = .ok (.bipush 26, 2) := by decide +kernel
theorem dX8_init_917 : decode cX8_init 917 = .ok (.bipush 117, 2) := by decide +kernel
theorem dX8_init_919 : decode cX8_init 919 = .ok (.iastore, 1) := by decide +kernel
theorem dX8_init_920 : decode cX8_init 920 = .ok (.dup, 1) := by decide +kernel
theorem dX8_init_921 : decode cX8_init 921 = .ok (.bipush 27, 2) := by decide +kernel
theorem dX8_init_923 : decode cX8_init 923 = .ok (.bipush 110, 2) := by decide +kernel
theorem dX8_init_925 : decode cX8_init 925 = .ok (.iastore, 1) := by decide +kernel
theorem dX8_init_926 : decode cX8_init 926 = .ok (.dup, 1) := by decide +kernel
theorem dX8_init_927 : decode cX8_init 927 = .ok (.bipush 28, 2) := by decide +kernel
theorem dX8_init_929 : decode cX8_init 929 = .ok (.bipush 32, 2) := by decide +kernel
theorem dX8_init_931 : decode cX8_init 931 = .ok (.iastore, 1) := by decide +kernel
theorem dX8_init_932 : decode cX8_init 932 = .ok (.dup, 1) := by decide +kernel
theorem dX8_init_933 : decode cX8_init 933 = .ok (.bipush 29, 2) := by decide +kernel
theorem dX8_init_935 : decode cX8_init 935 = .ok (.bipush 103, 2) := by decide +kernel
theorem dX8_init_937 : decode cX8_init 937 = .ok (.iastore, 1) := by decide +kernel
theorem dX8_init_938 : decode cX8_init 938 = .ok (.dup, 1) := by decide +kernel
theorem dX8_init_939 : decode cX8_init 939 = .ok (.bipush 30, 2) := by decide +kernel
theorem dX8_init_941 : decode cX8_init 941 = .ok (.bipush 111, 2) := by decide +kernel
theorem dX8_init_943 : decode cX8_init 943 = .ok (.iastore, 1) := by decide +kernel
theorem dX8_init_944 : decode cX8_init 944 = .ok (.dup, 1) := by decide +kernel
theorem dX8_init_945 : decode cX8_init 945 = .ok (.bipush 31, 2) := by decide +kernel
theorem dX8_init_947 : decode cX8_init 947 = .ok (.bipush 32, 2) := by decide +kernel
theorem dX8_init_949 : decode cX8_init 949 = .ok (.iastore, 1) := by decide +kernel
theorem dX8_init_950 : decode cX8_init 950 = .ok (.dup, 1) := by decide +kernel
theorem dX8_init_951 : decode cX8_init 951 = .ok (.bipush 32, 2) := by decide +kernel
theorem dX8_init_953 : decode cX8_init 953 = .ok (.bipush 114, 2) := by decide +kernel
theorem dX8_init_955 : decode cX8_init 955 = .ok (.iastore, 1) := by decide +kernel
theorem dX8_init_956 : decode cX8_init 956 = .ok (.dup, 1) := by decide +kernel
theorem dX8_init_957 : decode cX8_init 957 = .ok (.bipush 33, 2) := by decide +kernel
theorem dX8_init_959 : decode cX8_init 959 = .ok (.bipush 117, 2) := by decide +kernel
theorem dX8_init_961 : decode cX8_init 961 = .ok (.iastore, 1) := by decide +kernel
theorem dX8_init_962 : decode cX8_init 962 = .ok (.dup, 1) := by decide +kernel
theorem dX8_init_963 : decode cX8_init 963 = .ok (.bipush 34, 2) := by decide +kernel
theorem dX8_init_965 : decode cX8_init 965 = .ok (.bipush 115, 2) := by decide +kernel
theorem dX8_init_967 : decode cX8_init 967 = .ok (.iastore, 1) := by decide +kernel
theorem dX8_init_968 : decode cX8_init 968 = .ok (.dup, 1) := by decide +kernel
theorem dX8_init_969 : decode cX8_init 969 = .ok (.bipush 35, 2) := by decide +kernel
theorem dX8_init_971 : decode cX8_init 971 = .ok (.bipush 104, 2) := by decide +kernel
theorem dX8_init_973 : decode cX8_init 973 = .ok (.iastore, 1) := by decide +kernel
theorem dX8_init_974 : decode cX8_init 974 = .ok (.dup, 1) := by decide +kernel
theorem dX8_init_975 : decode cX8_init 975 = .ok (.bipush 36, 2) := by decide +kernel
theorem dX8_init_977 : decode cX8_init 977 = .ok (.bipush 32, 2) := by decide +kernel
theorem dX8_init_979 : decode cX8_init 979 = .ok (.iastore, 1) := by decide +kernel
theorem dX8_init_980 : decode cX8_init 980 = .ok (.dup, 1) := by decide +kernel
theorem dX8_init_981 : decode cX8_init 981 = .ok (.bipush 37, 2) := by decide +kernel
theorem dX8_init_983 : decode cX8_init 983 = .ok (.bipush 104, 2) := by decide +kernel
theorem dX8_init_985 : decode cX8_init 985 = .ok (.iastore, 1) := by decide +kernel
theorem dX8_init_986 : decode cX8_init 986 = .ok (.dup, 1) := by decide +kernel
theorem dX8_init_987 : decode cX8_init 987 = .ok (.bipush 38, 2) := by decide +kernel
theorem dX8_init_989 : decode cX8_init 989 = .ok (.bipush 97, 2) := by decide +kernel
theorem dX8_init_991 : decode cX8_init 991 = .ok (.iastore, 1) := by decide +kernel
theorem dX8_init_992 : decode cX8_init 992 = .ok (.dup, 1) := by decide +kernel
theorem dX8_init_993 : decode cX8_init 993 = .ok (.bipush 39, 2) := by decide +kernel
theorem dX8_init_995 : decode cX8_init 995 = .ok (.bipush 114, 2) := by decide +kernel
theorem dX8_init_997 : decode cX8_init 997 = .ok (.iastore, 1) := by decide +kernel
theorem dX8_init_998 : decode cX8_init 998 = .ok (.dup, 1) := by decide +kernel
theorem dX8_init_999 : decode cX8_init 999 = .ok (.bipush 40, 2) := by decide +kernel
theorem dX8_init_1001 : decode cX8_init 1001 = .ok (.bipush 109, 2) := by decide +kernel
theorem dX8_init_1003 : decode cX8_init 1003 = .ok (.iastore, 1) := by decide +kernel
theorem dX8_init_1004 : decode cX8_init 1004 = .ok (.dup, 1) := by decide +kernel
theorem dX8_init_1005 : decode cX8_init 1005 = .ok (.bipush 41, 2) := by decide +kernel
theorem dX8_init_1007 : decode cX8_init 1007 = .ok (.bipush 32, 2) := by decide +kernel
theorem dX8_init_1009 : decode cX8_init 1009 = .ok (.iastore, 1) := by decide +kernel
theorem dX8_init_1010 : decode cX8_init 1010 = .ok (.dup, 1) := by decide +kernel
theorem dX8_init_1011 : decode cX8_init 1011 = .ok (.bipush 42, 2) := by decide +kernel
theorem dX8_init_1013 : decode cX8_init 1013 = .ok (.bipush 111, 2) := by decide +kernel
theorem dX8_init_1015 : decode cX8_init 1015 = .ok (.iastore, 1) := by decide +kernel
theorem dX8_init_1016 : decode cX8_init 1016 = .ok (.dup, 1) := by decide +kernel
theorem dX8_init_1017 : decode cX8_init 1017 = .ok (.bipush 43, 2) := by decide +kernel
theorem dX8_init_1019 : decode cX8_init 1019 = .ok (.bipush 114, 2) := by decide +kernel
theorem dX8_init_1021 : decode cX8_init 1021 = .ok (.iastore, 1) := by decide +kernel
theorem dX8_init_1022 : decode cX8_init 1022 = .ok (.dup, 1) := by decide +kernel
theorem dX8_init_1023 : decode cX8_init 1023 = .ok (.bipush 44, 2) := by decide +kernel
theorem dX8_init_1025 : decode cX8_init 1025 = .ok (.bipush 32, 2) := by decide +kernel
theorem dX8_init_1027 : decode cX8_init 1027 = .ok (.iastore, 1) := by decide +kernel
theorem dX8_init_1028 : decode cX8_init 1028 = .ok (.dup, 1) := by decide +kernel
theorem dX8_init_1029 : decode cX8_init 1029 = .ok (.bipush 45, 2) := by decide +kernel
theorem dX8_init_1031 : decode cX8_init 1031 = .ok (.bipush 97, 2) := by decide +kernel
theorem dX8_init_1033 : decode cX8_init 1033 = .ok (.iastore, 1) := by decide +kernel
theorem dX8_init_1034 : decode cX8_init 1034 = .ok (.dup, 1) := by decide +kernel
theorem dX8_init_1035 : decode cX8_init 1035 = .ok (.bipush 46, 2) := by decide +kernel
theorem dX8_init_1037 : decode cX8_init 1037 = .ok (.bipush 110, 2) := by decide +kernel
theorem dX8_init_1039 : decode cX8_init 1039 = .ok (.iastore, 1) := by decide +kernel
theorem dX8_init_1040 : decode cX8_init 1040 = .ok (.dup, 1) := by decide +kernel
theorem dX8_init_1041 : decode cX8_init 1041 = .ok (.bipush 47, 2) := by decide +kernel
theorem dX8_init_1043 : decode cX8_init 1043 = .ok (.bipush 100, 2) := by decide +kernel
theorem dX8_init_1045 : decode cX8_init 1045 = .ok (.iastore, 1) := by decide +kernel
theorem dX8_init_1046 : decode cX8_init 1046 = .ok (.dup, 1) := by decide +kernel
theorem dX8_init_1047 : decode cX8_init 1047 = .ok (.bipush 48, 2) := by decide +kernel
theorem dX8_init_1049 : decode cX8_init 1049 = .ok (.bipush 32, 2) := by decide +kernel
theorem dX8_init_1051 : decode cX8_init 1051 = .ok (.iastore, 1) := by decide +kernel
theorem dX8_init_1052 : decode cX8_init 1052 = .ok (.dup, 1) := by decide +kernel
theorem dX8_init_1053 : decode cX8_init 1053 = .ok (.bipush 49, 2) := by decide +kernel
theorem dX8_init_1055 : decode cX8_init 1055 = .ok (.bipush 110, 2) := by decide +kernel
theorem dX8_init_1057 : decode cX8_init 1057 = .ok (.iastore, 1) := by decide +kernel
theorem dX8_init_1058 : decode cX8_init 1058 = .ok (.dup, 1) := by decide +kernel
theorem dX8_init_1059 : decode cX8_init 1059 = .ok (.bipush 50, 2) := by decide +kernel
theorem dX8_init_1061 : decode cX8_init 1061 = .ok (.bipush 111, 2) := by decide +kernel
theorem dX8_init_1063 : decode cX8_init 1063 = .ok (.iastore, 1) := by decide +kernel
theorem dX8_init_1064 : decode cX8_init 1064 = .ok (.dup, 1) := by decide +kernel
theorem dX8_init_1065 : decode cX8_init 1065 = .ok (.bipush 51, 2) := by decide +kernel
theorem dX8_init_1067 : decode cX8_init 1067 = .ok (.bipush 116, 2) := by decide +kernel
theorem dX8_init_1069 : decode cX8_init 1069 = .ok (.iastore, 1) := by decide +kernel
theorem dX8_init_1070 : decode cX8_init 1070 = .ok (.dup, 1) := by decide +kernel
theorem dX8_init_1071 : decode cX8_init 1071 = .ok (.bipush 52, 2) := by decide +kernel
theorem dX8_init_1073 : decode cX8_init 1073 = .ok (.bipush 32, 2) := by decide +kernel
theorem dX8_init_1075 : decode cX8_init 1075 = .ok (.iastore, 1) := by decide +kernel
theorem dX8_init_1076 : decode cX8_init 1076 = .ok (.putfield 75, 3) := by decide +kernel
theorem dX8_init_1079 : decode cX8_init 1079 = .ok (.aload_n 0, 1) := by decide +kernel
theorem dX8_init_1080 : decode cX8_init 1080 = .ok (.bipush 12, 2) := by decide +kernel
theorem dX8_init_1082 : decode cX8_init 1082 = .ok (.newarray .int, 2) := by decide +kernel
theorem dX8_init_1084 : decode cX8_init 1084 = .ok (.dup, 1) := by decide +kernel
theorem dX8_init_1085 : decode cX8_init 1085 = .ok (.iconst 0, 1) := by decide +kernel
theorem dX8_init_1086 : decode cX8_init 1086 = .ok (.iconst 0, 1) := by decide +kernel
theorem dX8_init_1087 : decode cX8_init 1087 = .ok (.iastore, 1) := by decide +kernel
theorem dX8_init_1088 : decode cX8_init 1088 = .ok (.dup, 1) := by decide +kernel
theorem dX8_init_1089 : decode cX8_init 1089 = .ok (.iconst 1, 1) := by decide +kernel
theorem dX8_init_1090 : decode cX8_init 1090 = .ok (.iconst 1, 1) := by decide +kernel
theorem dX8_init_1091 : decode cX8_init 1091 = .ok (.iastore, 1) := by decide +kernel
theorem dX8_init_1092 : decode cX8_init 1092 = .ok (.dup, 1) := by decide +kernel
theorem dX8_init_1093 : decode cX8_init 1093 = .ok (.iconst 2, 1) := by decide +kernel
theorem dX8_init_1094 : decode cX8_init 1094 = .ok (.iconst 2, 1) := by decide +kernel
theorem dX8_init_1095 : decode cX8_init 1095 = .ok (.iastore, 1) := by decide +kernel
theorem dX8_init_1096 : decode cX8_init 1096 = .ok (.dup, 1) := by decide +kernel
theorem dX8_init_1097 : decode cX8_init 1097 = .ok (.iconst 3, 1) := by decide +kernel
theorem dX8_init_1098 : decode cX8_init 1098 = .ok (.iconst 3, 1) := by decide +kernel
theorem dX8_init_1099 : decode cX8_init 1099 = .ok (.iastore, 1) := by decide +kernel
theorem dX8_init_1100 : decode cX8_init 1100 = .ok (.dup, 1) := by decide +kernel
theorem dX8_init_1101 : decode cX8_init 1101 = .ok (.iconst 4, 1) := by decide +kernel
theorem dX8_init_1102 : decode cX8_init 1102 = .ok (.iconst 4, 1) := by decide +kernel
theorem dX8_init_1103 : decode cX8_init 1103 = .ok (.iastore, 1) := by decide +kernel
theorem dX8_init_1104 : decode cX8_init 1104 = .ok (.dup, 1) := by decide +kernel
theorem dX8_init_1105 : decode cX8_init 1105 = .ok (.iconst 5, 1) := by decide +kernel
theorem dX8_init_1106 : decode cX8_init 1106 = .ok (.iconst 5, 1) := by decide +kernel
theorem dX8_init_1107 : decode cX8_init 1107 = .ok (.iastore, 1) := by decide +kernel
theorem dX8_init_1108 : decode cX8_init 1108 = .ok (.dup, 1) := by decide +kernel
theorem dX8_init_1109 : decode cX8_init 1109 = .ok (.bipush 6, 2) := by decide +kernel
theorem dX8_init_1111 : decode cX8_init 1111 = .ok (.bipush 10, 2) := by decide +kernel
theorem dX8_init_1113 : decode cX8_init 1113 = .ok (.iastore, 1) := by decide +kernel
theorem dX8_init_1114 : decode cX8_init 1114 = .ok (.dup, 1) := by decide +kernel
theorem dX8_init_1115 : decode cX8_init 1115 = .ok (.bipush 7, 2) := by decide +kernel
theorem dX8_init_1117 : decode cX8_init 1117 = .ok (.bipush 11, 2) := by decide +kernel
theorem dX8_init_1119 : decode cX8_init 1119 = .ok (.iastore, 1) := by decide +kernel
theorem dX8_init_1120 : decode cX8_init 1120 = .ok (.dup, 1) := by decide +kernel
theorem dX8_init_1121 : decode cX8_init 1121 = .ok (.bipush 8, 2) := by decide +kernel
theorem dX8_init_1123 : decode cX8_init 1123 = .ok (.bipush 12, 2) := by decide +kernel
theorem dX8_init_1125 : decode cX8_init 1125 = .ok (.iastore, 1) := by decide +kernel
theorem dX8_init_1126 : decode cX8_init 1126 = .ok (.dup, 1) := by decide +kernel
theorem dX8_init_1127 : decode cX8_init 1127 = .ok (.bipush 9, 2) := by decide +kernel
theorem dX8_init_1129 : decode cX8_init 1129 = .ok (.bipush 13, 2) := by decide +kernel
theorem dX8_init_1131 : decode cX8_init 1131 = .ok (.iastore, 1) := by decide +kernel
theorem dX8_init_1132 : decode cX8_init 1132 = .ok (.dup, 1) := by decide +kernel
theorem dX8_init_1133 : decode cX8_init 1133 = .ok (.bipush 10, 2) := by decide +kernel
theorem dX8_init_1135 : decode cX8_init 1135 = .ok (.bipush 14, 2) := by decide +kernel
theorem dX8_init_1137 : decode cX8_init 1137 = .ok (.iastore, 1) := by decide +kernel
theorem dX8_init_1138 : decode cX8_init 1138 = .ok (.dup, 1) := by decide +kernel
theorem dX8_init_1139 : decode cX8_init 1139 = .ok (.bipush 11, 2) := by decide +kernel
theorem dX8_init_1141 : decode cX8_init 1141 = .ok (.bipush 15, 2) := by decide +kernel
theorem dX8_init_1143 : decode cX8_init 1143 = .ok (.iastore, 1) := by decide +kernel
theorem dX8_init_1144 : decode cX8_init 1144 = .ok (.putfield 78, 3) := by decide +kernel
theorem dX8_init_1147 : decode cX8_init 1147 = .ok (.aload_n 0, 1) := by decide +kernel
theorem dX8_init_1148 : decode cX8_init 1148 = .ok (.bipush 6, 2) := by decide +kernel
theorem dX8_init_1150 : decode cX8_init 1150 = .ok (.newarray .int, 2) := by decide +kernel
theorem dX8_init_1152 : decode cX8_init 1152 = .ok (.putfield 81, 3) := by decide +kernel
theorem dX8_init_1155 : decode cX8_init 1155 = .ok (.aload_n 0, 1) := by decide +kernel
theorem dX8_init_1156 : decode cX8_init 1156 = .ok (.sipush 960, 3) := by decide +kernel
theorem dX8_init_1159 : decode cX8_init 1159 = .ok (.newarray .int, 2) := by decide +kernel
theorem dX8_init_1161 : decode cX8_init 1161 = .ok (.putfield 84, 3) := by decide +kernel
theorem dX8_init_1164 : decode cX8_init 1164 = .ok (.aload_n 0, 1) := by decide +kernel
theorem dX8_init_1165 : decode cX8_init 1165 = .ok (.sipush 720, 3) := by decide +kernel
theorem dX8_init_1168 : decode cX8_init 1168 = .ok (.newarray .int, 2) := by decide +kernel
theorem dX8_init_1170 : decode cX8_init 1170 = .ok (.putfield 87, 3) := by decide +kernel
theorem dX8_init_1173 : decode cX8_init 1173 = .ok (.aload_n 0, 1) := by decide +kernel
theorem dX8_init_1174 : decode cX8_init 1174 = .ok (.bipush 24, 2) := by decide +kernel
theorem dX8_init_1176 : decode cX8_init 1176 = .ok (.newarray .int, 2) := by decide +kernel
theorem dX8_init_1178 : decode cX8_init 1178 = .ok (.putfield 90, 3) := by decide +kernel
theorem dX8_init_1181 : decode cX8_init 1181 = .ok (.aload_n 0, 1) := by decide +kernel
theorem dX8_init_1182 : decode cX8_init 1182 = .ok (.sipush 720, 3) := by decide +kernel
theorem dX8_init_1185 : decode cX8_init 1185 = .ok (.newarray .int, 2) := by decide +kernel
theorem dX8_init_1187 : decode cX8_init 1187 = .ok (.putfield 93, 3) := by decide +kernel
theorem dX8_init_1190 : decode cX8_init 1190 = .ok (.aload_n 0, 1) := by decide +kernel
theorem dX8_init_1191 : decode cX8_init 1191 = .ok (.bipush 6, 2) := by decide +kernel
theorem dX8_init_1193 : decode cX8_init 1193 = .ok (.newarray .int, 2) := by decide +kernel
theorem dX8_init_1195 : decode cX8_init 1195 = .ok (.putfield 96, 3) := by decide +kernel
theorem dX8_init_1198 : decode cX8_init 1198 = .ok (.aload_n 0, 1) := by decide +kernel
theorem dX8_init_1199 : decode cX8_init 1199 = .ok (.bipush 6, 2) := by decide +kernel
theorem dX8_init_1201 : decode cX8_init 1201 = .ok (.newarray .int, 2) := by decide +kernel
theorem dX8_init_1203 : decode cX8_init 1203 = .ok (.putfield 99, 3) := by decide +kernel
theorem dX8_init_1206 : decode cX8_init 1206 = .ok (.aload_n 0, 1) := by decide +kernel
theorem dX8_init_1207 : decode cX8_init 1207 = .ok (.bipush 6, 2) := by decide +kernel
theorem dX8_init_1209 : decode cX8_init 1209 = .ok (.newarray .int, 2) := by decide +kernel
theorem dX8_init_1211 : decode cX8_init 1211 = .ok (.putfield 102, 3) := by decide +kernel
theorem dX8_init_1214 : decode cX8_init 1214 = .ok (.aload_n 0, 1) := by decide +kernel
theorem dX8_init_1215 : decode cX8_init 1215 = .ok (.bipush 6, 2) := by decide +kernel
theorem dX8_init_1217 : decode cX8_init 1217 = .ok (.newarray .int, 2) := by decide +kernel
theorem dX8_init_1219 : decode cX8_init 1219 = .ok (.putfield 105, 3) := by decide +kernel
theorem dX8_init_1222 : decode cX8_init 1222 = .ok (.aload_n 0, 1) := by decide +kernel
theorem dX8_init_1223 : decode cX8_init 1223 = .ok (.bipush 6, 2) := by decide +kernel
theorem dX8_init_1225 : decode cX8_init 1225 = .ok (.newarray .int, 2) := by decide +kernel
theorem dX8_init_1227 : decode cX8_init 1227 = .ok (.putfield 108, 3) := by decide +kernel
theorem dX8_init_1230 : decode cX8_init 1230 = .ok (.aload_n 0, 1) := by decide +kernel
theorem dX8_init_1231 : decode cX8_init 1231 = .ok (.bipush 120, 2) := by decide +kernel
theorem dX8_init_1233 : decode cX8_init 1233 = .ok (.newarray .int, 2) := by decide +kernel
theorem dX8_init_1235 : decode cX8_init 1235 = .ok (.putfield 111, 3) := by decide +kernel
theorem dX8_init_1238 : decode cX8_init 1238 = .ok (.aload_n 0, 1) := by decide +kernel
theorem dX8_init_1239 : decode cX8_init 1239 = .ok (.iconst 4, 1) := by decide +kernel
theorem dX8_init_1240 : decode cX8_init 1240 = .ok (.newarray .int, 2) := by decide +kernel
theorem dX8_init_1242 : decode cX8_init 1242 = .ok (.dup, 1) := by decide +kernel
theorem dX8_init_1243 : decode cX8_init 1243 = .ok (.iconst 0, 1) := by decide +kernel
theorem dX8_init_1244 : decode cX8_init 1244 = .ok (.iconst (-1), 1) := by decide +kernel
theorem dX8_init_1245 : decode cX8_init 1245 = .ok (.iastore, 1) := by decide +kernel
theorem dX8_init_1246 : decode cX8_init 1246 = .ok (.dup, 1) := by decide +kernel
theorem dX8_init_1247 : decode cX8_init 1247 = .ok (.iconst 1, 1) := by decide +kernel
theorem dX8_init_1248 : decode cX8_init 1248 = .ok (.iconst (-1), 1) := by decide +kernel
theorem dX8_init_1249 : decode cX8_init 1249 = .ok (.iastore, 1) := by decide +kernel
theorem dX8_init_1250 : decode cX8_init 1250 = .ok (.dup, 1) := by decide +kernel
theorem dX8_init_1251 : decode cX8_init 1251 = .ok (.iconst 2, 1) := by decide +kernel
theorem dX8_init_1252 : decode cX8_init 1252 = .ok (.iconst (-1), 1) := by decide +kernel
theorem dX8_init_1253 : decode cX8_init 1253 = .ok (.iastore, 1) := by decide +kernel
theorem dX8_init_1254 : decode cX8_init 1254 = .ok (.dup, 1) := by decide +kernel
theorem dX8_init_1255 : decode cX8_init 1255 = .ok (.iconst 3, 1) := by decide +kernel
theorem dX8_init_1256 : decode cX8_init 1256 = .ok (.iconst (-1), 1) := by decide +kernel
theorem dX8_init_1257 : decode cX8_init 1257 = .ok (.iastore, 1) := by decide +kernel
theorem dX8_init_1258 : decode cX8_init 1258 = .ok (.putfield 114, 3) := by decide +kernel
theorem dX8_init_1261 : decode cX8_init 1261 = .ok (.aload_n 0, 1) := by decide +kernel
theorem dX8_init_1262 : decode cX8_init 1262 = .ok (.iconst 4, 1) := by decide +kernel
theorem dX8_init_1263 : decode cX8_init 1263 = .ok (.newarray .int, 2) := by decide +kernel
theorem dX8_init_1265 : decode cX8_init 1265 = .ok (.putfield 117, 3) := by decide +kernel
theorem dX8_init_1268 : decode cX8_init 1268 = .ok (.aload_n 0, 1) := by decide +kernel
theorem dX8_init_1269 : decode cX8_init 1269 = .ok (.sipush 160, 3) := by decide +kernel
theorem dX8_init_1272 : decode cX8_init 1272 = .ok (.newarray .int, 2) := by decide +kernel
theorem dX8_init_1274 : decode cX8_init 1274 = .ok (.putfield 120, 3) := by decide +kernel
theorem dX8_init_1277 : decode cX8_init 1277 = .ok (.aload_n 0, 1) := by decide +kernel
theorem dX8_init_1278 : decode cX8_init 1278 = .ok (.bipush 40, 2) := by decide +kernel
theorem dX8_init_1280 : decode cX8_init 1280 = .ok (.newarray .int, 2) := by decide +kernel
theorem dX8_init_1282 : decode cX8_init 1282 = .ok (.putfield 123, 3) := by decide +kernel
theorem dX8_init_1285 : decode cX8_init 1285 = .ok (.return_, 1) := by decide +kernel
theorem dX8_in_0 : decode cX8_in 0 = .ok (.iload_n 0, 1) := by decide +kernel
theorem dX8_in_1 : decode cX8_in 1 = .ok (.iload_n 1, 1) := by decide +kernel
theorem dX8_in_2 : decode cX8_in 2 = .ok (.if_icmp .lt 12, 3) := by decide +kernel
theorem dX8_in_5 : decode cX8_in 5 = .ok (.iload_n 0, 1) := by decide +kernel
theorem dX8_in_6 : decode cX8_in 6 = .ok (.iload_n 2, 1) := by decide +kernel
theorem dX8_in_7 : decode cX8_in 7 = .ok (.if_icmp .gt 7, 3) := by decide +kernel
theorem dX8_in_10 : decode cX8_in 10 = .ok (.iconst 1, 1) := by decide +kernel
theorem dX8_in_11 : decode cX8_in 11 = .ok (.goto 4, 3) := by decide +kernel
theorem dX8_in_14 : decode cX8_in 14 = .ok (.iconst 0, 1) := by decide +kernel
theorem dX8_in_15 : decode cX8_in 15 = .ok (.ireturn, 1) := by decide +kernel
theorem dX8_held_0 : decode cX8_held 0 = .ok (.iload_n 0, 1) := by decide +kernel
theorem dX8_held_1 : decode cX8_held 1 = .ok (.iload_n 1, 1) := by decide +kernel
theorem dX8_held_2 : decode cX8_held 2 = .ok (.if_icmp .ge 7, 3) := by decide +kernel
theorem dX8_held_5 : decode cX8_held 5 = .ok (.iload_n 1, 1) := by decide +kernel
theorem dX8_held_6 : decode cX8_held 6 = .ok (.goto 13, 3) := by decide +kernel
theorem dX8_held_9 : decode cX8_held 9 = .ok (.iload_n 0, 1) := by decide +kernel
theorem dX8_held_10 : decode cX8_held 10 = .ok (.iload_n 2, 1) := by decide +kernel
theorem dX8_held_11 : decode cX8_held 11 = .ok (.if_icmp .le 7, 3) := by decide +kernel
theorem dX8_held_14 : decode cX8_held 14 = .ok (.iload_n 2, 1) := by decide +kernel
theorem dX8_held_15 : decode cX8_held 15 = .ok (.goto 4, 3) := by decide +kernel
theorem dX8_held_18 : decode cX8_held 18 = .ok (.iload_n 0, 1) := by decide +kernel
theorem dX8_held_19 : decode cX8_held 19 = .ok (.ireturn, 1) := by decide +kernel
theorem dX8_isSort_0 : decode cX8_isSort 0 = .ok (.iload_n 1, 1) := by decide +kernel
theorem dX8_isSort_1 : decode cX8_isSort 1 = .ok (.iconst 0, 1) := by decide +kernel
theorem dX8_isSort_2 : decode cX8_isSort 2 = .ok (.aload_n 0, 1) := by decide +kernel
theorem dX8_isSort_3 : decode cX8_isSort 3 = .ok (.getfield 129, 3) := by decide +kernel
theorem dX8_isSort_6 : decode cX8_isSort 6 = .ok (.iconst 1, 1) := by decide +kernel
theorem dX8_isSort_7 : decode cX8_isSort 7 = .ok (.isub, 1) := by decide +kernel
theorem dX8_isSort_8 : decode cX8_isSort 8 = .ok (.invokestatic 132, 3) := by decide +kernel
theorem dX8_isSort_11 : decode cX8_isSort 11 = .ok (.ireturn, 1) := by decide +kernel
theorem dX8_isWay_0 : decode cX8_isWay 0 = .ok (.iload_n 1, 1) := by decide +kernel
theorem dX8_isWay_1 : decode cX8_isWay 1 = .ok (.iconst 0, 1) := by decide +kernel
theorem dX8_isWay_2 : decode cX8_isWay 2 = .ok (.aload_n 0, 1) := by decide +kernel
theorem dX8_isWay_3 : decode cX8_isWay 3 = .ok (.getfield 136, 3) := by decide +kernel
theorem dX8_isWay_6 : decode cX8_isWay 6 = .ok (.iconst 1, 1) := by decide +kernel
theorem dX8_isWay_7 : decode cX8_isWay 7 = .ok (.isub, 1) := by decide +kernel
theorem dX8_isWay_8 : decode cX8_isWay 8 = .ok (.invokestatic 132, 3) := by decide +kernel
theorem dX8_isWay_11 : decode cX8_isWay 11 = .ok (.ireturn, 1) := by decide +kernel
theorem dX8_isMinute_0 : decode cX8_isMinute 0 = .ok (.iload_n 0, 1) := by decide +kernel
theorem dX8_isMinute_1 : decode cX8_isMinute 1 = .ok (.iconst 0, 1) := by decide +kernel
theorem dX8_isMinute_2 : decode cX8_isMinute 2 = .ok (.bipush 119, 2) := by decide +kernel
theorem dX8_isMinute_4 : decode cX8_isMinute 4 = .ok (.invokestatic 132, 3) := by decide +kernel
theorem dX8_isMinute_7 : decode cX8_isMinute 7 = .ok (.ireturn, 1) := by decide +kernel
theorem dX8_people_0 : decode cX8_people 0 = .ok (.iload_n 1, 1) := by decide +kernel
theorem dX8_people_1 : decode cX8_people 1 = .ok (.iconst 0, 1) := by decide +kernel
theorem dX8_people_2 : decode cX8_people 2 = .ok (.sipush 400, 3) := by decide +kernel
theorem dX8_people_5 : decode cX8_people 5 = .ok (.invokestatic 132, 3) := by decide +kernel
theorem dX8_people_8 : decode cX8_people 8 = .ok (.ifCond .eq 33, 3) := by decide +kernel
theorem dX8_people_11 : decode cX8_people 11 = .ok (.iload_n 2, 1) := by decide +kernel
theorem dX8_people_12 : decode cX8_people 12 = .ok (.ifCond .lt 29, 3) := by decide +kernel
theorem dX8_people_15 : decode cX8_people 15 = .ok (.iload_n 2, 1) := by decide +kernel
theorem dX8_people_16 : decode cX8_people 16 = .ok (.sipush 1000, 3) := by decide +kernel
theorem dX8_people_19 : decode cX8_people 19 = .ok (.idiv, 1) := by decide +kernel
theorem dX8_people_20 : decode cX8_people 20 = .ok (.bipush 40, 2) := by decide +kernel
theorem dX8_people_22 : decode cX8_people 22 = .ok (.if_icmp .gt 19, 3) := by decide +kernel
theorem dX8_people_25 : decode cX8_people 25 = .ok (.iload_n 2, 1) := by decide +kernel
theorem dX8_people_26 : decode cX8_people 26 = .ok (.bipush 10, 2) := by decide +kernel
theorem dX8_people_28 : decode cX8_people 28 = .ok (.idiv, 1) := by decide +kernel
theorem dX8_people_29 : decode cX8_people 29 = .ok (.bipush 100, 2) := by decide +kernel
theorem dX8_people_31 : decode cX8_people 31 = .ok (.irem, 1) := by decide +kernel
theorem dX8_people_32 : decode cX8_people 32 = .ok (.iconst 1, 1) := by decide +kernel
theorem dX8_people_33 : decode cX8_people 33 = .ok (.bipush 60, 2) := by decide +kernel
theorem dX8_people_35 : decode cX8_people 35 = .ok (.invokestatic 132, 3) := by decide +kernel
theorem dX8_people_38 : decode cX8_people 38 = .ok (.ifCond .ne 6, 3) := by decide +kernel
theorem dX8_people_41 : decode cX8_people 41 = .ok (.bipush (-2), 2) := by decide +kernel
theorem dX8_people_43 : decode cX8_people 43 = .ok (.ireturn, 1) := by decide +kernel
theorem dX8_people_44 : decode cX8_people 44 = .ok (.aload_n 0, 1) := by decide +kernel
theorem dX8_people_45 : decode cX8_people 45 = .ok (.getfield 129, 3) := by decide +kernel
theorem dX8_people_48 : decode cX8_people 48 = .ok (.bipush 6, 2) := by decide +kernel
theorem dX8_people_50 : decode cX8_people 50 = .ok (.if_icmp .ne 6, 3) := by decide +kernel
theorem dX8_people_53 : decode cX8_people 53 = .ok (.bipush (-4), 2) := by decide +kernel
theorem dX8_people_55 : decode cX8_people 55 = .ok (.ireturn, 1) := by decide +kernel
theorem dX8_people_56 : decode cX8_people 56 = .ok (.aload_n 0, 1) := by decide +kernel
theorem dX8_people_57 : decode cX8_people 57 = .ok (.getfield 7, 3) := by decide +kernel
theorem dX8_people_60 : decode cX8_people 60 = .ok (.aload_n 0, 1) := by decide +kernel
theorem dX8_people_61 : decode cX8_people 61 = .ok (.getfield 129, 3) := by decide +kernel
theorem dX8_people_64 : decode cX8_people 64 = .ok (.iload_n 1, 1) := by decide +kernel
theorem dX8_people_65 : decode cX8_people 65 = .ok (.iastore, 1) := by decide +kernel
theorem dX8_people_66 : decode cX8_people 66 = .ok (.aload_n 0, 1) := by decide +kernel
theorem dX8_people_67 : decode cX8_people 67 = .ok (.getfield 13, 3) := by decide +kernel
theorem dX8_people_70 : decode cX8_people 70 = .ok (.aload_n 0, 1) := by decide +kernel
theorem dX8_people_71 : decode cX8_people 71 = .ok (.getfield 129, 3) := by decide +kernel
theorem dX8_people_74 : decode cX8_people 74 = .ok (.iload_n 2, 1) := by decide +kernel
theorem dX8_people_75 : decode cX8_people 75 = .ok (.sipush 1000, 3) := by decide +kernel
theorem dX8_people_78 : decode cX8_people 78 = .ok (.idiv, 1) := by decide +kernel
theorem dX8_people_79 : decode cX8_people 79 = .ok (.iastore, 1) := by decide +kernel
theorem dX8_people_80 : decode cX8_people 80 = .ok (.aload_n 0, 1) := by decide +kernel
theorem dX8_people_81 : decode cX8_people 81 = .ok (.getfield 16, 3) := by decide +kernel
theorem dX8_people_84 : decode cX8_people 84 = .ok (.aload_n 0, 1) := by decide +kernel
theorem dX8_people_85 : decode cX8_people 85 = .ok (.getfield 129, 3) := by decide +kernel
theorem dX8_people_88 : decode cX8_people 88 = .ok (.iload_n 2, 1) := by decide +kernel
theorem dX8_people_89 : decode cX8_people 89 = .ok (.bipush 10, 2) := by decide +kernel
theorem dX8_people_91 : decode cX8_people 91 = .ok (.idiv, 1) := by decide +kernel
theorem dX8_people_92 : decode cX8_people 92 = .ok (.bipush 100, 2) := by decide +kernel
theorem dX8_people_94 : decode cX8_people 94 = .ok (.irem, 1) := by decide +kernel
theorem dX8_people_95 : decode cX8_people 95 = .ok (.iastore, 1) := by decide +kernel
theorem dX8_people_96 : decode cX8_people 96 = .ok (.aload_n 0, 1) := by decide +kernel
theorem dX8_people_97 : decode cX8_people 97 = .ok (.getfield 19, 3) := by decide +kernel
theorem dX8_people_100 : decode cX8_people 100 = .ok (.aload_n 0, 1) := by decide +kernel
theorem dX8_people_101 : decode cX8_people 101 = .ok (.getfield 129, 3) := by decide +kernel
theorem dX8_people_104 : decode cX8_people 104 = .ok (.iload_n 2, 1) := by decide +kernel
theorem dX8_people_105 : decode cX8_people 105 = .ok (.bipush 10, 2) := by decide +kernel
theorem dX8_people_107 : decode cX8_people 107 = .ok (.irem, 1) := by decide +kernel
theorem dX8_people_108 : decode cX8_people 108 = .ok (.iastore, 1) := by decide +kernel
theorem dX8_people_109 : decode cX8_people 109 = .ok (.aload_n 0, 1) := by decide +kernel
theorem dX8_people_110 : decode cX8_people 110 = .ok (.dup, 1) := by decide +kernel
theorem dX8_people_111 : decode cX8_people 111 = .ok (.getfield 129, 3) := by decide +kernel
theorem dX8_people_114 : decode cX8_people 114 = .ok (.iconst 1, 1) := by decide +kernel
theorem dX8_people_115 : decode cX8_people 115 = .ok (.iadd, 1) := by decide +kernel
theorem dX8_people_116 : decode cX8_people 116 = .ok (.putfield 129, 3) := by decide +kernel
theorem dX8_people_119 : decode cX8_people 119 = .ok (.aload_n 0, 1) := by decide +kernel
theorem dX8_people_120 : decode cX8_people 120 = .ok (.getfield 129, 3) := by decide +kernel
theorem dX8_people_123 : decode cX8_people 123 = .ok (.iconst 1, 1) := by decide +kernel
theorem dX8_people_124 : decode cX8_people 124 = .ok (.isub, 1) := by decide +kernel
theorem dX8_people_125 : decode cX8_people 125 = .ok (.ireturn, 1) := by decide +kernel
theorem dX8_car_0 : decode cX8_car 0 = .ok (.iload_n 1, 1) := by decide +kernel
theorem dX8_car_1 : decode cX8_car 1 = .ok (.iconst 1, 1) := by decide +kernel
theorem dX8_car_2 : decode cX8_car 2 = .ok (.bipush 60, 2) := by decide +kernel
theorem dX8_car_4 : decode cX8_car 4 = .ok (.invokestatic 132, 3) := by decide +kernel
theorem dX8_car_7 : decode cX8_car 7 = .ok (.ifCond .eq 20, 3) := by decide +kernel
theorem dX8_car_10 : decode cX8_car 10 = .ok (.iload_n 2, 1) := by decide +kernel
theorem dX8_car_11 : decode cX8_car 11 = .ok (.iconst 1, 1) := by decide +kernel
theorem dX8_car_12 : decode cX8_car 12 = .ok (.bipush 30, 2) := by decide +kernel
theorem dX8_car_14 : decode cX8_car 14 = .ok (.invokestatic 132, 3) := by decide +kernel
theorem dX8_car_17 : decode cX8_car 17 = .ok (.ifCond .eq 10, 3) := by decide +kernel
theorem dX8_car_20 : decode cX8_car 20 = .ok (.iload_n 3, 1) := by decide +kernel
theorem dX8_car_21 : decode cX8_car 21 = .ok (.invokestatic 139, 3) := by decide +kernel
theorem dX8_car_24 : decode cX8_car 24 = .ok (.ifCond .ne 6, 3) := by decide +kernel
theorem dX8_car_27 : decode cX8_car 27 = .ok (.bipush (-2), 2) := by decide +kernel
theorem dX8_car_29 : decode cX8_car 29 = .ok (.ireturn, 1) := by decide +kernel
theorem dX8_car_30 : decode cX8_car 30 = .ok (.aload_n 0, 1) := by decide +kernel
theorem dX8_car_31 : decode cX8_car 31 = .ok (.getfield 143, 3) := by decide +kernel
theorem dX8_car_34 : decode cX8_car 34 = .ok (.iconst 4, 1) := by decide +kernel
theorem dX8_car_35 : decode cX8_car 35 = .ok (.if_icmp .ne 6, 3) := by decide +kernel
theorem dX8_car_38 : decode cX8_car 38 = .ok (.bipush (-4), 2) := by decide +kernel
theorem dX8_car_40 : decode cX8_car 40 = .ok (.ireturn, 1) := by decide +kernel
theorem dX8_car_41 : decode cX8_car 41 = .ok (.aload_n 0, 1) := by decide +kernel
theorem dX8_car_42 : decode cX8_car 42 = .ok (.getfield 22, 3) := by decide +kernel
theorem dX8_car_45 : decode cX8_car 45 = .ok (.aload_n 0, 1) := by decide +kernel
theorem dX8_car_46 : decode cX8_car 46 = .ok (.getfield 143, 3) := by decide +kernel
theorem dX8_car_49 : decode cX8_car 49 = .ok (.iload_n 1, 1) := by decide +kernel
theorem dX8_car_50 : decode cX8_car 50 = .ok (.iastore, 1) := by decide +kernel
theorem dX8_car_51 : decode cX8_car 51 = .ok (.aload_n 0, 1) := by decide +kernel
theorem dX8_car_52 : decode cX8_car 52 = .ok (.getfield 25, 3) := by decide +kernel
theorem dX8_car_55 : decode cX8_car 55 = .ok (.aload_n 0, 1) := by decide +kernel
theorem dX8_car_56 : decode cX8_car 56 = .ok (.getfield 143, 3) := by decide +kernel
theorem dX8_car_59 : decode cX8_car 59 = .ok (.iload_n 2, 1) := by decide +kernel
theorem dX8_car_60 : decode cX8_car 60 = .ok (.iastore, 1) := by decide +kernel
theorem dX8_car_61 : decode cX8_car 61 = .ok (.aload_n 0, 1) := by decide +kernel
theorem dX8_car_62 : decode cX8_car 62 = .ok (.getfield 28, 3) := by decide +kernel
theorem dX8_car_65 : decode cX8_car 65 = .ok (.aload_n 0, 1) := by decide +kernel
theorem dX8_car_66 : decode cX8_car 66 = .ok (.getfield 143, 3) := by decide +kernel
theorem dX8_car_69 : decode cX8_car 69 = .ok (.iload_n 3, 1) := by decide +kernel
theorem dX8_car_70 : decode cX8_car 70 = .ok (.iastore, 1) := by decide +kernel
theorem dX8_car_71 : decode cX8_car 71 = .ok (.aload_n 0, 1) := by decide +kernel
theorem dX8_car_72 : decode cX8_car 72 = .ok (.dup, 1) := by decide +kernel
theorem dX8_car_73 : decode cX8_car 73 = .ok (.getfield 143, 3) := by decide +kernel
theorem dX8_car_76 : decode cX8_car 76 = .ok (.iconst 1, 1) := by decide +kernel
theorem dX8_car_77 : decode cX8_car 77 = .ok (.iadd, 1) := by decide +kernel
theorem dX8_car_78 : decode cX8_car 78 = .ok (.putfield 143, 3) := by decide +kernel
theorem dX8_car_81 : decode cX8_car 81 = .ok (.aload_n 0, 1) := by decide +kernel
theorem dX8_car_82 : decode cX8_car 82 = .ok (.getfield 143, 3) := by decide +kernel
theorem dX8_car_85 : decode cX8_car 85 = .ok (.iconst 1, 1) := by decide +kernel
theorem dX8_car_86 : decode cX8_car 86 = .ok (.isub, 1) := by decide +kernel
theorem dX8_car_87 : decode cX8_car 87 = .ok (.ireturn, 1) := by decide +kernel
theorem dX8_way_0 : decode cX8_way 0 = .ok (.iload_n 1, 1) := by decide +kernel
theorem dX8_way_1 : decode cX8_way 1 = .ok (.iconst 0, 1) := by decide +kernel
theorem dX8_way_2 : decode cX8_way 2 = .ok (.iconst 5, 1) := by decide +kernel
theorem dX8_way_3 : decode cX8_way 3 = .ok (.invokestatic 132, 3) := by decide +kernel
theorem dX8_way_6 : decode cX8_way 6 = .ok (.ifCond .eq 20, 3) := by decide +kernel
theorem dX8_way_9 : decode cX8_way 9 = .ok (.iload_n 2, 1) := by decide +kernel
theorem dX8_way_10 : decode cX8_way 10 = .ok (.invokestatic 139, 3) := by decide +kernel
theorem dX8_way_13 : decode cX8_way 13 = .ok (.ifCond .eq 13, 3) := by decide +kernel
theorem dX8_way_16 : decode cX8_way 16 = .ok (.iload_n 3, 1) := by decide +kernel
theorem dX8_way_17 : decode cX8_way 17 = .ok (.iconst 0, 1) := by decide +kernel
theorem dX8_way_18 : decode cX8_way 18 = .ok (.bipush 9, 2) := by decide +kernel
theorem dX8_way_20 : decode cX8_way 20 = .ok (.invokestatic 132, 3) := by decide +kernel
theorem dX8_way_23 : decode cX8_way 23 = .ok (.ifCond .ne 6, 3) := by decide +kernel
theorem dX8_way_26 : decode cX8_way 26 = .ok (.bipush (-2), 2) := by decide +kernel
theorem dX8_way_28 : decode cX8_way 28 = .ok (.ireturn, 1) := by decide +kernel
theorem dX8_way_29 : decode cX8_way 29 = .ok (.aload_n 0, 1) := by decide +kernel
theorem dX8_way_30 : decode cX8_way 30 = .ok (.getfield 136, 3) := by decide +kernel
theorem dX8_way_33 : decode cX8_way 33 = .ok (.bipush 8, 2) := by decide +kernel
theorem dX8_way_35 : decode cX8_way 35 = .ok (.if_icmp .ne 6, 3) := by decide +kernel
theorem dX8_way_38 : decode cX8_way 38 = .ok (.bipush (-4), 2) := by decide +kernel
theorem dX8_way_40 : decode cX8_way 40 = .ok (.ireturn, 1) := by decide +kernel
theorem dX8_way_41 : decode cX8_way 41 = .ok (.aload_n 0, 1) := by decide +kernel
theorem dX8_way_42 : decode cX8_way 42 = .ok (.getfield 31, 3) := by decide +kernel
theorem dX8_way_45 : decode cX8_way 45 = .ok (.aload_n 0, 1) := by decide +kernel
theorem dX8_way_46 : decode cX8_way 46 = .ok (.getfield 136, 3) := by decide +kernel
theorem dX8_way_49 : decode cX8_way 49 = .ok (.iload_n 1, 1) := by decide +kernel
theorem dX8_way_50 : decode cX8_way 50 = .ok (.iastore, 1) := by decide +kernel
theorem dX8_way_51 : decode cX8_way 51 = .ok (.aload_n 0, 1) := by decide +kernel
theorem dX8_way_52 : decode cX8_way 52 = .ok (.getfield 34, 3) := by decide +kernel
theorem dX8_way_55 : decode cX8_way 55 = .ok (.aload_n 0, 1) := by decide +kernel
theorem dX8_way_56 : decode cX8_way 56 = .ok (.getfield 136, 3) := by decide +kernel
theorem dX8_way_59 : decode cX8_way 59 = .ok (.iload_n 2, 1) := by decide +kernel
theorem dX8_way_60 : decode cX8_way 60 = .ok (.iastore, 1) := by decide +kernel
theorem dX8_way_61 : decode cX8_way 61 = .ok (.aload_n 0, 1) := by decide +kernel
theorem dX8_way_62 : decode cX8_way 62 = .ok (.getfield 37, 3) := by decide +kernel
theorem dX8_way_65 : decode cX8_way 65 = .ok (.aload_n 0, 1) := by decide +kernel
theorem dX8_way_66 : decode cX8_way 66 = .ok (.getfield 136, 3) := by decide +kernel
theorem dX8_way_69 : decode cX8_way 69 = .ok (.iload_n 3, 1) := by decide +kernel
theorem dX8_way_70 : decode cX8_way 70 = .ok (.iastore, 1) := by decide +kernel
theorem dX8_way_71 : decode cX8_way 71 = .ok (.aload_n 0, 1) := by decide +kernel
theorem dX8_way_72 : decode cX8_way 72 = .ok (.dup, 1) := by decide +kernel
theorem dX8_way_73 : decode cX8_way 73 = .ok (.getfield 136, 3) := by decide +kernel
theorem dX8_way_76 : decode cX8_way 76 = .ok (.iconst 1, 1) := by decide +kernel
theorem dX8_way_77 : decode cX8_way 77 = .ok (.iadd, 1) := by decide +kernel
theorem dX8_way_78 : decode cX8_way 78 = .ok (.putfield 136, 3) := by decide +kernel
theorem dX8_way_81 : decode cX8_way 81 = .ok (.aload_n 0, 1) := by decide +kernel
theorem dX8_way_82 : decode cX8_way 82 = .ok (.getfield 136, 3) := by decide +kernel
theorem dX8_way_85 : decode cX8_way 85 = .ok (.iconst 1, 1) := by decide +kernel
theorem dX8_way_86 : decode cX8_way 86 = .ok (.isub, 1) := by decide +kernel
theorem dX8_way_87 : decode cX8_way 87 = .ok (.ireturn, 1) := by decide +kernel
theorem dX8_set_0 : decode cX8_set 0 = .ok (.iload_n 1, 1) := by decide +kernel
theorem dX8_set_1 : decode cX8_set 1 = .ok (.tableswitch 261 0 5 #[39, 79, 118, 157, 196, 234], 39) := by decide +kernel
theorem dX8_set_40 : decode cX8_set 40 = .ok (.aload_n 0, 1) := by decide +kernel
theorem dX8_set_41 : decode cX8_set 41 = .ok (.iload_n 2, 1) := by decide +kernel
theorem dX8_set_42 : decode cX8_set 42 = .ok (.invokevirtual 146, 3) := by decide +kernel
theorem dX8_set_45 : decode cX8_set 45 = .ok (.ifCond .eq 14, 3) := by decide +kernel
theorem dX8_set_48 : decode cX8_set 48 = .ok (.iload_n 3, 1) := by decide +kernel
theorem dX8_set_49 : decode cX8_set 49 = .ok (.iconst 0, 1) := by decide +kernel
theorem dX8_set_50 : decode cX8_set 50 = .ok (.sipush 400, 3) := by decide +kernel
theorem dX8_set_53 : decode cX8_set 53 = .ok (.invokestatic 132, 3) := by decide +kernel
theorem dX8_set_56 : decode cX8_set 56 = .ok (.ifCond .ne 6, 3) := by decide +kernel
theorem dX8_set_59 : decode cX8_set 59 = .ok (.bipush (-2), 2) := by decide +kernel
theorem dX8_set_61 : decode cX8_set 61 = .ok (.ireturn, 1) := by decide +kernel
theorem dX8_set_62 : decode cX8_set 62 = .ok (.aload_n 0, 1) := by decide +kernel
theorem dX8_set_63 : decode cX8_set 63 = .ok (.getfield 7, 3) := by decide +kernel
theorem dX8_set_66 : decode cX8_set 66 = .ok (.iload_n 2, 1) := by decide +kernel
theorem dX8_set_67 : decode cX8_set 67 = .ok (.iaload, 1) := by decide +kernel
theorem dX8_set_68 : decode cX8_set 68 = .ok (.istore 4, 2) := by decide +kernel
theorem dX8_set_70 : decode cX8_set 70 = .ok (.aload_n 0, 1) := by decide +kernel
theorem dX8_set_71 : decode cX8_set 71 = .ok (.getfield 7, 3) := by decide +kernel
theorem dX8_set_74 : decode cX8_set 74 = .ok (.iload_n 2, 1) := by decide +kernel
theorem dX8_set_75 : decode cX8_set 75 = .ok (.iload_n 3, 1) := by decide +kernel
theorem dX8_set_76 : decode cX8_set 76 = .ok (.iastore, 1) := by decide +kernel
theorem dX8_set_77 : decode cX8_set 77 = .ok (.iload 4, 2) := by decide +kernel
theorem dX8_set_79 : decode cX8_set 79 = .ok (.ireturn, 1) := by decide +kernel
theorem dX8_set_80 : decode cX8_set 80 = .ok (.aload_n 0, 1) := by decide +kernel
theorem dX8_set_81 : decode cX8_set 81 = .ok (.iload_n 2, 1) := by decide +kernel
theorem dX8_set_82 : decode cX8_set 82 = .ok (.invokevirtual 146, 3) := by decide +kernel
theorem dX8_set_85 : decode cX8_set 85 = .ok (.ifCond .eq 13, 3) := by decide +kernel
theorem dX8_set_88 : decode cX8_set 88 = .ok (.iload_n 3, 1) := by decide +kernel
theorem dX8_set_89 : decode cX8_set 89 = .ok (.iconst 0, 1) := by decide +kernel
theorem dX8_set_90 : decode cX8_set 90 = .ok (.bipush 40, 2) := by decide +kernel
theorem dX8_set_92 : decode cX8_set 92 = .ok (.invokestatic 132, 3) := by decide +kernel
theorem dX8_set_95 : decode cX8_set 95 = .ok (.ifCond .ne 6, 3) := by decide +kernel
theorem dX8_set_98 : decode cX8_set 98 = .ok (.bipush (-2), 2) := by decide +kernel
theorem dX8_set_100 : decode cX8_set 100 = .ok (.ireturn, 1) := by decide +kernel
theorem dX8_set_101 : decode cX8_set 101 = .ok (.aload_n 0, 1) := by decide +kernel
theorem dX8_set_102 : decode cX8_set 102 = .ok (.getfield 13, 3) := by decide +kernel
theorem dX8_set_105 : decode cX8_set 105 = .ok (.iload_n 2, 1) := by decide +kernel
theorem dX8_set_106 : decode cX8_set 106 = .ok (.iaload, 1) := by decide +kernel
theorem dX8_set_107 : decode cX8_set 107 = .ok (.istore 4, 2) := by decide +kernel
theorem dX8_set_109 : decode cX8_set 109 = .ok (.aload_n 0, 1) := by decide +kernel
theorem dX8_set_110 : decode cX8_set 110 = .ok (.getfield 13, 3) := by decide +kernel
theorem dX8_set_113 : decode cX8_set 113 = .ok (.iload_n 2, 1) := by decide +kernel
theorem dX8_set_114 : decode cX8_set 114 = .ok (.iload_n 3, 1) := by decide +kernel
theorem dX8_set_115 : decode cX8_set 115 = .ok (.iastore, 1) := by decide +kernel
theorem dX8_set_116 : decode cX8_set 116 = .ok (.iload 4, 2) := by decide +kernel
theorem dX8_set_118 : decode cX8_set 118 = .ok (.ireturn, 1) := by decide +kernel
theorem dX8_set_119 : decode cX8_set 119 = .ok (.aload_n 0, 1) := by decide +kernel
theorem dX8_set_120 : decode cX8_set 120 = .ok (.iload_n 2, 1) := by decide +kernel
theorem dX8_set_121 : decode cX8_set 121 = .ok (.invokevirtual 146, 3) := by decide +kernel
theorem dX8_set_124 : decode cX8_set 124 = .ok (.ifCond .eq 13, 3) := by decide +kernel
theorem dX8_set_127 : decode cX8_set 127 = .ok (.iload_n 3, 1) := by decide +kernel
theorem dX8_set_128 : decode cX8_set 128 = .ok (.iconst 1, 1) := by decide +kernel
theorem dX8_set_129 : decode cX8_set 129 = .ok (.bipush 60, 2) := by decide +kernel
theorem dX8_set_131 : decode cX8_set 131 = .ok (.invokestatic 132, 3) := by decide +kernel
theorem dX8_set_134 : decode cX8_set 134 = .ok (.ifCond .ne 6, 3) := by decide +kernel
theorem dX8_set_137 : decode cX8_set 137 = .ok (.bipush (-2), 2) := by decide +kernel
theorem dX8_set_139 : decode cX8_set 139 = .ok (.ireturn, 1) := by decide +kernel
theorem dX8_set_140 : decode cX8_set 140 = .ok (.aload_n 0, 1) := by decide +kernel
theorem dX8_set_141 : decode cX8_set 141 = .ok (.getfield 16, 3) := by decide +kernel
theorem dX8_set_144 : decode cX8_set 144 = .ok (.iload_n 2, 1) := by decide +kernel
theorem dX8_set_145 : decode cX8_set 145 = .ok (.iaload, 1) := by decide +kernel
theorem dX8_set_146 : decode cX8_set 146 = .ok (.istore 4, 2) := by decide +kernel
theorem dX8_set_148 : decode cX8_set 148 = .ok (.aload_n 0, 1) := by decide +kernel
theorem dX8_set_149 : decode cX8_set 149 = .ok (.getfield 16, 3) := by decide +kernel
theorem dX8_set_152 : decode cX8_set 152 = .ok (.iload_n 2, 1) := by decide +kernel
theorem dX8_set_153 : decode cX8_set 153 = .ok (.iload_n 3, 1) := by decide +kernel
theorem dX8_set_154 : decode cX8_set 154 = .ok (.iastore, 1) := by decide +kernel
theorem dX8_set_155 : decode cX8_set 155 = .ok (.iload 4, 2) := by decide +kernel
theorem dX8_set_157 : decode cX8_set 157 = .ok (.ireturn, 1) := by decide +kernel
theorem dX8_set_158 : decode cX8_set 158 = .ok (.aload_n 0, 1) := by decide +kernel
theorem dX8_set_159 : decode cX8_set 159 = .ok (.iload_n 2, 1) := by decide +kernel
theorem dX8_set_160 : decode cX8_set 160 = .ok (.invokevirtual 146, 3) := by decide +kernel
theorem dX8_set_163 : decode cX8_set 163 = .ok (.ifCond .eq 13, 3) := by decide +kernel
theorem dX8_set_166 : decode cX8_set 166 = .ok (.iload_n 3, 1) := by decide +kernel
theorem dX8_set_167 : decode cX8_set 167 = .ok (.iconst 0, 1) := by decide +kernel
theorem dX8_set_168 : decode cX8_set 168 = .ok (.bipush 9, 2) := by decide +kernel
theorem dX8_set_170 : decode cX8_set 170 = .ok (.invokestatic 132, 3) := by decide +kernel
theorem dX8_set_173 : decode cX8_set 173 = .ok (.ifCond .ne 6, 3) := by decide +kernel
theorem dX8_set_176 : decode cX8_set 176 = .ok (.bipush (-2), 2) := by decide +kernel
theorem dX8_set_178 : decode cX8_set 178 = .ok (.ireturn, 1) := by decide +kernel
theorem dX8_set_179 : decode cX8_set 179 = .ok (.aload_n 0, 1) := by decide +kernel
theorem dX8_set_180 : decode cX8_set 180 = .ok (.getfield 19, 3) := by decide +kernel
theorem dX8_set_183 : decode cX8_set 183 = .ok (.iload_n 2, 1) := by decide +kernel
theorem dX8_set_184 : decode cX8_set 184 = .ok (.iaload, 1) := by decide +kernel
theorem dX8_set_185 : decode cX8_set 185 = .ok (.istore 4, 2) := by decide +kernel
theorem dX8_set_187 : decode cX8_set 187 = .ok (.aload_n 0, 1) := by decide +kernel
theorem dX8_set_188 : decode cX8_set 188 = .ok (.getfield 19, 3) := by decide +kernel
theorem dX8_set_191 : decode cX8_set 191 = .ok (.iload_n 2, 1) := by decide +kernel
theorem dX8_set_192 : decode cX8_set 192 = .ok (.iload_n 3, 1) := by decide +kernel
theorem dX8_set_193 : decode cX8_set 193 = .ok (.iastore, 1) := by decide +kernel
theorem dX8_set_194 : decode cX8_set 194 = .ok (.iload 4, 2) := by decide +kernel
theorem dX8_set_196 : decode cX8_set 196 = .ok (.ireturn, 1) := by decide +kernel
theorem dX8_set_197 : decode cX8_set 197 = .ok (.iload_n 2, 1) := by decide +kernel
theorem dX8_set_198 : decode cX8_set 198 = .ok (.invokestatic 139, 3) := by decide +kernel
theorem dX8_set_201 : decode cX8_set 201 = .ok (.ifCond .eq 13, 3) := by decide +kernel
theorem dX8_set_204 : decode cX8_set 204 = .ok (.iload_n 3, 1) := by decide +kernel
theorem dX8_set_205 : decode cX8_set 205 = .ok (.iconst 0, 1) := by decide +kernel
theorem dX8_set_206 : decode cX8_set 206 = .ok (.bipush 9, 2) := by decide +kernel
theorem dX8_set_208 : decode cX8_set 208 = .ok (.invokestatic 132, 3) := by decide +kernel
theorem dX8_set_211 : decode cX8_set 211 = .ok (.ifCond .ne 6, 3) := by decide +kernel
theorem dX8_set_214 : decode cX8_set 214 = .ok (.bipush (-2), 2) := by decide +kernel
theorem dX8_set_216 : decode cX8_set 216 = .ok (.ireturn, 1) := by decide +kernel
theorem dX8_set_217 : decode cX8_set 217 = .ok (.aload_n 0, 1) := by decide +kernel
theorem dX8_set_218 : decode cX8_set 218 = .ok (.getfield 40, 3) := by decide +kernel
theorem dX8_set_221 : decode cX8_set 221 = .ok (.iload_n 2, 1) := by decide +kernel
theorem dX8_set_222 : decode cX8_set 222 = .ok (.iaload, 1) := by decide +kernel
theorem dX8_set_223 : decode cX8_set 223 = .ok (.istore 4, 2) := by decide +kernel
theorem dX8_set_225 : decode cX8_set 225 = .ok (.aload_n 0, 1) := by decide +kernel
theorem dX8_set_226 : decode cX8_set 226 = .ok (.getfield 40, 3) := by decide +kernel
theorem dX8_set_229 : decode cX8_set 229 = .ok (.iload_n 2, 1) := by decide +kernel
theorem dX8_set_230 : decode cX8_set 230 = .ok (.iload_n 3, 1) := by decide +kernel
theorem dX8_set_231 : decode cX8_set 231 = .ok (.iastore, 1) := by decide +kernel
theorem dX8_set_232 : decode cX8_set 232 = .ok (.iload 4, 2) := by decide +kernel
theorem dX8_set_234 : decode cX8_set 234 = .ok (.ireturn, 1) := by decide +kernel
theorem dX8_set_235 : decode cX8_set 235 = .ok (.iload_n 3, 1) := by decide +kernel
theorem dX8_set_236 : decode cX8_set 236 = .ok (.iconst 1, 1) := by decide +kernel
theorem dX8_set_237 : decode cX8_set 237 = .ok (.bipush 120, 2) := by decide +kernel
theorem dX8_set_239 : decode cX8_set 239 = .ok (.invokestatic 132, 3) := by decide +kernel
theorem dX8_set_242 : decode cX8_set 242 = .ok (.ifCond .ne 6, 3) := by decide +kernel
theorem dX8_set_245 : decode cX8_set 245 = .ok (.bipush (-2), 2) := by decide +kernel
theorem dX8_set_247 : decode cX8_set 247 = .ok (.ireturn, 1) := by decide +kernel
theorem dX8_set_248 : decode cX8_set 248 = .ok (.aload_n 0, 1) := by decide +kernel
theorem dX8_set_249 : decode cX8_set 249 = .ok (.getfield 43, 3) := by decide +kernel
theorem dX8_set_252 : decode cX8_set 252 = .ok (.istore 4, 2) := by decide +kernel
theorem dX8_set_254 : decode cX8_set 254 = .ok (.aload_n 0, 1) := by decide +kernel
theorem dX8_set_255 : decode cX8_set 255 = .ok (.iload_n 3, 1) := by decide +kernel
theorem dX8_set_256 : decode cX8_set 256 = .ok (.putfield 43, 3) := by decide +kernel
theorem dX8_set_259 : decode cX8_set 259 = .ok (.iload 4, 2) := by decide +kernel
theorem dX8_set_261 : decode cX8_set 261 = .ok (.ireturn, 1) := by decide +kernel
theorem dX8_set_262 : decode cX8_set 262 = .ok (.bipush (-2), 2) := by decide +kernel
theorem dX8_set_264 : decode cX8_set 264 = .ok (.ireturn, 1) := by decide +kernel
theorem dX8_shut_0 : decode cX8_shut 0 = .ok (.iload_n 1, 1) := by decide +kernel
theorem dX8_shut_1 : decode cX8_shut 1 = .ok (.iconst (-1), 1) := by decide +kernel
theorem dX8_shut_2 : decode cX8_shut 2 = .ok (.if_icmp .eq 23, 3) := by decide +kernel
theorem dX8_shut_5 : decode cX8_shut 5 = .ok (.iload_n 1, 1) := by decide +kernel
theorem dX8_shut_6 : decode cX8_shut 6 = .ok (.invokestatic 139, 3) := by decide +kernel
theorem dX8_shut_9 : decode cX8_shut 9 = .ok (.ifCond .eq 13, 3) := by decide +kernel
theorem dX8_shut_12 : decode cX8_shut 12 = .ok (.iload_n 2, 1) := by decide +kernel
theorem dX8_shut_13 : decode cX8_shut 13 = .ok (.iload_n 1, 1) := by decide +kernel
theorem dX8_shut_14 : decode cX8_shut 14 = .ok (.bipush 119, 2) := by decide +kernel
theorem dX8_shut_16 : decode cX8_shut 16 = .ok (.invokestatic 132, 3) := by decide +kernel
theorem dX8_shut_19 : decode cX8_shut 19 = .ok (.ifCond .ne 6, 3) := by decide +kernel
theorem dX8_shut_22 : decode cX8_shut 22 = .ok (.bipush (-2), 2) := by decide +kernel
theorem dX8_shut_24 : decode cX8_shut 24 = .ok (.ireturn, 1) := by decide +kernel
theorem dX8_shut_25 : decode cX8_shut 25 = .ok (.aload_n 0, 1) := by decide +kernel
theorem dX8_shut_26 : decode cX8_shut 26 = .ok (.iload_n 1, 1) := by decide +kernel
theorem dX8_shut_27 : decode cX8_shut 27 = .ok (.putfield 47, 3) := by decide +kernel
theorem dX8_shut_30 : decode cX8_shut 30 = .ok (.aload_n 0, 1) := by decide +kernel
theorem dX8_shut_31 : decode cX8_shut 31 = .ok (.iload_n 2, 1) := by decide +kernel
theorem dX8_shut_32 : decode cX8_shut 32 = .ok (.putfield 149, 3) := by decide +kernel
theorem dX8_shut_35 : decode cX8_shut 35 = .ok (.iconst 1, 1) := by decide +kernel
theorem dX8_shut_36 : decode cX8_shut 36 = .ok (.ireturn, 1) := by decide +kernel
theorem dX8_isShut_0 : decode cX8_isShut 0 = .ok (.aload_n 0, 1) := by decide +kernel
theorem dX8_isShut_1 : decode cX8_isShut 1 = .ok (.getfield 47, 3) := by decide +kernel
theorem dX8_isShut_4 : decode cX8_isShut 4 = .ok (.ifCond .lt 23, 3) := by decide +kernel
theorem dX8_isShut_7 : decode cX8_isShut 7 = .ok (.iload_n 1, 1) := by decide +kernel
theorem dX8_isShut_8 : decode cX8_isShut 8 = .ok (.aload_n 0, 1) := by decide +kernel
theorem dX8_isShut_9 : decode cX8_isShut 9 = .ok (.getfield 47, 3) := by decide +kernel
theorem dX8_isShut_12 : decode cX8_isShut 12 = .ok (.if_icmp .lt 15, 3) := by decide +kernel
theorem dX8_isShut_15 : decode cX8_isShut 15 = .ok (.iload_n 1, 1) := by decide +kernel
theorem dX8_isShut_16 : decode cX8_isShut 16 = .ok (.aload_n 0, 1) := by decide +kernel
theorem dX8_isShut_17 : decode cX8_isShut 17 = .ok (.getfield 149, 3) := by decide +kernel
theorem dX8_isShut_20 : decode cX8_isShut 20 = .ok (.if_icmp .gt 7, 3) := by decide +kernel
theorem dX8_isShut_23 : decode cX8_isShut 23 = .ok (.iconst 1, 1) := by decide +kernel
theorem dX8_isShut_24 : decode cX8_isShut 24 = .ok (.goto 4, 3) := by decide +kernel
theorem dX8_isShut_27 : decode cX8_isShut 27 = .ok (.iconst 0, 1) := by decide +kernel
theorem dX8_isShut_28 : decode cX8_isShut 28 = .ok (.ireturn, 1) := by decide +kernel
theorem dX8_calls_0 : decode cX8_calls 0 = .ok (.aload_n 0, 1) := by decide +kernel
theorem dX8_calls_1 : decode cX8_calls 1 = .ok (.getfield 50, 3) := by decide +kernel
theorem dX8_calls_4 : decode cX8_calls 4 = .ok (.ifCond .lt 35, 3) := by decide +kernel
theorem dX8_calls_7 : decode cX8_calls 7 = .ok (.iload_n 2, 1) := by decide +kernel
theorem dX8_calls_8 : decode cX8_calls 8 = .ok (.aload_n 0, 1) := by decide +kernel
theorem dX8_calls_9 : decode cX8_calls 9 = .ok (.getfield 117, 3) := by decide +kernel
theorem dX8_calls_12 : decode cX8_calls 12 = .ok (.aload_n 0, 1) := by decide +kernel
theorem dX8_calls_13 : decode cX8_calls 13 = .ok (.getfield 50, 3) := by decide +kernel
theorem dX8_calls_16 : decode cX8_calls 16 = .ok (.iaload, 1) := by decide +kernel
theorem dX8_calls_17 : decode cX8_calls 17 = .ok (.if_icmp .ge 20, 3) := by decide +kernel
theorem dX8_calls_20 : decode cX8_calls 20 = .ok (.aload_n 0, 1) := by decide +kernel
theorem dX8_calls_21 : decode cX8_calls 21 = .ok (.getfield 120, 3) := by decide +kernel
theorem dX8_calls_24 : decode cX8_calls 24 = .ok (.bipush 40, 2) := by decide +kernel
theorem dX8_calls_26 : decode cX8_calls 26 = .ok (.aload_n 0, 1) := by decide +kernel
theorem dX8_calls_27 : decode cX8_calls 27 = .ok (.getfield 50, 3) := by decide +kernel
theorem dX8_calls_30 : decode cX8_calls 30 = .ok (.imul, 1) := by decide +kernel
theorem dX8_calls_31 : decode cX8_calls 31 = .ok (.iload_n 2, 1) := by decide +kernel
theorem dX8_calls_32 : decode cX8_calls 32 = .ok (.iadd, 1) := by decide +kernel
theorem dX8_calls_33 : decode cX8_calls 33 = .ok (.iaload, 1) := by decide +kernel
theorem dX8_calls_34 : decode cX8_calls 34 = .ok (.goto 4, 3) := by decide +kernel
theorem dX8_calls_37 : decode cX8_calls 37 = .ok (.iconst 0, 1) := by decide +kernel
theorem dX8_calls_38 : decode cX8_calls 38 = .ok (.ireturn, 1) := by decide +kernel
theorem dX8_calls_39 : decode cX8_calls 39 = .ok (.aload_n 0, 1) := by decide +kernel
theorem dX8_calls_40 : decode cX8_calls 40 = .ok (.getfield 31, 3) := by decide +kernel
theorem dX8_calls_43 : decode cX8_calls 43 = .ok (.iload_n 1, 1) := by decide +kernel
theorem dX8_calls_44 : decode cX8_calls 44 = .ok (.iaload, 1) := by decide +kernel
theorem dX8_calls_45 : decode cX8_calls 45 = .ok (.ifCond .eq 33, 3) := by decide +kernel
theorem dX8_calls_48 : decode cX8_calls 48 = .ok (.aload_n 0, 1) := by decide +kernel
theorem dX8_calls_49 : decode cX8_calls 49 = .ok (.getfield 31, 3) := by decide +kernel
theorem dX8_calls_52 : decode cX8_calls 52 = .ok (.iload_n 1, 1) := by decide +kernel
theorem dX8_calls_53 : decode cX8_calls 53 = .ok (.iaload, 1) := by decide +kernel
theorem dX8_calls_54 : decode cX8_calls 54 = .ok (.iconst 2, 1) := by decide +kernel
theorem dX8_calls_55 : decode cX8_calls 55 = .ok (.if_icmp .eq 23, 3) := by decide +kernel
theorem dX8_calls_58 : decode cX8_calls 58 = .ok (.aload_n 0, 1) := by decide +kernel
theorem dX8_calls_59 : decode cX8_calls 59 = .ok (.getfield 31, 3) := by decide +kernel
theorem dX8_calls_62 : decode cX8_calls 62 = .ok (.iload_n 1, 1) := by decide +kernel
theorem dX8_calls_63 : decode cX8_calls 63 = .ok (.iaload, 1) := by decide +kernel
theorem dX8_calls_64 : decode cX8_calls 64 = .ok (.iconst 4, 1) := by decide +kernel
theorem dX8_calls_65 : decode cX8_calls 65 = .ok (.if_icmp .eq 13, 3) := by decide +kernel
theorem dX8_calls_68 : decode cX8_calls 68 = .ok (.iload_n 2, 1) := by decide +kernel
theorem dX8_calls_69 : decode cX8_calls 69 = .ok (.aload_n 0, 1) := by decide +kernel
theorem dX8_calls_70 : decode cX8_calls 70 = .ok (.getfield 34, 3) := by decide +kernel
theorem dX8_calls_73 : decode cX8_calls 73 = .ok (.iload_n 1, 1) := by decide +kernel
theorem dX8_calls_74 : decode cX8_calls 74 = .ok (.iaload, 1) := by decide +kernel
theorem dX8_calls_75 : decode cX8_calls 75 = .ok (.if_icmp .ge 5, 3) := by decide +kernel
theorem dX8_calls_78 : decode cX8_calls 78 = .ok (.iconst 0, 1) := by decide +kernel
theorem dX8_calls_79 : decode cX8_calls 79 = .ok (.ireturn, 1) := by decide +kernel
theorem dX8_calls_80 : decode cX8_calls 80 = .ok (.aload_n 0, 1) := by decide +kernel
theorem dX8_calls_81 : decode cX8_calls 81 = .ok (.getfield 37, 3) := by decide +kernel
theorem dX8_calls_84 : decode cX8_calls 84 = .ok (.iload_n 1, 1) := by decide +kernel
theorem dX8_calls_85 : decode cX8_calls 85 = .ok (.iaload, 1) := by decide +kernel
theorem dX8_calls_86 : decode cX8_calls 86 = .ok (.istore_n 3, 1) := by decide +kernel
theorem dX8_calls_87 : decode cX8_calls 87 = .ok (.aload_n 0, 1) := by decide +kernel
theorem dX8_calls_88 : decode cX8_calls 88 = .ok (.getfield 31, 3) := by decide +kernel
theorem dX8_calls_91 : decode cX8_calls 91 = .ok (.iload_n 1, 1) := by decide +kernel
theorem dX8_calls_92 : decode cX8_calls 92 = .ok (.iaload, 1) := by decide +kernel
theorem dX8_calls_93 : decode cX8_calls 93 = .ok (.iconst 1, 1) := by decide +kernel
theorem dX8_calls_94 : decode cX8_calls 94 = .ok (.if_icmp .ne 5, 3) := by decide +kernel
theorem dX8_calls_97 : decode cX8_calls 97 = .ok (.iload_n 3, 1) := by decide +kernel
theorem dX8_calls_98 : decode cX8_calls 98 = .ok (.ireturn, 1) := by decide +kernel
theorem dX8_calls_99 : decode cX8_calls 99 = .ok (.iload_n 2, 1) := by decide +kernel
theorem dX8_calls_100 : decode cX8_calls 100 = .ok (.aload_n 0, 1) := by decide +kernel
theorem dX8_calls_101 : decode cX8_calls 101 = .ok (.getfield 34, 3) := by decide +kernel
theorem dX8_calls_104 : decode cX8_calls 104 = .ok (.iload_n 1, 1) := by decide +kernel
theorem dX8_calls_105 : decode cX8_calls 105 = .ok (.iaload, 1) := by decide +kernel
theorem dX8_calls_106 : decode cX8_calls 106 = .ok (.isub, 1) := by decide +kernel
theorem dX8_calls_107 : decode cX8_calls 107 = .ok (.bipush 10, 2) := by decide +kernel
theorem dX8_calls_109 : decode cX8_calls 109 = .ok (.irem, 1) := by decide +kernel
theorem dX8_calls_110 : decode cX8_calls 110 = .ok (.ifCond .ne 9, 3) := by decide +kernel
theorem dX8_calls_113 : decode cX8_calls 113 = .ok (.iload_n 3, 1) := by decide +kernel
theorem dX8_calls_114 : decode cX8_calls 114 = .ok (.iconst 5, 1) := by decide +kernel
theorem dX8_calls_115 : decode cX8_calls 115 = .ok (.iadd, 1) := by decide +kernel
theorem dX8_calls_116 : decode cX8_calls 116 = .ok (.goto 4, 3) := by decide +kernel
theorem dX8_calls_119 : decode cX8_calls 119 = .ok (.iload_n 3, 1) := by decide +kernel
theorem dX8_calls_120 : decode cX8_calls 120 = .ok (.istore 4, 2) := by decide +kernel
theorem dX8_calls_122 : decode cX8_calls 122 = .ok (.aload_n 0, 1) := by decide +kernel
theorem dX8_calls_123 : decode cX8_calls 123 = .ok (.getfield 31, 3) := by decide +kernel
theorem dX8_calls_126 : decode cX8_calls 126 = .ok (.iload_n 1, 1) := by decide +kernel
theorem dX8_calls_127 : decode cX8_calls 127 = .ok (.iaload, 1) := by decide +kernel
theorem dX8_calls_128 : decode cX8_calls 128 = .ok (.iconst 3, 1) := by decide +kernel
theorem dX8_calls_129 : decode cX8_calls 129 = .ok (.if_icmp .ne 8, 3) := by decide +kernel
theorem dX8_calls_132 : decode cX8_calls 132 = .ok (.iload 4, 2) := by decide +kernel
theorem dX8_calls_134 : decode cX8_calls 134 = .ok (.goto 7, 3) := by decide +kernel
theorem dX8_calls_137 : decode cX8_calls 137 = .ok (.iconst 2, 1) := by decide +kernel
theorem dX8_calls_138 : decode cX8_calls 138 = .ok (.iload 4, 2) := by decide +kernel
theorem dX8_calls_140 : decode cX8_calls 140 = .ok (.imul, 1) := by decide +kernel
theorem dX8_calls_141 : decode cX8_calls 141 = .ok (.ireturn, 1) := by decide +kernel
theorem dX8_asks_0 : decode cX8_asks 0 = .ok (.aload_n 0, 1) := by decide +kernel
theorem dX8_asks_1 : decode cX8_asks 1 = .ok (.getfield 50, 3) := by decide +kernel
theorem dX8_asks_4 : decode cX8_asks 4 = .ok (.ifCond .lt 5, 3) := by decide +kernel
theorem dX8_asks_7 : decode cX8_asks 7 = .ok (.iconst 1, 1) := by decide +kernel
theorem dX8_asks_8 : decode cX8_asks 8 = .ok (.ireturn, 1) := by decide +kernel
theorem dX8_asks_9 : decode cX8_asks 9 = .ok (.iload_n 2, 1) := by decide +kernel
theorem dX8_asks_10 : decode cX8_asks 10 = .ok (.aload_n 0, 1) := by decide +kernel
theorem dX8_asks_11 : decode cX8_asks 11 = .ok (.getfield 34, 3) := by decide +kernel
theorem dX8_asks_14 : decode cX8_asks 14 = .ok (.iload_n 1, 1) := by decide +kernel
theorem dX8_asks_15 : decode cX8_asks 15 = .ok (.iaload, 1) := by decide +kernel
theorem dX8_asks_16 : decode cX8_asks 16 = .ok (.if_icmp .lt 14, 3) := by decide +kernel
theorem dX8_asks_19 : decode cX8_asks 19 = .ok (.iconst 1, 1) := by decide +kernel
theorem dX8_asks_20 : decode cX8_asks 20 = .ok (.aload_n 0, 1) := by decide +kernel
theorem dX8_asks_21 : decode cX8_asks 21 = .ok (.getfield 37, 3) := by decide +kernel
theorem dX8_asks_24 : decode cX8_asks 24 = .ok (.iload_n 1, 1) := by decide +kernel
theorem dX8_asks_25 : decode cX8_asks 25 = .ok (.iaload, 1) := by decide +kernel
theorem dX8_asks_26 : decode cX8_asks 26 = .ok (.iadd, 1) := by decide +kernel
theorem dX8_asks_27 : decode cX8_asks 27 = .ok (.goto 4, 3) := by decide +kernel
theorem dX8_asks_30 : decode cX8_asks 30 = .ok (.iconst 1, 1) := by decide +kernel
theorem dX8_asks_31 : decode cX8_asks 31 = .ok (.istore_n 3, 1) := by decide +kernel
theorem dX8_asks_32 : decode cX8_asks 32 = .ok (.aload_n 0, 1) := by decide +kernel
theorem dX8_asks_33 : decode cX8_asks 33 = .ok (.getfield 31, 3) := by decide +kernel
theorem dX8_asks_36 : decode cX8_asks 36 = .ok (.iload_n 1, 1) := by decide +kernel
theorem dX8_asks_37 : decode cX8_asks 37 = .ok (.iaload, 1) := by decide +kernel
theorem dX8_asks_38 : decode cX8_asks 38 = .ok (.tableswitch 45 2 5 #[30, 36, 32, 38], 30) := by decide +kernel
theorem dX8_asks_68 : decode cX8_asks 68 = .ok (.iload_n 3, 1) := by decide +kernel
theorem dX8_asks_69 : decode cX8_asks 69 = .ok (.ireturn, 1) := by decide +kernel
theorem dX8_asks_70 : decode cX8_asks 70 = .ok (.iconst 2, 1) := by decide +kernel
theorem dX8_asks_71 : decode cX8_asks 71 = .ok (.iload_n 3, 1) := by decide +kernel
theorem dX8_asks_72 : decode cX8_asks 72 = .ok (.imul, 1) := by decide +kernel
theorem dX8_asks_73 : decode cX8_asks 73 = .ok (.ireturn, 1) := by decide +kernel
theorem dX8_asks_74 : decode cX8_asks 74 = .ok (.iconst 0, 1) := by decide +kernel
theorem dX8_asks_75 : decode cX8_asks 75 = .ok (.ireturn, 1) := by decide +kernel
theorem dX8_asks_76 : decode cX8_asks 76 = .ok (.aload_n 0, 1) := by decide +kernel
theorem dX8_asks_77 : decode cX8_asks 77 = .ok (.getfield 37, 3) := by decide +kernel
theorem dX8_asks_80 : decode cX8_asks 80 = .ok (.iload_n 1, 1) := by decide +kernel
theorem dX8_asks_81 : decode cX8_asks 81 = .ok (.iaload, 1) := by decide +kernel
theorem dX8_asks_82 : decode cX8_asks 82 = .ok (.ireturn, 1) := by decide +kernel
theorem dX8_asks_83 : decode cX8_asks 83 = .ok (.iconst 1, 1) := by decide +kernel
theorem dX8_asks_84 : decode cX8_asks 84 = .ok (.ireturn, 1) := by decide +kernel
theorem dX8_orderOf_0 : decode cX8_orderOf 0 = .ok (.aload_n 0, 1) := by decide +kernel
theorem dX8_orderOf_1 : decode cX8_orderOf 1 = .ok (.getfield 50, 3) := by decide +kernel
theorem dX8_orderOf_4 : decode cX8_orderOf 4 = .ok (.ifCond .lt 7, 3) := by decide +kernel
theorem dX8_orderOf_7 : decode cX8_orderOf 7 = .ok (.iconst 0, 1) := by decide +kernel
theorem dX8_orderOf_8 : decode cX8_orderOf 8 = .ok (.goto 42, 3) := by decide +kernel
theorem dX8_orderOf_11 : decode cX8_orderOf 11 = .ok (.aload_n 0, 1) := by decide +kernel
theorem dX8_orderOf_12 : decode cX8_orderOf 12 = .ok (.getfield 31, 3) := by decide +kernel
theorem dX8_orderOf_15 : decode cX8_orderOf 15 = .ok (.iload_n 1, 1) := by decide +kernel
theorem dX8_orderOf_16 : decode cX8_orderOf 16 = .ok (.iaload, 1) := by decide +kernel
theorem dX8_orderOf_17 : decode cX8_orderOf 17 = .ok (.iconst 3, 1) := by decide +kernel
theorem dX8_orderOf_18 : decode cX8_orderOf 18 = .ok (.if_icmp .eq 13, 3) := by decide +kernel
theorem dX8_orderOf_21 : decode cX8_orderOf 21 = .ok (.aload_n 0, 1) := by decide +kernel
theorem dX8_orderOf_22 : decode cX8_orderOf 22 = .ok (.getfield 31, 3) := by decide +kernel
theorem dX8_orderOf_25 : decode cX8_orderOf 25 = .ok (.iload_n 1, 1) := by decide +kernel
theorem dX8_orderOf_26 : decode cX8_orderOf 26 = .ok (.iaload, 1) := by decide +kernel
theorem dX8_orderOf_27 : decode cX8_orderOf 27 = .ok (.iconst 5, 1) := by decide +kernel
theorem dX8_orderOf_28 : decode cX8_orderOf 28 = .ok (.if_icmp .ne 7, 3) := by decide +kernel
theorem dX8_orderOf_31 : decode cX8_orderOf 31 = .ok (.iconst 1, 1) := by decide +kernel
theorem dX8_orderOf_32 : decode cX8_orderOf 32 = .ok (.goto 18, 3) := by decide +kernel
theorem dX8_orderOf_35 : decode cX8_orderOf 35 = .ok (.aload_n 0, 1) := by decide +kernel
theorem dX8_orderOf_36 : decode cX8_orderOf 36 = .ok (.getfield 31, 3) := by decide +kernel
theorem dX8_orderOf_39 : decode cX8_orderOf 39 = .ok (.iload_n 1, 1) := by decide +kernel
theorem dX8_orderOf_40 : decode cX8_orderOf 40 = .ok (.iaload, 1) := by decide +kernel
theorem dX8_orderOf_41 : decode cX8_orderOf 41 = .ok (.iconst 4, 1) := by decide +kernel
theorem dX8_orderOf_42 : decode cX8_orderOf 42 = .ok (.if_icmp .ne 7, 3) := by decide +kernel
theorem dX8_orderOf_45 : decode cX8_orderOf 45 = .ok (.iconst 2, 1) := by decide +kernel
theorem dX8_orderOf_46 : decode cX8_orderOf 46 = .ok (.goto 4, 3) := by decide +kernel
theorem dX8_orderOf_49 : decode cX8_orderOf 49 = .ok (.iconst 0, 1) := by decide +kernel
theorem dX8_orderOf_50 : decode cX8_orderOf 50 = .ok (.ireturn, 1) := by decide +kernel
theorem dX8_told_0 : decode cX8_told 0 = .ok (.aload_n 0, 1) := by decide +kernel
theorem dX8_told_1 : decode cX8_told 1 = .ok (.iload_n 1, 1) := by decide +kernel
theorem dX8_told_2 : decode cX8_told 2 = .ok (.invokevirtual 152, 3) := by decide +kernel
theorem dX8_told_5 : decode cX8_told 5 = .ok (.ifCond .eq 10, 3) := by decide +kernel
theorem dX8_told_8 : decode cX8_told 8 = .ok (.iload_n 2, 1) := by decide +kernel
theorem dX8_told_9 : decode cX8_told 9 = .ok (.invokestatic 139, 3) := by decide +kernel
theorem dX8_told_12 : decode cX8_told 12 = .ok (.ifCond .ne 6, 3) := by decide +kernel
theorem dX8_told_15 : decode cX8_told 15 = .ok (.bipush (-2), 2) := by decide +kernel
theorem dX8_told_17 : decode cX8_told 17 = .ok (.ireturn, 1) := by decide +kernel
theorem dX8_told_18 : decode cX8_told 18 = .ok (.iload_n 3, 1) := by decide +kernel
theorem dX8_told_19 : decode cX8_told 19 = .ok (.tableswitch 68 0 4 #[33, 40, 47, 54, 61], 33) := by decide +kernel
theorem dX8_told_52 : decode cX8_told 52 = .ok (.aload_n 0, 1) := by decide +kernel
theorem dX8_told_53 : decode cX8_told 53 = .ok (.getfield 31, 3) := by decide +kernel
theorem dX8_told_56 : decode cX8_told 56 = .ok (.iload_n 1, 1) := by decide +kernel
theorem dX8_told_57 : decode cX8_told 57 = .ok (.iaload, 1) := by decide +kernel
theorem dX8_told_58 : decode cX8_told 58 = .ok (.ireturn, 1) := by decide +kernel
theorem dX8_told_59 : decode cX8_told 59 = .ok (.aload_n 0, 1) := by decide +kernel
theorem dX8_told_60 : decode cX8_told 60 = .ok (.getfield 34, 3) := by decide +kernel
theorem dX8_told_63 : decode cX8_told 63 = .ok (.iload_n 1, 1) := by decide +kernel
theorem dX8_told_64 : decode cX8_told 64 = .ok (.iaload, 1) := by decide +kernel
theorem dX8_told_65 : decode cX8_told 65 = .ok (.ireturn, 1) := by decide +kernel
theorem dX8_told_66 : decode cX8_told 66 = .ok (.aload_n 0, 1) := by decide +kernel
theorem dX8_told_67 : decode cX8_told 67 = .ok (.getfield 37, 3) := by decide +kernel
theorem dX8_told_70 : decode cX8_told 70 = .ok (.iload_n 1, 1) := by decide +kernel
theorem dX8_told_71 : decode cX8_told 71 = .ok (.iaload, 1) := by decide +kernel
theorem dX8_told_72 : decode cX8_told 72 = .ok (.ireturn, 1) := by decide +kernel
theorem dX8_told_73 : decode cX8_told 73 = .ok (.aload_n 0, 1) := by decide +kernel
theorem dX8_told_74 : decode cX8_told 74 = .ok (.iload_n 1, 1) := by decide +kernel
theorem dX8_told_75 : decode cX8_told 75 = .ok (.iload_n 2, 1) := by decide +kernel
theorem dX8_told_76 : decode cX8_told 76 = .ok (.invokevirtual 155, 3) := by decide +kernel
theorem dX8_told_79 : decode cX8_told 79 = .ok (.ireturn, 1) := by decide +kernel
theorem dX8_told_80 : decode cX8_told 80 = .ok (.aload_n 0, 1) := by decide +kernel
theorem dX8_told_81 : decode cX8_told 81 = .ok (.iload_n 1, 1) := by decide +kernel
theorem dX8_told_82 : decode cX8_told 82 = .ok (.iload_n 2, 1) := by decide +kernel
theorem dX8_told_83 : decode cX8_told 83 = .ok (.invokevirtual 159, 3) := by decide +kernel
theorem dX8_told_86 : decode cX8_told 86 = .ok (.ireturn, 1) := by decide +kernel
theorem dX8_told_87 : decode cX8_told 87 = .ok (.bipush (-2), 2) := by decide +kernel
theorem dX8_told_89 : decode cX8_told 89 = .ok (.ireturn, 1) := by decide +kernel
theorem dX8_feed_0 : decode cX8_feed 0 = .ok (.iload_n 1, 1) := by decide +kernel
theorem dX8_feed_1 : decode cX8_feed 1 = .ok (.iconst 1, 1) := by decide +kernel
theorem dX8_feed_2 : decode cX8_feed 2 = .ok (.bipush 8, 2) := by decide +kernel
theorem dX8_feed_4 : decode cX8_feed 4 = .ok (.invokestatic 132, 3) := by decide +kernel
theorem dX8_feed_7 : decode cX8_feed 7 = .ok (.ifCond .ne 6, 3) := by decide +kernel
theorem dX8_feed_10 : decode cX8_feed 10 = .ok (.bipush (-2), 2) := by decide +kernel
theorem dX8_feed_12 : decode cX8_feed 12 = .ok (.ireturn, 1) := by decide +kernel
theorem dX8_feed_13 : decode cX8_feed 13 = .ok (.aload_n 0, 1) := by decide +kernel
theorem dX8_feed_14 : decode cX8_feed 14 = .ok (.getfield 162, 3) := by decide +kernel
theorem dX8_feed_17 : decode cX8_feed 17 = .ok (.iload_n 1, 1) := by decide +kernel
theorem dX8_feed_18 : decode cX8_feed 18 = .ok (.iadd, 1) := by decide +kernel
theorem dX8_feed_19 : decode cX8_feed 19 = .ok (.sipush 160, 3) := by decide +kernel
theorem dX8_feed_22 : decode cX8_feed 22 = .ok (.if_icmp .le 6, 3) := by decide +kernel
theorem dX8_feed_25 : decode cX8_feed 25 = .ok (.bipush (-4), 2) := by decide +kernel
theorem dX8_feed_27 : decode cX8_feed 27 = .ok (.ireturn, 1) := by decide +kernel
theorem dX8_feed_28 : decode cX8_feed 28 = .ok (.iconst 0, 1) := by decide +kernel
theorem dX8_feed_29 : decode cX8_feed 29 = .ok (.istore 4, 2) := by decide +kernel
theorem dX8_feed_31 : decode cX8_feed 31 = .ok (.iload 4, 2) := by decide +kernel
theorem dX8_feed_33 : decode cX8_feed 33 = .ok (.iload_n 1, 1) := by decide +kernel
theorem dX8_feed_34 : decode cX8_feed 34 = .ok (.if_icmp .ge 37, 3) := by decide +kernel
theorem dX8_feed_37 : decode cX8_feed 37 = .ok (.aload_n 0, 1) := by decide +kernel
theorem dX8_feed_38 : decode cX8_feed 38 = .ok (.getfield 53, 3) := by decide +kernel
theorem dX8_feed_41 : decode cX8_feed 41 = .ok (.aload_n 0, 1) := by decide +kernel
theorem dX8_feed_42 : decode cX8_feed 42 = .ok (.getfield 162, 3) := by decide +kernel
theorem dX8_feed_45 : decode cX8_feed 45 = .ok (.lload_n 2, 1) := by decide +kernel
theorem dX8_feed_46 : decode cX8_feed 46 = .ok (.bipush 8, 2) := by decide +kernel
theorem dX8_feed_48 : decode cX8_feed 48 = .ok (.iload 4, 2) := by decide +kernel
theorem dX8_feed_50 : decode cX8_feed 50 = .ok (.imul, 1) := by decide +kernel
theorem dX8_feed_51 : decode cX8_feed 51 = .ok (.lshr, 1) := by decide +kernel
theorem dX8_feed_52 : decode cX8_feed 52 = .ok (.l2i, 1) := by decide +kernel
theorem dX8_feed_53 : decode cX8_feed 53 = .ok (.i2b, 1) := by decide +kernel
theorem dX8_feed_54 : decode cX8_feed 54 = .ok (.bastore, 1) := by decide +kernel
theorem dX8_feed_55 : decode cX8_feed 55 = .ok (.aload_n 0, 1) := by decide +kernel
theorem dX8_feed_56 : decode cX8_feed 56 = .ok (.dup, 1) := by decide +kernel
theorem dX8_feed_57 : decode cX8_feed 57 = .ok (.getfield 162, 3) := by decide +kernel
theorem dX8_feed_60 : decode cX8_feed 60 = .ok (.iconst 1, 1) := by decide +kernel
theorem dX8_feed_61 : decode cX8_feed 61 = .ok (.iadd, 1) := by decide +kernel
theorem dX8_feed_62 : decode cX8_feed 62 = .ok (.putfield 162, 3) := by decide +kernel
theorem dX8_feed_65 : decode cX8_feed 65 = .ok (.iinc 4 1, 3) := by decide +kernel
theorem dX8_feed_68 : decode cX8_feed 68 = .ok (.goto (-37), 3) := by decide +kernel
theorem dX8_feed_71 : decode cX8_feed 71 = .ok (.aload_n 0, 1) := by decide +kernel
theorem dX8_feed_72 : decode cX8_feed 72 = .ok (.getfield 162, 3) := by decide +kernel
theorem dX8_feed_75 : decode cX8_feed 75 = .ok (.ireturn, 1) := by decide +kernel
theorem dX8_isLetter_0 : decode cX8_isLetter 0 = .ok (.iload_n 0, 1) := by decide +kernel
theorem dX8_isLetter_1 : decode cX8_isLetter 1 = .ok (.bipush 97, 2) := by decide +kernel
theorem dX8_isLetter_3 : decode cX8_isLetter 3 = .ok (.bipush 122, 2) := by decide +kernel
theorem dX8_isLetter_5 : decode cX8_isLetter 5 = .ok (.invokestatic 132, 3) := by decide +kernel
theorem dX8_isLetter_8 : decode cX8_isLetter 8 = .ok (.ireturn, 1) := by decide +kernel
theorem dX8_isDigit_0 : decode cX8_isDigit 0 = .ok (.iload_n 0, 1) := by decide +kernel
theorem dX8_isDigit_1 : decode cX8_isDigit 1 = .ok (.bipush 48, 2) := by decide +kernel
theorem dX8_isDigit_3 : decode cX8_isDigit 3 = .ok (.bipush 57, 2) := by decide +kernel
theorem dX8_isDigit_5 : decode cX8_isDigit 5 = .ok (.invokestatic 132, 3) := by decide +kernel
theorem dX8_isDigit_8 : decode cX8_isDigit 8 = .ok (.ireturn, 1) := by decide +kernel
theorem dX8_wordNow_0 : decode cX8_wordNow 0 = .ok (.iconst 0, 1) := by decide +kernel
theorem dX8_wordNow_1 : decode cX8_wordNow 1 = .ok (.istore_n 1, 1) := by decide +kernel
theorem dX8_wordNow_2 : decode cX8_wordNow 2 = .ok (.iconst 0, 1) := by decide +kernel
theorem dX8_wordNow_3 : decode cX8_wordNow 3 = .ok (.istore_n 2, 1) := by decide +kernel
theorem dX8_wordNow_4 : decode cX8_wordNow 4 = .ok (.iload_n 2, 1) := by decide +kernel
theorem dX8_wordNow_5 : decode cX8_wordNow 5 = .ok (.bipush 12, 2) := by decide +kernel
theorem dX8_wordNow_7 : decode cX8_wordNow 7 = .ok (.if_icmp .ge 86, 3) := by decide +kernel
theorem dX8_wordNow_10 : decode cX8_wordNow 10 = .ok (.aload_n 0, 1) := by decide +kernel
theorem dX8_wordNow_11 : decode cX8_wordNow 11 = .ok (.getfield 165, 3) := by decide +kernel
theorem dX8_wordNow_14 : decode cX8_wordNow 14 = .ok (.istore_n 3, 1) := by decide +kernel
theorem dX8_wordNow_15 : decode cX8_wordNow 15 = .ok (.iconst 1, 1) := by decide +kernel
theorem dX8_wordNow_16 : decode cX8_wordNow 16 = .ok (.istore 4, 2) := by decide +kernel
theorem dX8_wordNow_18 : decode cX8_wordNow 18 = .ok (.aload_n 0, 1) := by decide +kernel
theorem dX8_wordNow_19 : decode cX8_wordNow 19 = .ok (.getfield 75, 3) := by decide +kernel
theorem dX8_wordNow_22 : decode cX8_wordNow 22 = .ok (.iload_n 1, 1) := by decide +kernel
theorem dX8_wordNow_23 : decode cX8_wordNow 23 = .ok (.iaload, 1) := by decide +kernel
theorem dX8_wordNow_24 : decode cX8_wordNow 24 = .ok (.bipush 32, 2) := by decide +kernel
theorem dX8_wordNow_26 : decode cX8_wordNow 26 = .ok (.if_icmp .eq 38, 3) := by decide +kernel
theorem dX8_wordNow_29 : decode cX8_wordNow 29 = .ok (.iload_n 3, 1) := by decide +kernel
theorem dX8_wordNow_30 : decode cX8_wordNow 30 = .ok (.aload_n 0, 1) := by decide +kernel
theorem dX8_wordNow_31 : decode cX8_wordNow 31 = .ok (.getfield 168, 3) := by decide +kernel
theorem dX8_wordNow_34 : decode cX8_wordNow 34 = .ok (.if_icmp .ge 18, 3) := by decide +kernel
theorem dX8_wordNow_37 : decode cX8_wordNow 37 = .ok (.aload_n 0, 1) := by decide +kernel
theorem dX8_wordNow_38 : decode cX8_wordNow 38 = .ok (.getfield 53, 3) := by decide +kernel
theorem dX8_wordNow_41 : decode cX8_wordNow 41 = .ok (.iload_n 3, 1) := by decide +kernel
theorem dX8_wordNow_42 : decode cX8_wordNow 42 = .ok (.baload, 1) := by decide +kernel
theorem dX8_wordNow_43 : decode cX8_wordNow 43 = .ok (.aload_n 0, 1) := by decide +kernel
theorem dX8_wordNow_44 : decode cX8_wordNow 44 = .ok (.getfield 75, 3) := by decide +kernel
theorem dX8_wordNow_47 : decode cX8_wordNow 47 = .ok (.iload_n 1, 1) := by decide +kernel
theorem dX8_wordNow_48 : decode cX8_wordNow 48 = .ok (.iaload, 1) := by decide +kernel
theorem dX8_wordNow_49 : decode cX8_wordNow 49 = .ok (.if_icmp .eq 6, 3) := by decide +kernel
theorem dX8_wordNow_52 : decode cX8_wordNow 52 = .ok (.iconst 0, 1) := by decide +kernel
theorem dX8_wordNow_53 : decode cX8_wordNow 53 = .ok (.istore 4, 2) := by decide +kernel
theorem dX8_wordNow_55 : decode cX8_wordNow 55 = .ok (.iinc 3 1, 3) := by decide +kernel
theorem dX8_wordNow_58 : decode cX8_wordNow 58 = .ok (.iinc 1 1, 3) := by decide +kernel
theorem dX8_wordNow_61 : decode cX8_wordNow 61 = .ok (.goto (-43), 3) := by decide +kernel
theorem dX8_wordNow_64 : decode cX8_wordNow 64 = .ok (.iinc 1 1, 3) := by decide +kernel
theorem dX8_wordNow_67 : decode cX8_wordNow 67 = .ok (.iload 4, 2) := by decide +kernel
theorem dX8_wordNow_69 : decode cX8_wordNow 69 = .ok (.ifCond .eq 18, 3) := by decide +kernel
theorem dX8_wordNow_72 : decode cX8_wordNow 72 = .ok (.iload_n 3, 1) := by decide +kernel
theorem dX8_wordNow_73 : decode cX8_wordNow 73 = .ok (.aload_n 0, 1) := by decide +kernel
theorem dX8_wordNow_74 : decode cX8_wordNow 74 = .ok (.getfield 168, 3) := by decide +kernel
theorem dX8_wordNow_77 : decode cX8_wordNow 77 = .ok (.if_icmp .ne 10, 3) := by decide +kernel
theorem dX8_wordNow_80 : decode cX8_wordNow 80 = .ok (.aload_n 0, 1) := by decide +kernel
theorem dX8_wordNow_81 : decode cX8_wordNow 81 = .ok (.getfield 78, 3) := by decide +kernel
theorem dX8_wordNow_84 : decode cX8_wordNow 84 = .ok (.iload_n 2, 1) := by decide +kernel
theorem dX8_wordNow_85 : decode cX8_wordNow 85 = .ok (.iaload, 1) := by decide +kernel
theorem dX8_wordNow_86 : decode cX8_wordNow 86 = .ok (.ireturn, 1) := by decide +kernel
theorem dX8_wordNow_87 : decode cX8_wordNow 87 = .ok (.iinc 2 1, 3) := by decide +kernel
theorem dX8_wordNow_90 : decode cX8_wordNow 90 = .ok (.goto (-86), 3) := by decide +kernel
theorem dX8_wordNow_93 : decode cX8_wordNow 93 = .ok (.iconst (-1), 1) := by decide +kernel
theorem dX8_wordNow_94 : decode cX8_wordNow 94 = .ok (.ireturn, 1) := by decide +kernel
theorem dX8_next_0 : decode cX8_next 0 = .ok (.aload_n 0, 1) := by decide +kernel
theorem dX8_next_1 : decode cX8_next 1 = .ok (.aload_n 0, 1) := by decide +kernel
theorem dX8_next_2 : decode cX8_next 2 = .ok (.getfield 168, 3) := by decide +kernel
theorem dX8_next_5 : decode cX8_next 5 = .ok (.putfield 165, 3) := by decide +kernel
theorem dX8_next_8 : decode cX8_next 8 = .ok (.aload_n 0, 1) := by decide +kernel
theorem dX8_next_9 : decode cX8_next 9 = .ok (.getfield 165, 3) := by decide +kernel
theorem dX8_next_12 : decode cX8_next 12 = .ok (.aload_n 0, 1) := by decide +kernel
theorem dX8_next_13 : decode cX8_next 13 = .ok (.getfield 162, 3) := by decide +kernel
theorem dX8_next_16 : decode cX8_next 16 = .ok (.if_icmp .ge 44, 3) := by decide +kernel
theorem dX8_next_19 : decode cX8_next 19 = .ok (.aload_n 0, 1) := by decide +kernel
theorem dX8_next_20 : decode cX8_next 20 = .ok (.getfield 53, 3) := by decide +kernel
theorem dX8_next_23 : decode cX8_next 23 = .ok (.aload_n 0, 1) := by decide +kernel
theorem dX8_next_24 : decode cX8_next 24 = .ok (.getfield 165, 3) := by decide +kernel
theorem dX8_next_27 : decode cX8_next 27 = .ok (.baload, 1) := by decide +kernel
theorem dX8_next_28 : decode cX8_next 28 = .ok (.bipush 32, 2) := by decide +kernel
theorem dX8_next_30 : decode cX8_next 30 = .ok (.if_icmp .eq 17, 3) := by decide +kernel
theorem dX8_next_33 : decode cX8_next 33 = .ok (.aload_n 0, 1) := by decide +kernel
theorem dX8_next_34 : decode cX8_next 34 = .ok (.getfield 53, 3) := by decide +kernel
theorem dX8_next_37 : decode cX8_next 37 = .ok (.aload_n 0, 1) := by decide +kernel
theorem dX8_next_38 : decode cX8_next 38 = .ok (.getfield 165, 3) := by decide +kernel
theorem dX8_next_41 : decode cX8_next 41 = .ok (.baload, 1) := by decide +kernel
theorem dX8_next_42 : decode cX8_next 42 = .ok (.bipush 10, 2) := by decide +kernel
theorem dX8_next_44 : decode cX8_next 44 = .ok (.if_icmp .ne 16, 3) := by decide +kernel
theorem dX8_next_47 : decode cX8_next 47 = .ok (.aload_n 0, 1) := by decide +kernel
theorem dX8_next_48 : decode cX8_next 48 = .ok (.dup, 1) := by decide +kernel
theorem dX8_next_49 : decode cX8_next 49 = .ok (.getfield 165, 3) := by decide +kernel
theorem dX8_next_52 : decode cX8_next 52 = .ok (.iconst 1, 1) := by decide +kernel
theorem dX8_next_53 : decode cX8_next 53 = .ok (.iadd, 1) := by decide +kernel
theorem dX8_next_54 : decode cX8_next 54 = .ok (.putfield 165, 3) := by decide +kernel
theorem dX8_next_57 : decode cX8_next 57 = .ok (.goto (-49), 3) := by decide +kernel
theorem dX8_next_60 : decode cX8_next 60 = .ok (.aload_n 0, 1) := by decide +kernel
theorem dX8_next_61 : decode cX8_next 61 = .ok (.aload_n 0, 1) := by decide +kernel
theorem dX8_next_62 : decode cX8_next 62 = .ok (.getfield 165, 3) := by decide +kernel
theorem dX8_next_65 : decode cX8_next 65 = .ok (.putfield 168, 3) := by decide +kernel
theorem dX8_next_68 : decode cX8_next 68 = .ok (.aload_n 0, 1) := by decide +kernel
theorem dX8_next_69 : decode cX8_next 69 = .ok (.getfield 165, 3) := by decide +kernel
theorem dX8_next_72 : decode cX8_next 72 = .ok (.aload_n 0, 1) := by decide +kernel
theorem dX8_next_73 : decode cX8_next 73 = .ok (.getfield 162, 3) := by decide +kernel
theorem dX8_next_76 : decode cX8_next 76 = .ok (.if_icmp .lt 17, 3) := by decide +kernel
theorem dX8_next_79 : decode cX8_next 79 = .ok (.aload_n 0, 1) := by decide +kernel
theorem dX8_next_80 : decode cX8_next 80 = .ok (.aload_n 0, 1) := by decide +kernel
theorem dX8_next_81 : decode cX8_next 81 = .ok (.getfield 162, 3) := by decide +kernel
theorem dX8_next_84 : decode cX8_next 84 = .ok (.putfield 165, 3) := by decide +kernel
theorem dX8_next_87 : decode cX8_next 87 = .ok (.aload_n 0, 1) := by decide +kernel
theorem dX8_next_88 : decode cX8_next 88 = .ok (.iconst 4, 1) := by decide +kernel
theorem dX8_next_89 : decode cX8_next 89 = .ok (.putfield 171, 3) := by decide +kernel
theorem dX8_next_92 : decode cX8_next 92 = .ok (.return_, 1) := by decide +kernel
theorem dX8_next_93 : decode cX8_next 93 = .ok (.aload_n 0, 1) := by decide +kernel
theorem dX8_next_94 : decode cX8_next 94 = .ok (.getfield 53, 3) := by decide +kernel
theorem dX8_next_97 : decode cX8_next 97 = .ok (.aload_n 0, 1) := by decide +kernel
theorem dX8_next_98 : decode cX8_next 98 = .ok (.getfield 165, 3) := by decide +kernel
theorem dX8_next_101 : decode cX8_next 101 = .ok (.baload, 1) := by decide +kernel
theorem dX8_next_102 : decode cX8_next 102 = .ok (.istore_n 1, 1) := by decide +kernel
theorem dX8_next_103 : decode cX8_next 103 = .ok (.iload_n 1, 1) := by decide +kernel
theorem dX8_next_104 : decode cX8_next 104 = .ok (.invokestatic 174, 3) := by decide +kernel
theorem dX8_next_107 : decode cX8_next 107 = .ok (.ifCond .eq 69, 3) := by decide +kernel
theorem dX8_next_110 : decode cX8_next 110 = .ok (.aload_n 0, 1) := by decide +kernel
theorem dX8_next_111 : decode cX8_next 111 = .ok (.getfield 168, 3) := by decide +kernel
theorem dX8_next_114 : decode cX8_next 114 = .ok (.aload_n 0, 1) := by decide +kernel
theorem dX8_next_115 : decode cX8_next 115 = .ok (.getfield 162, 3) := by decide +kernel
theorem dX8_next_118 : decode cX8_next 118 = .ok (.if_icmp .ge 31, 3) := by decide +kernel
theorem dX8_next_121 : decode cX8_next 121 = .ok (.aload_n 0, 1) := by decide +kernel
theorem dX8_next_122 : decode cX8_next 122 = .ok (.getfield 53, 3) := by decide +kernel
theorem dX8_next_125 : decode cX8_next 125 = .ok (.aload_n 0, 1) := by decide +kernel
theorem dX8_next_126 : decode cX8_next 126 = .ok (.getfield 168, 3) := by decide +kernel
theorem dX8_next_129 : decode cX8_next 129 = .ok (.baload, 1) := by decide +kernel
theorem dX8_next_130 : decode cX8_next 130 = .ok (.invokestatic 174, 3) := by decide +kernel
theorem dX8_next_133 : decode cX8_next 133 = .ok (.ifCond .eq 16, 3) := by decide +kernel
theorem dX8_next_136 : decode cX8_next 136 = .ok (.aload_n 0, 1) := by decide +kernel
theorem dX8_next_137 : decode cX8_next 137 = .ok (.dup, 1) := by decide +kernel
theorem dX8_next_138 : decode cX8_next 138 = .ok (.getfield 168, 3) := by decide +kernel
theorem dX8_next_141 : decode cX8_next 141 = .ok (.iconst 1, 1) := by decide +kernel
theorem dX8_next_142 : decode cX8_next 142 = .ok (.iadd, 1) := by decide +kernel
theorem dX8_next_143 : decode cX8_next 143 = .ok (.putfield 168, 3) := by decide +kernel
theorem dX8_next_146 : decode cX8_next 146 = .ok (.goto (-36), 3) := by decide +kernel
theorem dX8_next_149 : decode cX8_next 149 = .ok (.aload_n 0, 1) := by decide +kernel
theorem dX8_next_150 : decode cX8_next 150 = .ok (.aload_n 0, 1) := by decide +kernel
theorem dX8_next_151 : decode cX8_next 151 = .ok (.invokevirtual 177, 3) := by decide +kernel
theorem dX8_next_154 : decode cX8_next 154 = .ok (.putfield 181, 3) := by decide +kernel
theorem dX8_next_157 : decode cX8_next 157 = .ok (.aload_n 0, 1) := by decide +kernel
theorem dX8_next_158 : decode cX8_next 158 = .ok (.aload_n 0, 1) := by decide +kernel
theorem dX8_next_159 : decode cX8_next 159 = .ok (.getfield 181, 3) := by decide +kernel
theorem dX8_next_162 : decode cX8_next 162 = .ok (.ifCond .ge 7, 3) := by decide +kernel
theorem dX8_next_165 : decode cX8_next 165 = .ok (.iconst 5, 1) := by decide +kernel
theorem dX8_next_166 : decode cX8_next 166 = .ok (.goto 4, 3) := by decide +kernel
theorem dX8_next_169 : decode cX8_next 169 = .ok (.iconst 1, 1) := by decide +kernel
theorem dX8_next_170 : decode cX8_next 170 = .ok (.putfield 171, 3) := by decide +kernel
theorem dX8_next_173 : decode cX8_next 173 = .ok (.goto 188, 3) := by decide +kernel
theorem dX8_next_176 : decode cX8_next 176 = .ok (.iload_n 1, 1) := by decide +kernel
theorem dX8_next_177 : decode cX8_next 177 = .ok (.invokestatic 184, 3) := by decide +kernel
theorem dX8_next_180 : decode cX8_next 180 = .ok (.ifCond .eq 109, 3) := by decide +kernel
theorem dX8_next_183 : decode cX8_next 183 = .ok (.aload_n 0, 1) := by decide +kernel
theorem dX8_next_184 : decode cX8_next 184 = .ok (.iconst 0, 1) := by decide +kernel
theorem dX8_next_185 : decode cX8_next 185 = .ok (.putfield 181, 3) := by decide +kernel
theorem dX8_next_188 : decode cX8_next 188 = .ok (.aload_n 0, 1) := by decide +kernel
theorem dX8_next_189 : decode cX8_next 189 = .ok (.getfield 168, 3) := by decide +kernel
theorem dX8_next_192 : decode cX8_next 192 = .ok (.aload_n 0, 1) := by decide +kernel
theorem dX8_next_193 : decode cX8_next 193 = .ok (.getfield 162, 3) := by decide +kernel
theorem dX8_next_196 : decode cX8_next 196 = .ok (.if_icmp .ge 68, 3) := by decide +kernel
theorem dX8_next_199 : decode cX8_next 199 = .ok (.aload_n 0, 1) := by decide +kernel
theorem dX8_next_200 : decode cX8_next 200 = .ok (.getfield 53, 3) := by decide +kernel
theorem dX8_next_203 : decode cX8_next 203 = .ok (.aload_n 0, 1) := by decide +kernel
theorem dX8_next_204 : decode cX8_next 204 = .ok (.getfield 168, 3) := by decide +kernel
theorem dX8_next_207 : decode cX8_next 207 = .ok (.baload, 1) := by decide +kernel
theorem dX8_next_208 : decode cX8_next 208 = .ok (.invokestatic 184, 3) := by decide +kernel
theorem dX8_next_211 : decode cX8_next 211 = .ok (.ifCond .eq 53, 3) := by decide +kernel
theorem dX8_next_214 : decode cX8_next 214 = .ok (.aload_n 0, 1) := by decide +kernel
theorem dX8_next_215 : decode cX8_next 215 = .ok (.getfield 168, 3) := by decide +kernel
theorem dX8_next_218 : decode cX8_next 218 = .ok (.aload_n 0, 1) := by decide +kernel
theorem dX8_next_219 : decode cX8_next 219 = .ok (.getfield 165, 3) := by decide +kernel
theorem dX8_next_222 : decode cX8_next 222 = .ok (.isub, 1) := by decide +kernel
theorem dX8_next_223 : decode cX8_next 223 = .ok (.iconst 4, 1) := by decide +kernel
theorem dX8_next_224 : decode cX8_next 224 = .ok (.if_icmp .ge 27, 3) := by decide +kernel
theorem dX8_next_227 : decode cX8_next 227 = .ok (.aload_n 0, 1) := by decide +kernel
theorem dX8_next_228 : decode cX8_next 228 = .ok (.bipush 10, 2) := by decide +kernel
theorem dX8_next_230 : decode cX8_next 230 = .ok (.aload_n 0, 1) := by decide +kernel
theorem dX8_next_231 : decode cX8_next 231 = .ok (.getfield 181, 3) := by decide +kernel
theorem dX8_next_234 : decode cX8_next 234 = .ok (.imul, 1) := by decide +kernel
theorem dX8_next_235 : decode cX8_next 235 = .ok (.aload_n 0, 1) := by decide +kernel
theorem dX8_next_236 : decode cX8_next 236 = .ok (.getfield 53, 3) := by decide +kernel
theorem dX8_next_239 : decode cX8_next 239 = .ok (.aload_n 0, 1) := by decide +kernel
theorem dX8_next_240 : decode cX8_next 240 = .ok (.getfield 168, 3) := by decide +kernel
theorem dX8_next_243 : decode cX8_next 243 = .ok (.baload, 1) := by decide +kernel
theorem dX8_next_244 : decode cX8_next 244 = .ok (.iadd, 1) := by decide +kernel
theorem dX8_next_245 : decode cX8_next 245 = .ok (.bipush 48, 2) := by decide +kernel
theorem dX8_next_247 : decode cX8_next 247 = .ok (.isub, 1) := by decide +kernel
theorem dX8_next_248 : decode cX8_next 248 = .ok (.putfield 181, 3) := by decide +kernel
theorem dX8_next_251 : decode cX8_next 251 = .ok (.aload_n 0, 1) := by decide +kernel
theorem dX8_next_252 : decode cX8_next 252 = .ok (.dup, 1) := by decide +kernel
theorem dX8_next_253 : decode cX8_next 253 = .ok (.getfield 168, 3) := by decide +kernel
theorem dX8_next_256 : decode cX8_next 256 = .ok (.iconst 1, 1) := by decide +kernel
theorem dX8_next_257 : decode cX8_next 257 = .ok (.iadd, 1) := by decide +kernel
theorem dX8_next_258 : decode cX8_next 258 = .ok (.putfield 168, 3) := by decide +kernel
theorem dX8_next_261 : decode cX8_next 261 = .ok (.goto (-73), 3) := by decide +kernel
theorem dX8_next_264 : decode cX8_next 264 = .ok (.aload_n 0, 1) := by decide +kernel
theorem dX8_next_265 : decode cX8_next 265 = .ok (.aload_n 0, 1) := by decide +kernel
theorem dX8_next_266 : decode cX8_next 266 = .ok (.getfield 168, 3) := by decide +kernel
theorem dX8_next_269 : decode cX8_next 269 = .ok (.aload_n 0, 1) := by decide +kernel
theorem dX8_next_270 : decode cX8_next 270 = .ok (.getfield 165, 3) := by decide +kernel
theorem dX8_next_273 : decode cX8_next 273 = .ok (.isub, 1) := by decide +kernel
theorem dX8_next_274 : decode cX8_next 274 = .ok (.iconst 4, 1) := by decide +kernel
theorem dX8_next_275 : decode cX8_next 275 = .ok (.if_icmp .le 7, 3) := by decide +kernel
theorem dX8_next_278 : decode cX8_next 278 = .ok (.iconst 5, 1) := by decide +kernel
theorem dX8_next_279 : decode cX8_next 279 = .ok (.goto 4, 3) := by decide +kernel
theorem dX8_next_282 : decode cX8_next 282 = .ok (.iconst 2, 1) := by decide +kernel
theorem dX8_next_283 : decode cX8_next 283 = .ok (.putfield 171, 3) := by decide +kernel
theorem dX8_next_286 : decode cX8_next 286 = .ok (.goto 75, 3) := by decide +kernel
theorem dX8_next_289 : decode cX8_next 289 = .ok (.aload_n 0, 1) := by decide +kernel
theorem dX8_next_290 : decode cX8_next 290 = .ok (.dup, 1) := by decide +kernel
theorem dX8_next_291 : decode cX8_next 291 = .ok (.getfield 168, 3) := by decide +kernel
theorem dX8_next_294 : decode cX8_next 294 = .ok (.iconst 1, 1) := by decide +kernel
theorem dX8_next_295 : decode cX8_next 295 = .ok (.iadd, 1) := by decide +kernel
theorem dX8_next_296 : decode cX8_next 296 = .ok (.putfield 168, 3) := by decide +kernel
theorem dX8_next_299 : decode cX8_next 299 = .ok (.aload_n 0, 1) := by decide +kernel
theorem dX8_next_300 : decode cX8_next 300 = .ok (.iload_n 1, 1) := by decide +kernel
theorem dX8_next_301 : decode cX8_next 301 = .ok (.putfield 181, 3) := by decide +kernel
theorem dX8_next_304 : decode cX8_next 304 = .ok (.aload_n 0, 1) := by decide +kernel
theorem dX8_next_305 : decode cX8_next 305 = .ok (.iload_n 1, 1) := by decide +kernel
theorem dX8_next_306 : decode cX8_next 306 = .ok (.bipush 40, 2) := by decide +kernel
theorem dX8_next_308 : decode cX8_next 308 = .ok (.if_icmp .eq 45, 3) := by decide +kernel
theorem dX8_next_311 : decode cX8_next 311 = .ok (.iload_n 1, 1) := by decide +kernel
theorem dX8_next_312 : decode cX8_next 312 = .ok (.bipush 41, 2) := by decide +kernel
theorem dX8_next_314 : decode cX8_next 314 = .ok (.if_icmp .eq 39, 3) := by decide +kernel
theorem dX8_next_317 : decode cX8_next 317 = .ok (.iload_n 1, 1) := by decide +kernel
theorem dX8_next_318 : decode cX8_next 318 = .ok (.bipush 59, 2) := by decide +kernel
theorem dX8_next_320 : decode cX8_next 320 = .ok (.if_icmp .eq 33, 3) := by decide +kernel
theorem dX8_next_323 : decode cX8_next 323 = .ok (.iload_n 1, 1) := by decide +kernel
theorem dX8_next_324 : decode cX8_next 324 = .ok (.bipush 43, 2) := by decide +kernel
theorem dX8_next_326 : decode cX8_next 326 = .ok (.if_icmp .eq 27, 3) := by decide +kernel
theorem dX8_next_329 : decode cX8_next 329 = .ok (.iload_n 1, 1) := by decide +kernel
theorem dX8_next_330 : decode cX8_next 330 = .ok (.bipush 45, 2) := by decide +kernel
theorem dX8_next_332 : decode cX8_next 332 = .ok (.if_icmp .eq 21, 3) := by decide +kernel
theorem dX8_next_335 : decode cX8_next 335 = .ok (.iload_n 1, 1) := by decide +kernel
theorem dX8_next_336 : decode cX8_next 336 = .ok (.bipush 42, 2) := by decide +kernel
theorem dX8_next_338 : decode cX8_next 338 = .ok (.if_icmp .eq 15, 3) := by decide +kernel
theorem dX8_next_341 : decode cX8_next 341 = .ok (.iload_n 1, 1) := by decide +kernel
theorem dX8_next_342 : decode cX8_next 342 = .ok (.bipush 60, 2) := by decide +kernel
theorem dX8_next_344 : decode cX8_next 344 = .ok (.if_icmp .eq 9, 3) := by decide +kernel
theorem dX8_next_347 : decode cX8_next 347 = .ok (.iload_n 1, 1) := by decide +kernel
theorem dX8_next_348 : decode cX8_next 348 = .ok (.bipush 61, 2) := by decide +kernel
theorem dX8_next_350 : decode cX8_next 350 = .ok (.if_icmp .ne 7, 3) := by decide +kernel
theorem dX8_next_353 : decode cX8_next 353 = .ok (.iconst 3, 1) := by decide +kernel
theorem dX8_next_354 : decode cX8_next 354 = .ok (.goto 4, 3) := by decide +kernel
theorem dX8_next_357 : decode cX8_next 357 = .ok (.iconst 5, 1) := by decide +kernel
theorem dX8_next_358 : decode cX8_next 358 = .ok (.putfield 171, 3) := by decide +kernel
theorem dX8_next_361 : decode cX8_next 361 = .ok (.return_, 1) := by decide +kernel
theorem dX8_faulty_0 : decode cX8_faulty 0 = .ok (.aload_n 0, 1) := by decide +kernel
theorem dX8_faulty_1 : decode cX8_faulty 1 = .ok (.getfield 187, 3) := by decide +kernel
theorem dX8_faulty_4 : decode cX8_faulty 4 = .ok (.ifCond .ge 11, 3) := by decide +kernel
theorem dX8_faulty_7 : decode cX8_faulty 7 = .ok (.aload_n 0, 1) := by decide +kernel
theorem dX8_faulty_8 : decode cX8_faulty 8 = .ok (.aload_n 0, 1) := by decide +kernel
theorem dX8_faulty_9 : decode cX8_faulty 9 = .ok (.getfield 165, 3) := by decide +kernel
theorem dX8_faulty_12 : decode cX8_faulty 12 = .ok (.putfield 187, 3) := by decide +kernel
theorem dX8_faulty_15 : decode cX8_faulty 15 = .ok (.return_, 1) := by decide +kernel
theorem dX8_isSign_0 : decode cX8_isSign 0 = .ok (.aload_n 0, 1) := by decide +kernel
theorem dX8_isSign_1 : decode cX8_isSign 1 = .ok (.getfield 187, 3) := by decide +kernel
theorem dX8_isSign_4 : decode cX8_isSign 4 = .ok (.ifCond .ge 23, 3) := by decide +kernel
theorem dX8_isSign_7 : decode cX8_isSign 7 = .ok (.aload_n 0, 1) := by decide +kernel
theorem dX8_isSign_8 : decode cX8_isSign 8 = .ok (.getfield 171, 3) := by decide +kernel
theorem dX8_isSign_11 : decode cX8_isSign 11 = .ok (.iconst 3, 1) := by decide +kernel
theorem dX8_isSign_12 : decode cX8_isSign 12 = .ok (.if_icmp .ne 15, 3) := by decide +kernel
theorem dX8_isSign_15 : decode cX8_isSign 15 = .ok (.aload_n 0, 1) := by decide +kernel
theorem dX8_isSign_16 : decode cX8_isSign 16 = .ok (.getfield 181, 3) := by decide +kernel
theorem dX8_isSign_19 : decode cX8_isSign 19 = .ok (.iload_n 1, 1) := by decide +kernel
theorem dX8_isSign_20 : decode cX8_isSign 20 = .ok (.if_icmp .ne 7, 3) := by decide +kernel
theorem dX8_isSign_23 : decode cX8_isSign 23 = .ok (.iconst 1, 1) := by decide +kernel
theorem dX8_isSign_24 : decode cX8_isSign 24 = .ok (.goto 4, 3) := by decide +kernel
theorem dX8_isSign_27 : decode cX8_isSign 27 = .ok (.iconst 0, 1) := by decide +kernel
theorem dX8_isSign_28 : decode cX8_isSign 28 = .ok (.ireturn, 1) := by decide +kernel
theorem dX8_isKey_0 : decode cX8_isKey 0 = .ok (.aload_n 0, 1) := by decide +kernel
theorem dX8_isKey_1 : decode cX8_isKey 1 = .ok (.getfield 187, 3) := by decide +kernel
theorem dX8_isKey_4 : decode cX8_isKey 4 = .ok (.ifCond .ge 23, 3) := by decide +kernel
theorem dX8_isKey_7 : decode cX8_isKey 7 = .ok (.aload_n 0, 1) := by decide +kernel
theorem dX8_isKey_8 : decode cX8_isKey 8 = .ok (.getfield 171, 3) := by decide +kernel
theorem dX8_isKey_11 : decode cX8_isKey 11 = .ok (.iconst 1, 1) := by decide +kernel
theorem dX8_isKey_12 : decode cX8_isKey 12 = .ok (.if_icmp .ne 15, 3) := by decide +kernel
theorem dX8_isKey_15 : decode cX8_isKey 15 = .ok (.aload_n 0, 1) := by decide +kernel
theorem dX8_isKey_16 : decode cX8_isKey 16 = .ok (.getfield 181, 3) := by decide +kernel
theorem dX8_isKey_19 : decode cX8_isKey 19 = .ok (.iload_n 1, 1) := by decide +kernel
theorem dX8_isKey_20 : decode cX8_isKey 20 = .ok (.if_icmp .ne 7, 3) := by decide +kernel
theorem dX8_isKey_23 : decode cX8_isKey 23 = .ok (.iconst 1, 1) := by decide +kernel
theorem dX8_isKey_24 : decode cX8_isKey 24 = .ok (.goto 4, 3) := by decide +kernel
theorem dX8_isKey_27 : decode cX8_isKey 27 = .ok (.iconst 0, 1) := by decide +kernel
theorem dX8_isKey_28 : decode cX8_isKey 28 = .ok (.ireturn, 1) := by decide +kernel
theorem dX8_addStep_0 : decode cX8_addStep 0 = .ok (.aload_n 0, 1) := by decide +kernel
theorem dX8_addStep_1 : decode cX8_addStep 1 = .ok (.getfield 60, 3) := by decide +kernel
theorem dX8_addStep_4 : decode cX8_addStep 4 = .ok (.sipush 1020, 3) := by decide +kernel
theorem dX8_addStep_7 : decode cX8_addStep 7 = .ok (.aload_n 0, 1) := by decide +kernel
theorem dX8_addStep_8 : decode cX8_addStep 8 = .ok (.getfield 190, 3) := by decide +kernel
theorem dX8_addStep_11 : decode cX8_addStep 11 = .ok (.iadd, 1) := by decide +kernel
theorem dX8_addStep_12 : decode cX8_addStep 12 = .ok (.iload_n 1, 1) := by decide +kernel
theorem dX8_addStep_13 : decode cX8_addStep 13 = .ok (.iastore, 1) := by decide +kernel
theorem dX8_addStep_14 : decode cX8_addStep 14 = .ok (.aload_n 0, 1) := by decide +kernel
theorem dX8_addStep_15 : decode cX8_addStep 15 = .ok (.getfield 63, 3) := by decide +kernel
theorem dX8_addStep_18 : decode cX8_addStep 18 = .ok (.sipush 1020, 3) := by decide +kernel
theorem dX8_addStep_21 : decode cX8_addStep 21 = .ok (.aload_n 0, 1) := by decide +kernel
theorem dX8_addStep_22 : decode cX8_addStep 22 = .ok (.getfield 190, 3) := by decide +kernel
theorem dX8_addStep_25 : decode cX8_addStep 25 = .ok (.iadd, 1) := by decide +kernel
theorem dX8_addStep_26 : decode cX8_addStep 26 = .ok (.iload_n 2, 1) := by decide +kernel
theorem dX8_addStep_27 : decode cX8_addStep 27 = .ok (.iastore, 1) := by decide +kernel
theorem dX8_addStep_28 : decode cX8_addStep 28 = .ok (.aload_n 0, 1) := by decide +kernel
theorem dX8_addStep_29 : decode cX8_addStep 29 = .ok (.dup, 1) := by decide +kernel
theorem dX8_addStep_30 : decode cX8_addStep 30 = .ok (.getfield 190, 3) := by decide +kernel
theorem dX8_addStep_33 : decode cX8_addStep 33 = .ok (.iconst 1, 1) := by decide +kernel
theorem dX8_addStep_34 : decode cX8_addStep 34 = .ok (.iadd, 1) := by decide +kernel
theorem dX8_addStep_35 : decode cX8_addStep 35 = .ok (.putfield 190, 3) := by decide +kernel
theorem dX8_addStep_38 : decode cX8_addStep 38 = .ok (.return_, 1) := by decide +kernel
theorem dX8_opens_0 : decode cX8_opens 0 = .ok (.aload_n 0, 1) := by decide +kernel
theorem dX8_opens_1 : decode cX8_opens 1 = .ok (.getfield 193, 3) := by decide +kernel
theorem dX8_opens_4 : decode cX8_opens 4 = .ok (.iconst 5, 1) := by decide +kernel
theorem dX8_opens_5 : decode cX8_opens 5 = .ok (.if_icmp .ne 9, 3) := by decide +kernel
theorem dX8_opens_8 : decode cX8_opens 8 = .ok (.aload_n 0, 1) := by decide +kernel
theorem dX8_opens_9 : decode cX8_opens 9 = .ok (.invokevirtual 196, 3) := by decide +kernel
theorem dX8_opens_12 : decode cX8_opens 12 = .ok (.iconst 0, 1) := by decide +kernel
theorem dX8_opens_13 : decode cX8_opens 13 = .ok (.ireturn, 1) := by decide +kernel
theorem dX8_opens_14 : decode cX8_opens 14 = .ok (.aload_n 0, 1) := by decide +kernel
theorem dX8_opens_15 : decode cX8_opens 15 = .ok (.dup, 1) := by decide +kernel
theorem dX8_opens_16 : decode cX8_opens 16 = .ok (.getfield 193, 3) := by decide +kernel
theorem dX8_opens_19 : decode cX8_opens 19 = .ok (.iconst 1, 1) := by decide +kernel
theorem dX8_opens_20 : decode cX8_opens 20 = .ok (.iadd, 1) := by decide +kernel
theorem dX8_opens_21 : decode cX8_opens 21 = .ok (.putfield 193, 3) := by decide +kernel
theorem dX8_opens_24 : decode cX8_opens 24 = .ok (.aload_n 0, 1) := by decide +kernel
theorem dX8_opens_25 : decode cX8_opens 25 = .ok (.invokevirtual 199, 3) := by decide +kernel
theorem dX8_opens_28 : decode cX8_opens 28 = .ok (.iconst 1, 1) := by decide +kernel
theorem dX8_opens_29 : decode cX8_opens 29 = .ok (.ireturn, 1) := by decide +kernel
theorem dX8_either_0 : decode cX8_either 0 = .ok (.aload_n 0, 1) := by decide +kernel
theorem dX8_either_1 : decode cX8_either 1 = .ok (.invokevirtual 202, 3) := by decide +kernel
theorem dX8_either_4 : decode cX8_either 4 = .ok (.aload_n 0, 1) := by decide +kernel
theorem dX8_either_5 : decode cX8_either 5 = .ok (.bipush 13, 2) := by decide +kernel
theorem dX8_either_7 : decode cX8_either 7 = .ok (.invokevirtual 205, 3) := by decide +kernel
theorem dX8_either_10 : decode cX8_either 10 = .ok (.ifCond .eq 20, 3) := by decide +kernel
theorem dX8_either_13 : decode cX8_either 13 = .ok (.aload_n 0, 1) := by decide +kernel
theorem dX8_either_14 : decode cX8_either 14 = .ok (.invokevirtual 199, 3) := by decide +kernel
theorem dX8_either_17 : decode cX8_either 17 = .ok (.aload_n 0, 1) := by decide +kernel
theorem dX8_either_18 : decode cX8_either 18 = .ok (.invokevirtual 202, 3) := by decide +kernel
theorem dX8_either_21 : decode cX8_either 21 = .ok (.aload_n 0, 1) := by decide +kernel
theorem dX8_either_22 : decode cX8_either 22 = .ok (.iconst 5, 1) := by decide +kernel
theorem dX8_either_23 : decode cX8_either 23 = .ok (.iconst 0, 1) := by decide +kernel
theorem dX8_either_24 : decode cX8_either 24 = .ok (.invokevirtual 208, 3) := by decide +kernel
theorem dX8_either_27 : decode cX8_either 27 = .ok (.goto (-23), 3) := by decide +kernel
theorem dX8_either_30 : decode cX8_either 30 = .ok (.return_, 1) := by decide +kernel
theorem dX8_all_0 : decode cX8_all 0 = .ok (.aload_n 0, 1) := by decide +kernel
theorem dX8_all_1 : decode cX8_all 1 = .ok (.invokevirtual 212, 3) := by decide +kernel
theorem dX8_all_4 : decode cX8_all 4 = .ok (.aload_n 0, 1) := by decide +kernel
theorem dX8_all_5 : decode cX8_all 5 = .ok (.bipush 14, 2) := by decide +kernel
theorem dX8_all_7 : decode cX8_all 7 = .ok (.invokevirtual 205, 3) := by decide +kernel
theorem dX8_all_10 : decode cX8_all 10 = .ok (.ifCond .eq 21, 3) := by decide +kernel
theorem dX8_all_13 : decode cX8_all 13 = .ok (.aload_n 0, 1) := by decide +kernel
theorem dX8_all_14 : decode cX8_all 14 = .ok (.invokevirtual 199, 3) := by decide +kernel
theorem dX8_all_17 : decode cX8_all 17 = .ok (.aload_n 0, 1) := by decide +kernel
theorem dX8_all_18 : decode cX8_all 18 = .ok (.invokevirtual 212, 3) := by decide +kernel
theorem dX8_all_21 : decode cX8_all 21 = .ok (.aload_n 0, 1) := by decide +kernel
theorem dX8_all_22 : decode cX8_all 22 = .ok (.bipush 6, 2) := by decide +kernel
theorem dX8_all_24 : decode cX8_all 24 = .ok (.iconst 0, 1) := by decide +kernel
theorem dX8_all_25 : decode cX8_all 25 = .ok (.invokevirtual 208, 3) := by decide +kernel
theorem dX8_all_28 : decode cX8_all 28 = .ok (.goto (-24), 3) := by decide +kernel
theorem dX8_all_31 : decode cX8_all 31 = .ok (.return_, 1) := by decide +kernel
theorem dX8_denied_0 : decode cX8_denied 0 = .ok (.aload_n 0, 1) := by decide +kernel
theorem dX8_denied_1 : decode cX8_denied 1 = .ok (.bipush 15, 2) := by decide +kernel
theorem dX8_denied_3 : decode cX8_denied 3 = .ok (.invokevirtual 205, 3) := by decide +kernel
theorem dX8_denied_6 : decode cX8_denied 6 = .ok (.ifCond .eq 32, 3) := by decide +kernel
theorem dX8_denied_9 : decode cX8_denied 9 = .ok (.aload_n 0, 1) := by decide +kernel
theorem dX8_denied_10 : decode cX8_denied 10 = .ok (.invokevirtual 215, 3) := by decide +kernel
theorem dX8_denied_13 : decode cX8_denied 13 = .ok (.ifCond .ne 4, 3) := by decide +kernel
theorem dX8_denied_16 : decode cX8_denied 16 = .ok (.return_, 1) := by decide +kernel
theorem dX8_denied_17 : decode cX8_denied 17 = .ok (.aload_n 0, 1) := by decide +kernel
theorem dX8_denied_18 : decode cX8_denied 18 = .ok (.invokevirtual 212, 3) := by decide +kernel
theorem dX8_denied_21 : decode cX8_denied 21 = .ok (.aload_n 0, 1) := by decide +kernel
theorem dX8_denied_22 : decode cX8_denied 22 = .ok (.dup, 1) := by decide +kernel
theorem dX8_denied_23 : decode cX8_denied 23 = .ok (.getfield 193, 3) := by decide +kernel
theorem dX8_denied_26 : decode cX8_denied 26 = .ok (.iconst 1, 1) := by decide +kernel
theorem dX8_denied_27 : decode cX8_denied 27 = .ok (.isub, 1) := by decide +kernel
theorem dX8_denied_28 : decode cX8_denied 28 = .ok (.putfield 193, 3) := by decide +kernel
theorem dX8_denied_31 : decode cX8_denied 31 = .ok (.aload_n 0, 1) := by decide +kernel
theorem dX8_denied_32 : decode cX8_denied 32 = .ok (.iconst 3, 1) := by decide +kernel
theorem dX8_denied_33 : decode cX8_denied 33 = .ok (.iconst 0, 1) := by decide +kernel
theorem dX8_denied_34 : decode cX8_denied 34 = .ok (.invokevirtual 208, 3) := by decide +kernel
theorem dX8_denied_37 : decode cX8_denied 37 = .ok (.return_, 1) := by decide +kernel
theorem dX8_denied_38 : decode cX8_denied 38 = .ok (.aload_n 0, 1) := by decide +kernel
theorem dX8_denied_39 : decode cX8_denied 39 = .ok (.invokevirtual 219, 3) := by decide +kernel
theorem dX8_denied_42 : decode cX8_denied 42 = .ok (.aload_n 0, 1) := by decide +kernel
theorem dX8_denied_43 : decode cX8_denied 43 = .ok (.bipush 60, 2) := by decide +kernel
theorem dX8_denied_45 : decode cX8_denied 45 = .ok (.invokevirtual 222, 3) := by decide +kernel
theorem dX8_denied_48 : decode cX8_denied 48 = .ok (.ifCond .ne 13, 3) := by decide +kernel
theorem dX8_denied_51 : decode cX8_denied 51 = .ok (.aload_n 0, 1) := by decide +kernel
theorem dX8_denied_52 : decode cX8_denied 52 = .ok (.bipush 61, 2) := by decide +kernel
theorem dX8_denied_54 : decode cX8_denied 54 = .ok (.invokevirtual 222, 3) := by decide +kernel
theorem dX8_denied_57 : decode cX8_denied 57 = .ok (.ifCond .ne 4, 3) := by decide +kernel
theorem dX8_denied_60 : decode cX8_denied 60 = .ok (.return_, 1) := by decide +kernel
theorem dX8_denied_61 : decode cX8_denied 61 = .ok (.aload_n 0, 1) := by decide +kernel
theorem dX8_denied_62 : decode cX8_denied 62 = .ok (.getfield 181, 3) := by decide +kernel
theorem dX8_denied_65 : decode cX8_denied 65 = .ok (.istore_n 1, 1) := by decide +kernel
theorem dX8_denied_66 : decode cX8_denied 66 = .ok (.aload_n 0, 1) := by decide +kernel
theorem dX8_denied_67 : decode cX8_denied 67 = .ok (.invokevirtual 199, 3) := by decide +kernel
theorem dX8_denied_70 : decode cX8_denied 70 = .ok (.aload_n 0, 1) := by decide +kernel
theorem dX8_denied_71 : decode cX8_denied 71 = .ok (.invokevirtual 219, 3) := by decide +kernel
theorem dX8_denied_74 : decode cX8_denied 74 = .ok (.aload_n 0, 1) := by decide +kernel
theorem dX8_denied_75 : decode cX8_denied 75 = .ok (.iload_n 1, 1) := by decide +kernel
theorem dX8_denied_76 : decode cX8_denied 76 = .ok (.iconst 0, 1) := by decide +kernel
theorem dX8_denied_77 : decode cX8_denied 77 = .ok (.invokevirtual 208, 3) := by decide +kernel
theorem dX8_denied_80 : decode cX8_denied 80 = .ok (.return_, 1) := by decide +kernel
theorem dX8_sum_0 : decode cX8_sum 0 = .ok (.aload_n 0, 1) := by decide +kernel
theorem dX8_sum_1 : decode cX8_sum 1 = .ok (.invokevirtual 225, 3) := by decide +kernel
theorem dX8_sum_4 : decode cX8_sum 4 = .ok (.aload_n 0, 1) := by decide +kernel
theorem dX8_sum_5 : decode cX8_sum 5 = .ok (.bipush 43, 2) := by decide +kernel
theorem dX8_sum_7 : decode cX8_sum 7 = .ok (.invokevirtual 222, 3) := by decide +kernel
theorem dX8_sum_10 : decode cX8_sum 10 = .ok (.ifCond .ne 12, 3) := by decide +kernel
theorem dX8_sum_13 : decode cX8_sum 13 = .ok (.aload_n 0, 1) := by decide +kernel
theorem dX8_sum_14 : decode cX8_sum 14 = .ok (.bipush 45, 2) := by decide +kernel
theorem dX8_sum_16 : decode cX8_sum 16 = .ok (.invokevirtual 222, 3) := by decide +kernel
theorem dX8_sum_19 : decode cX8_sum 19 = .ok (.ifCond .eq 25, 3) := by decide +kernel
theorem dX8_sum_22 : decode cX8_sum 22 = .ok (.aload_n 0, 1) := by decide +kernel
theorem dX8_sum_23 : decode cX8_sum 23 = .ok (.getfield 181, 3) := by decide +kernel
theorem dX8_sum_26 : decode cX8_sum 26 = .ok (.istore_n 1, 1) := by decide +kernel
theorem dX8_sum_27 : decode cX8_sum 27 = .ok (.aload_n 0, 1) := by decide +kernel
theorem dX8_sum_28 : decode cX8_sum 28 = .ok (.invokevirtual 199, 3) := by decide +kernel
theorem dX8_sum_31 : decode cX8_sum 31 = .ok (.aload_n 0, 1) := by decide +kernel
theorem dX8_sum_32 : decode cX8_sum 32 = .ok (.invokevirtual 225, 3) := by decide +kernel
theorem dX8_sum_35 : decode cX8_sum 35 = .ok (.aload_n 0, 1) := by decide +kernel
theorem dX8_sum_36 : decode cX8_sum 36 = .ok (.iload_n 1, 1) := by decide +kernel
theorem dX8_sum_37 : decode cX8_sum 37 = .ok (.iconst 0, 1) := by decide +kernel
theorem dX8_sum_38 : decode cX8_sum 38 = .ok (.invokevirtual 208, 3) := by decide +kernel
theorem dX8_sum_41 : decode cX8_sum 41 = .ok (.goto (-37), 3) := by decide +kernel
theorem dX8_sum_44 : decode cX8_sum 44 = .ok (.return_, 1) := by decide +kernel
theorem dX8_term_0 : decode cX8_term 0 = .ok (.aload_n 0, 1) := by decide +kernel
theorem dX8_term_1 : decode cX8_term 1 = .ok (.invokevirtual 228, 3) := by decide +kernel
theorem dX8_term_4 : decode cX8_term 4 = .ok (.aload_n 0, 1) := by decide +kernel
theorem dX8_term_5 : decode cX8_term 5 = .ok (.bipush 42, 2) := by decide +kernel
theorem dX8_term_7 : decode cX8_term 7 = .ok (.invokevirtual 222, 3) := by decide +kernel
theorem dX8_term_10 : decode cX8_term 10 = .ok (.ifCond .eq 21, 3) := by decide +kernel
theorem dX8_term_13 : decode cX8_term 13 = .ok (.aload_n 0, 1) := by decide +kernel
theorem dX8_term_14 : decode cX8_term 14 = .ok (.invokevirtual 199, 3) := by decide +kernel
theorem dX8_term_17 : decode cX8_term 17 = .ok (.aload_n 0, 1) := by decide +kernel
theorem dX8_term_18 : decode cX8_term 18 = .ok (.invokevirtual 228, 3) := by decide +kernel
theorem dX8_term_21 : decode cX8_term 21 = .ok (.aload_n 0, 1) := by decide +kernel
theorem dX8_term_22 : decode cX8_term 22 = .ok (.bipush 42, 2) := by decide +kernel
theorem dX8_term_24 : decode cX8_term 24 = .ok (.iconst 0, 1) := by decide +kernel
theorem dX8_term_25 : decode cX8_term 25 = .ok (.invokevirtual 208, 3) := by decide +kernel
theorem dX8_term_28 : decode cX8_term 28 = .ok (.goto (-24), 3) := by decide +kernel
theorem dX8_term_31 : decode cX8_term 31 = .ok (.return_, 1) := by decide +kernel
theorem dX8_one_0 : decode cX8_one 0 = .ok (.aload_n 0, 1) := by decide +kernel
theorem dX8_one_1 : decode cX8_one 1 = .ok (.getfield 187, 3) := by decide +kernel
theorem dX8_one_4 : decode cX8_one 4 = .ok (.ifCond .lt 4, 3) := by decide +kernel
theorem dX8_one_7 : decode cX8_one 7 = .ok (.return_, 1) := by decide +kernel
theorem dX8_one_8 : decode cX8_one 8 = .ok (.aload_n 0, 1) := by decide +kernel
theorem dX8_one_9 : decode cX8_one 9 = .ok (.getfield 171, 3) := by decide +kernel
theorem dX8_one_12 : decode cX8_one 12 = .ok (.iconst 2, 1) := by decide +kernel
theorem dX8_one_13 : decode cX8_one 13 = .ok (.if_icmp .ne 19, 3) := by decide +kernel
theorem dX8_one_16 : decode cX8_one 16 = .ok (.aload_n 0, 1) := by decide +kernel
theorem dX8_one_17 : decode cX8_one 17 = .ok (.iconst 1, 1) := by decide +kernel
theorem dX8_one_18 : decode cX8_one 18 = .ok (.aload_n 0, 1) := by decide +kernel
theorem dX8_one_19 : decode cX8_one 19 = .ok (.getfield 181, 3) := by decide +kernel
theorem dX8_one_22 : decode cX8_one 22 = .ok (.invokevirtual 208, 3) := by decide +kernel
theorem dX8_one_25 : decode cX8_one 25 = .ok (.aload_n 0, 1) := by decide +kernel
theorem dX8_one_26 : decode cX8_one 26 = .ok (.invokevirtual 199, 3) := by decide +kernel
theorem dX8_one_29 : decode cX8_one 29 = .ok (.goto 132, 3) := by decide +kernel
theorem dX8_one_32 : decode cX8_one 32 = .ok (.aload_n 0, 1) := by decide +kernel
theorem dX8_one_33 : decode cX8_one 33 = .ok (.getfield 171, 3) := by decide +kernel
theorem dX8_one_36 : decode cX8_one 36 = .ok (.iconst 1, 1) := by decide +kernel
theorem dX8_one_37 : decode cX8_one 37 = .ok (.if_icmp .ne 28, 3) := by decide +kernel
theorem dX8_one_40 : decode cX8_one 40 = .ok (.aload_n 0, 1) := by decide +kernel
theorem dX8_one_41 : decode cX8_one 41 = .ok (.getfield 181, 3) := by decide +kernel
theorem dX8_one_44 : decode cX8_one 44 = .ok (.bipush 6, 2) := by decide +kernel
theorem dX8_one_46 : decode cX8_one 46 = .ok (.if_icmp .ge 19, 3) := by decide +kernel
theorem dX8_one_49 : decode cX8_one 49 = .ok (.aload_n 0, 1) := by decide +kernel
theorem dX8_one_50 : decode cX8_one 50 = .ok (.iconst 2, 1) := by decide +kernel
theorem dX8_one_51 : decode cX8_one 51 = .ok (.aload_n 0, 1) := by decide +kernel
theorem dX8_one_52 : decode cX8_one 52 = .ok (.getfield 181, 3) := by decide +kernel
theorem dX8_one_55 : decode cX8_one 55 = .ok (.invokevirtual 208, 3) := by decide +kernel
theorem dX8_one_58 : decode cX8_one 58 = .ok (.aload_n 0, 1) := by decide +kernel
theorem dX8_one_59 : decode cX8_one 59 = .ok (.invokevirtual 199, 3) := by decide +kernel
theorem dX8_one_62 : decode cX8_one 62 = .ok (.goto 99, 3) := by decide +kernel
theorem dX8_one_65 : decode cX8_one 65 = .ok (.aload_n 0, 1) := by decide +kernel
theorem dX8_one_66 : decode cX8_one 66 = .ok (.bipush 45, 2) := by decide +kernel
theorem dX8_one_68 : decode cX8_one 68 = .ok (.invokevirtual 222, 3) := by decide +kernel
theorem dX8_one_71 : decode cX8_one 71 = .ok (.ifCond .eq 34, 3) := by decide +kernel
theorem dX8_one_74 : decode cX8_one 74 = .ok (.aload_n 0, 1) := by decide +kernel
theorem dX8_one_75 : decode cX8_one 75 = .ok (.invokevirtual 215, 3) := by decide +kernel
theorem dX8_one_78 : decode cX8_one 78 = .ok (.ifCond .ne 4, 3) := by decide +kernel
theorem dX8_one_81 : decode cX8_one 81 = .ok (.return_, 1) := by decide +kernel
theorem dX8_one_82 : decode cX8_one 82 = .ok (.aload_n 0, 1) := by decide +kernel
theorem dX8_one_83 : decode cX8_one 83 = .ok (.invokevirtual 228, 3) := by decide +kernel
theorem dX8_one_86 : decode cX8_one 86 = .ok (.aload_n 0, 1) := by decide +kernel
theorem dX8_one_87 : decode cX8_one 87 = .ok (.dup, 1) := by decide +kernel
theorem dX8_one_88 : decode cX8_one 88 = .ok (.getfield 193, 3) := by decide +kernel
theorem dX8_one_91 : decode cX8_one 91 = .ok (.iconst 1, 1) := by decide +kernel
theorem dX8_one_92 : decode cX8_one 92 = .ok (.isub, 1) := by decide +kernel
theorem dX8_one_93 : decode cX8_one 93 = .ok (.putfield 193, 3) := by decide +kernel
theorem dX8_one_96 : decode cX8_one 96 = .ok (.aload_n 0, 1) := by decide +kernel
theorem dX8_one_97 : decode cX8_one 97 = .ok (.iconst 4, 1) := by decide +kernel
theorem dX8_one_98 : decode cX8_one 98 = .ok (.iconst 0, 1) := by decide +kernel
theorem dX8_one_99 : decode cX8_one 99 = .ok (.invokevirtual 208, 3) := by decide +kernel
theorem dX8_one_102 : decode cX8_one 102 = .ok (.goto 59, 3) := by decide +kernel
theorem dX8_one_105 : decode cX8_one 105 = .ok (.aload_n 0, 1) := by decide +kernel
theorem dX8_one_106 : decode cX8_one 106 = .ok (.bipush 40, 2) := by decide +kernel
theorem dX8_one_108 : decode cX8_one 108 = .ok (.invokevirtual 222, 3) := by decide +kernel
theorem dX8_one_111 : decode cX8_one 111 = .ok (.ifCond .eq 46, 3) := by decide +kernel
theorem dX8_one_114 : decode cX8_one 114 = .ok (.aload_n 0, 1) := by decide +kernel
theorem dX8_one_115 : decode cX8_one 115 = .ok (.invokevirtual 215, 3) := by decide +kernel
theorem dX8_one_118 : decode cX8_one 118 = .ok (.ifCond .ne 4, 3) := by decide +kernel
theorem dX8_one_121 : decode cX8_one 121 = .ok (.return_, 1) := by decide +kernel
theorem dX8_one_122 : decode cX8_one 122 = .ok (.aload_n 0, 1) := by decide +kernel
theorem dX8_one_123 : decode cX8_one 123 = .ok (.invokevirtual 231, 3) := by decide +kernel
theorem dX8_one_126 : decode cX8_one 126 = .ok (.aload_n 0, 1) := by decide +kernel
theorem dX8_one_127 : decode cX8_one 127 = .ok (.bipush 41, 2) := by decide +kernel
theorem dX8_one_129 : decode cX8_one 129 = .ok (.invokevirtual 222, 3) := by decide +kernel
theorem dX8_one_132 : decode cX8_one 132 = .ok (.ifCond .ne 8, 3) := by decide +kernel
theorem dX8_one_135 : decode cX8_one 135 = .ok (.aload_n 0, 1) := by decide +kernel
theorem dX8_one_136 : decode cX8_one 136 = .ok (.invokevirtual 196, 3) := by decide +kernel
theorem dX8_one_139 : decode cX8_one 139 = .ok (.return_, 1) := by decide +kernel
theorem dX8_one_140 : decode cX8_one 140 = .ok (.aload_n 0, 1) := by decide +kernel
theorem dX8_one_141 : decode cX8_one 141 = .ok (.dup, 1) := by decide +kernel
theorem dX8_one_142 : decode cX8_one 142 = .ok (.getfield 193, 3) := by decide +kernel
theorem dX8_one_145 : decode cX8_one 145 = .ok (.iconst 1, 1) := by decide +kernel
theorem dX8_one_146 : decode cX8_one 146 = .ok (.isub, 1) := by decide +kernel
theorem dX8_one_147 : decode cX8_one 147 = .ok (.putfield 193, 3) := by decide +kernel
theorem dX8_one_150 : decode cX8_one 150 = .ok (.aload_n 0, 1) := by decide +kernel
theorem dX8_one_151 : decode cX8_one 151 = .ok (.invokevirtual 199, 3) := by decide +kernel
theorem dX8_one_154 : decode cX8_one 154 = .ok (.goto 7, 3) := by decide +kernel
theorem dX8_one_157 : decode cX8_one 157 = .ok (.aload_n 0, 1) := by decide +kernel
theorem dX8_one_158 : decode cX8_one 158 = .ok (.invokevirtual 196, 3) := by decide +kernel
theorem dX8_one_161 : decode cX8_one 161 = .ok (.return_, 1) := by decide +kernel
theorem dX8_rule_0 : decode cX8_rule 0 = .ok (.aload_n 0, 1) := by decide +kernel
theorem dX8_rule_1 : decode cX8_rule 1 = .ok (.bipush 10, 2) := by decide +kernel
theorem dX8_rule_3 : decode cX8_rule 3 = .ok (.iload_n 1, 1) := by decide +kernel
theorem dX8_rule_4 : decode cX8_rule 4 = .ok (.iadd, 1) := by decide +kernel
theorem dX8_rule_5 : decode cX8_rule 5 = .ok (.invokevirtual 205, 3) := by decide +kernel
theorem dX8_rule_8 : decode cX8_rule 8 = .ok (.ifCond .ne 8, 3) := by decide +kernel
theorem dX8_rule_11 : decode cX8_rule 11 = .ok (.aload_n 0, 1) := by decide +kernel
theorem dX8_rule_12 : decode cX8_rule 12 = .ok (.invokevirtual 196, 3) := by decide +kernel
theorem dX8_rule_15 : decode cX8_rule 15 = .ok (.return_, 1) := by decide +kernel
theorem dX8_rule_16 : decode cX8_rule 16 = .ok (.aload_n 0, 1) := by decide +kernel
theorem dX8_rule_17 : decode cX8_rule 17 = .ok (.invokevirtual 199, 3) := by decide +kernel
theorem dX8_rule_20 : decode cX8_rule 20 = .ok (.aload_n 0, 1) := by decide +kernel
theorem dX8_rule_21 : decode cX8_rule 21 = .ok (.invokevirtual 231, 3) := by decide +kernel
theorem dX8_rule_24 : decode cX8_rule 24 = .ok (.aload_n 0, 1) := by decide +kernel
theorem dX8_rule_25 : decode cX8_rule 25 = .ok (.bipush 59, 2) := by decide +kernel
theorem dX8_rule_27 : decode cX8_rule 27 = .ok (.invokevirtual 222, 3) := by decide +kernel
theorem dX8_rule_30 : decode cX8_rule 30 = .ok (.ifCond .ne 8, 3) := by decide +kernel
theorem dX8_rule_33 : decode cX8_rule 33 = .ok (.aload_n 0, 1) := by decide +kernel
theorem dX8_rule_34 : decode cX8_rule 34 = .ok (.invokevirtual 196, 3) := by decide +kernel
theorem dX8_rule_37 : decode cX8_rule 37 = .ok (.return_, 1) := by decide +kernel
theorem dX8_rule_38 : decode cX8_rule 38 = .ok (.aload_n 0, 1) := by decide +kernel
theorem dX8_rule_39 : decode cX8_rule 39 = .ok (.invokevirtual 199, 3) := by decide +kernel
theorem dX8_rule_42 : decode cX8_rule 42 = .ok (.aload_n 0, 1) := by decide +kernel
theorem dX8_rule_43 : decode cX8_rule 43 = .ok (.getfield 66, 3) := by decide +kernel
theorem dX8_rule_46 : decode cX8_rule 46 = .ok (.bipush 18, 2) := by decide +kernel
theorem dX8_rule_48 : decode cX8_rule 48 = .ok (.iload_n 1, 1) := by decide +kernel
theorem dX8_rule_49 : decode cX8_rule 49 = .ok (.iadd, 1) := by decide +kernel
theorem dX8_rule_50 : decode cX8_rule 50 = .ok (.aload_n 0, 1) := by decide +kernel
theorem dX8_rule_51 : decode cX8_rule 51 = .ok (.getfield 190, 3) := by decide +kernel
theorem dX8_rule_54 : decode cX8_rule 54 = .ok (.iastore, 1) := by decide +kernel
theorem dX8_rule_55 : decode cX8_rule 55 = .ok (.return_, 1) := by decide +kernel
theorem dX8_text_0 : decode cX8_text 0 = .ok (.aload_n 0, 1) := by decide +kernel
theorem dX8_text_1 : decode cX8_text 1 = .ok (.getfield 57, 3) := by decide +kernel
theorem dX8_text_4 : decode cX8_text 4 = .ok (.bipush 6, 2) := by decide +kernel
theorem dX8_text_6 : decode cX8_text 6 = .ok (.if_icmp .ne 6, 3) := by decide +kernel
theorem dX8_text_9 : decode cX8_text 9 = .ok (.bipush (-4), 2) := by decide +kernel
theorem dX8_text_11 : decode cX8_text 11 = .ok (.ireturn, 1) := by decide +kernel
theorem dX8_text_12 : decode cX8_text 12 = .ok (.aload_n 0, 1) := by decide +kernel
theorem dX8_text_13 : decode cX8_text 13 = .ok (.iconst 0, 1) := by decide +kernel
theorem dX8_text_14 : decode cX8_text 14 = .ok (.putfield 168, 3) := by decide +kernel
theorem dX8_text_17 : decode cX8_text 17 = .ok (.aload_n 0, 1) := by decide +kernel
theorem dX8_text_18 : decode cX8_text 18 = .ok (.iconst (-1), 1) := by decide +kernel
theorem dX8_text_19 : decode cX8_text 19 = .ok (.putfield 187, 3) := by decide +kernel
theorem dX8_text_22 : decode cX8_text 22 = .ok (.aload_n 0, 1) := by decide +kernel
theorem dX8_text_23 : decode cX8_text 23 = .ok (.iconst 0, 1) := by decide +kernel
theorem dX8_text_24 : decode cX8_text 24 = .ok (.putfield 193, 3) := by decide +kernel
theorem dX8_text_27 : decode cX8_text 27 = .ok (.aload_n 0, 1) := by decide +kernel
theorem dX8_text_28 : decode cX8_text 28 = .ok (.iconst 0, 1) := by decide +kernel
theorem dX8_text_29 : decode cX8_text 29 = .ok (.putfield 190, 3) := by decide +kernel
theorem dX8_text_32 : decode cX8_text 32 = .ok (.aload_n 0, 1) := by decide +kernel
theorem dX8_text_33 : decode cX8_text 33 = .ok (.invokevirtual 199, 3) := by decide +kernel
theorem dX8_text_36 : decode cX8_text 36 = .ok (.iconst 0, 1) := by decide +kernel
theorem dX8_text_37 : decode cX8_text 37 = .ok (.istore_n 1, 1) := by decide +kernel
theorem dX8_text_38 : decode cX8_text 38 = .ok (.iload_n 1, 1) := by decide +kernel
theorem dX8_text_39 : decode cX8_text 39 = .ok (.iconst 2, 1) := by decide +kernel
theorem dX8_text_40 : decode cX8_text 40 = .ok (.if_icmp .gt 21, 3) := by decide +kernel
theorem dX8_text_43 : decode cX8_text 43 = .ok (.aload_n 0, 1) := by decide +kernel
theorem dX8_text_44 : decode cX8_text 44 = .ok (.getfield 187, 3) := by decide +kernel
theorem dX8_text_47 : decode cX8_text 47 = .ok (.ifCond .ge 14, 3) := by decide +kernel
theorem dX8_text_50 : decode cX8_text 50 = .ok (.aload_n 0, 1) := by decide +kernel
theorem dX8_text_51 : decode cX8_text 51 = .ok (.iload_n 1, 1) := by decide +kernel
theorem dX8_text_52 : decode cX8_text 52 = .ok (.invokevirtual 234, 3) := by decide +kernel
theorem dX8_text_55 : decode cX8_text 55 = .ok (.iinc 1 1, 3) := by decide +kernel
theorem dX8_text_58 : decode cX8_text 58 = .ok (.goto (-20), 3) := by decide +kernel
theorem dX8_text_61 : decode cX8_text 61 = .ok (.aload_n 0, 1) := by decide +kernel
theorem dX8_text_62 : decode cX8_text 62 = .ok (.getfield 187, 3) := by decide +kernel
theorem dX8_text_65 : decode cX8_text 65 = .ok (.ifCond .ge 15, 3) := by decide +kernel
theorem dX8_text_68 : decode cX8_text 68 = .ok (.aload_n 0, 1) := by decide +kernel
theorem dX8_text_69 : decode cX8_text 69 = .ok (.getfield 171, 3) := by decide +kernel
theorem dX8_text_72 : decode cX8_text 72 = .ok (.iconst 4, 1) := by decide +kernel
theorem dX8_text_73 : decode cX8_text 73 = .ok (.if_icmp .eq 7, 3) := by decide +kernel
theorem dX8_text_76 : decode cX8_text 76 = .ok (.aload_n 0, 1) := by decide +kernel
theorem dX8_text_77 : decode cX8_text 77 = .ok (.invokevirtual 196, 3) := by decide +kernel
theorem dX8_text_80 : decode cX8_text 80 = .ok (.aload_n 0, 1) := by decide +kernel
theorem dX8_text_81 : decode cX8_text 81 = .ok (.iconst 0, 1) := by decide +kernel
theorem dX8_text_82 : decode cX8_text 82 = .ok (.putfield 162, 3) := by decide +kernel
theorem dX8_text_85 : decode cX8_text 85 = .ok (.aload_n 0, 1) := by decide +kernel
theorem dX8_text_86 : decode cX8_text 86 = .ok (.getfield 187, 3) := by decide +kernel
theorem dX8_text_89 : decode cX8_text 89 = .ok (.ifCond .lt 11, 3) := by decide +kernel
theorem dX8_text_92 : decode cX8_text 92 = .ok (.bipush (-100), 2) := by decide +kernel
theorem dX8_text_94 : decode cX8_text 94 = .ok (.aload_n 0, 1) := by decide +kernel
theorem dX8_text_95 : decode cX8_text 95 = .ok (.getfield 187, 3) := by decide +kernel
theorem dX8_text_98 : decode cX8_text 98 = .ok (.isub, 1) := by decide +kernel
theorem dX8_text_99 : decode cX8_text 99 = .ok (.ireturn, 1) := by decide +kernel
theorem dX8_text_100 : decode cX8_text 100 = .ok (.iconst 0, 1) := by decide +kernel
theorem dX8_text_101 : decode cX8_text 101 = .ok (.istore_n 1, 1) := by decide +kernel
theorem dX8_text_102 : decode cX8_text 102 = .ok (.iload_n 1, 1) := by decide +kernel
theorem dX8_text_103 : decode cX8_text 103 = .ok (.aload_n 0, 1) := by decide +kernel
theorem dX8_text_104 : decode cX8_text 104 = .ok (.getfield 190, 3) := by decide +kernel
theorem dX8_text_107 : decode cX8_text 107 = .ok (.if_icmp .ge 59, 3) := by decide +kernel
theorem dX8_text_110 : decode cX8_text 110 = .ok (.aload_n 0, 1) := by decide +kernel
theorem dX8_text_111 : decode cX8_text 111 = .ok (.getfield 60, 3) := by decide +kernel
theorem dX8_text_114 : decode cX8_text 114 = .ok (.sipush 170, 3) := by decide +kernel
theorem dX8_text_117 : decode cX8_text 117 = .ok (.aload_n 0, 1) := by decide +kernel
theorem dX8_text_118 : decode cX8_text 118 = .ok (.getfield 57, 3) := by decide +kernel
theorem dX8_text_121 : decode cX8_text 121 = .ok (.imul, 1) := by decide +kernel
theorem dX8_text_122 : decode cX8_text 122 = .ok (.iload_n 1, 1) := by decide +kernel
theorem dX8_text_123 : decode cX8_text 123 = .ok (.iadd, 1) := by decide +kernel
theorem dX8_text_124 : decode cX8_text 124 = .ok (.aload_n 0, 1) := by decide +kernel
theorem dX8_text_125 : decode cX8_text 125 = .ok (.getfield 60, 3) := by decide +kernel
theorem dX8_text_128 : decode cX8_text 128 = .ok (.sipush 1020, 3) := by decide +kernel
theorem dX8_text_131 : decode cX8_text 131 = .ok (.iload_n 1, 1) := by decide +kernel
theorem dX8_text_132 : decode cX8_text 132 = .ok (.iadd, 1) := by decide +kernel
theorem dX8_text_133 : decode cX8_text 133 = .ok (.iaload, 1) := by decide +kernel
theorem dX8_text_134 : decode cX8_text 134 = .ok (.iastore, 1) := by decide +kernel
theorem dX8_text_135 : decode cX8_text 135 = .ok (.aload_n 0, 1) := by decide +kernel
theorem dX8_text_136 : decode cX8_text 136 = .ok (.getfield 63, 3) := by decide +kernel
theorem dX8_text_139 : decode cX8_text 139 = .ok (.sipush 170, 3) := by decide +kernel
theorem dX8_text_142 : decode cX8_text 142 = .ok (.aload_n 0, 1) := by decide +kernel
theorem dX8_text_143 : decode cX8_text 143 = .ok (.getfield 57, 3) := by decide +kernel
theorem dX8_text_146 : decode cX8_text 146 = .ok (.imul, 1) := by decide +kernel
theorem dX8_text_147 : decode cX8_text 147 = .ok (.iload_n 1, 1) := by decide +kernel
theorem dX8_text_148 : decode cX8_text 148 = .ok (.iadd, 1) := by decide +kernel
theorem dX8_text_149 : decode cX8_text 149 = .ok (.aload_n 0, 1) := by decide +kernel
theorem dX8_text_150 : decode cX8_text 150 = .ok (.getfield 63, 3) := by decide +kernel
theorem dX8_text_153 : decode cX8_text 153 = .ok (.sipush 1020, 3) := by decide +kernel
theorem dX8_text_156 : decode cX8_text 156 = .ok (.iload_n 1, 1) := by decide +kernel
theorem dX8_text_157 : decode cX8_text 157 = .ok (.iadd, 1) := by decide +kernel
theorem dX8_text_158 : decode cX8_text 158 = .ok (.iaload, 1) := by decide +kernel
theorem dX8_text_159 : decode cX8_text 159 = .ok (.iastore, 1) := by decide +kernel
theorem dX8_text_160 : decode cX8_text 160 = .ok (.iinc 1 1, 3) := by decide +kernel
theorem dX8_text_163 : decode cX8_text 163 = .ok (.goto (-61), 3) := by decide +kernel
theorem dX8_text_166 : decode cX8_text 166 = .ok (.iconst 0, 1) := by decide +kernel
theorem dX8_text_167 : decode cX8_text 167 = .ok (.istore_n 1, 1) := by decide +kernel
theorem dX8_text_168 : decode cX8_text 168 = .ok (.iload_n 1, 1) := by decide +kernel
theorem dX8_text_169 : decode cX8_text 169 = .ok (.iconst 3, 1) := by decide +kernel
theorem dX8_text_170 : decode cX8_text 170 = .ok (.if_icmp .ge 31, 3) := by decide +kernel
theorem dX8_text_173 : decode cX8_text 173 = .ok (.aload_n 0, 1) := by decide +kernel
theorem dX8_text_174 : decode cX8_text 174 = .ok (.getfield 66, 3) := by decide +kernel
theorem dX8_text_177 : decode cX8_text 177 = .ok (.iconst 3, 1) := by decide +kernel
theorem dX8_text_178 : decode cX8_text 178 = .ok (.aload_n 0, 1) := by decide +kernel
theorem dX8_text_179 : decode cX8_text 179 = .ok (.getfield 57, 3) := by decide +kernel
theorem dX8_text_182 : decode cX8_text 182 = .ok (.imul, 1) := by decide +kernel
theorem dX8_text_183 : decode cX8_text 183 = .ok (.iload_n 1, 1) := by decide +kernel
theorem dX8_text_184 : decode cX8_text 184 = .ok (.iadd, 1) := by decide +kernel
theorem dX8_text_185 : decode cX8_text 185 = .ok (.aload_n 0, 1) := by decide +kernel
theorem dX8_text_186 : decode cX8_text 186 = .ok (.getfield 66, 3) := by decide +kernel
theorem dX8_text_189 : decode cX8_text 189 = .ok (.bipush 18, 2) := by decide +kernel
theorem dX8_text_191 : decode cX8_text 191 = .ok (.iload_n 1, 1) := by decide +kernel
theorem dX8_text_192 : decode cX8_text 192 = .ok (.iadd, 1) := by decide +kernel
theorem dX8_text_193 : decode cX8_text 193 = .ok (.iaload, 1) := by decide +kernel
theorem dX8_text_194 : decode cX8_text 194 = .ok (.iastore, 1) := by decide +kernel
theorem dX8_text_195 : decode cX8_text 195 = .ok (.iinc 1 1, 3) := by decide +kernel
theorem dX8_text_198 : decode cX8_text 198 = .ok (.goto (-30), 3) := by decide +kernel
theorem dX8_text_201 : decode cX8_text 201 = .ok (.aload_n 0, 1) := by decide +kernel
theorem dX8_text_202 : decode cX8_text 202 = .ok (.dup, 1) := by decide +kernel
theorem dX8_text_203 : decode cX8_text 203 = .ok (.getfield 57, 3) := by decide +kernel
theorem dX8_text_206 : decode cX8_text 206 = .ok (.iconst 1, 1) := by decide +kernel
theorem dX8_text_207 : decode cX8_text 207 = .ok (.iadd, 1) := by decide +kernel
theorem dX8_text_208 : decode cX8_text 208 = .ok (.putfield 57, 3) := by decide +kernel
theorem dX8_text_211 : decode cX8_text 211 = .ok (.aload_n 0, 1) := by decide +kernel
theorem dX8_text_212 : decode cX8_text 212 = .ok (.getfield 57, 3) := by decide +kernel
theorem dX8_text_215 : decode cX8_text 215 = .ok (.iconst 1, 1) := by decide +kernel
theorem dX8_text_216 : decode cX8_text 216 = .ok (.isub, 1) := by decide +kernel
theorem dX8_text_217 : decode cX8_text 217 = .ok (.ireturn, 1) := by decide +kernel
theorem dX8_force_0 : decode cX8_force 0 = .ok (.iload_n 1, 1) := by decide +kernel
theorem dX8_force_1 : decode cX8_force 1 = .ok (.iconst 0, 1) := by decide +kernel
theorem dX8_force_2 : decode cX8_force 2 = .ok (.aload_n 0, 1) := by decide +kernel
theorem dX8_force_3 : decode cX8_force 3 = .ok (.getfield 57, 3) := by decide +kernel
theorem dX8_force_6 : decode cX8_force 6 = .ok (.iconst 1, 1) := by decide +kernel
theorem dX8_force_7 : decode cX8_force 7 = .ok (.isub, 1) := by decide +kernel
theorem dX8_force_8 : decode cX8_force 8 = .ok (.invokestatic 132, 3) := by decide +kernel
theorem dX8_force_11 : decode cX8_force 11 = .ok (.ifCond .ne 6, 3) := by decide +kernel
theorem dX8_force_14 : decode cX8_force 14 = .ok (.bipush (-2), 2) := by decide +kernel
theorem dX8_force_16 : decode cX8_force 16 = .ok (.ireturn, 1) := by decide +kernel
theorem dX8_force_17 : decode cX8_force 17 = .ok (.aload_n 0, 1) := by decide +kernel
theorem dX8_force_18 : decode cX8_force 18 = .ok (.getfield 238, 3) := by decide +kernel
theorem dX8_force_21 : decode cX8_force 21 = .ok (.istore_n 2, 1) := by decide +kernel
theorem dX8_force_22 : decode cX8_force 22 = .ok (.aload_n 0, 1) := by decide +kernel
theorem dX8_force_23 : decode cX8_force 23 = .ok (.iload_n 1, 1) := by decide +kernel
theorem dX8_force_24 : decode cX8_force 24 = .ok (.putfield 238, 3) := by decide +kernel
theorem dX8_force_27 : decode cX8_force 27 = .ok (.iload_n 2, 1) := by decide +kernel
theorem dX8_force_28 : decode cX8_force 28 = .ok (.ireturn, 1) := by decide +kernel
theorem dX8_twoOf_0 : decode cX8_twoOf 0 = .ok (.iload_n 0, 1) := by decide +kernel
theorem dX8_twoOf_1 : decode cX8_twoOf 1 = .ok (.lookupswitch 117 #[(5, 59), (6, 73), (43, 109), (45, 113), (60, 87), (61, 98)], 59) := by decide +kernel
theorem dX8_twoOf_60 : decode cX8_twoOf 60 = .ok (.iload_n 1, 1) := by decide +kernel
theorem dX8_twoOf_61 : decode cX8_twoOf 61 = .ok (.ifCond .ne 7, 3) := by decide +kernel
theorem dX8_twoOf_64 : decode cX8_twoOf 64 = .ok (.iload_n 2, 1) := by decide +kernel
theorem dX8_twoOf_65 : decode cX8_twoOf 65 = .ok (.ifCond .eq 7, 3) := by decide +kernel
theorem dX8_twoOf_68 : decode cX8_twoOf 68 = .ok (.iconst 1, 1) := by decide +kernel
theorem dX8_twoOf_69 : decode cX8_twoOf 69 = .ok (.goto 4, 3) := by decide +kernel
theorem dX8_twoOf_72 : decode cX8_twoOf 72 = .ok (.iconst 0, 1) := by decide +kernel
theorem dX8_twoOf_73 : decode cX8_twoOf 73 = .ok (.ireturn, 1) := by decide +kernel
theorem dX8_twoOf_74 : decode cX8_twoOf 74 = .ok (.iload_n 1, 1) := by decide +kernel
theorem dX8_twoOf_75 : decode cX8_twoOf 75 = .ok (.ifCond .eq 11, 3) := by decide +kernel
theorem dX8_twoOf_78 : decode cX8_twoOf 78 = .ok (.iload_n 2, 1) := by decide +kernel
theorem dX8_twoOf_79 : decode cX8_twoOf 79 = .ok (.ifCond .eq 7, 3) := by decide +kernel
theorem dX8_twoOf_82 : decode cX8_twoOf 82 = .ok (.iconst 1, 1) := by decide +kernel
theorem dX8_twoOf_83 : decode cX8_twoOf 83 = .ok (.goto 4, 3) := by decide +kernel
theorem dX8_twoOf_86 : decode cX8_twoOf 86 = .ok (.iconst 0, 1) := by decide +kernel
theorem dX8_twoOf_87 : decode cX8_twoOf 87 = .ok (.ireturn, 1) := by decide +kernel
theorem dX8_twoOf_88 : decode cX8_twoOf 88 = .ok (.iload_n 1, 1) := by decide +kernel
theorem dX8_twoOf_89 : decode cX8_twoOf 89 = .ok (.iload_n 2, 1) := by decide +kernel
theorem dX8_twoOf_90 : decode cX8_twoOf 90 = .ok (.if_icmp .ge 7, 3) := by decide +kernel
theorem dX8_twoOf_93 : decode cX8_twoOf 93 = .ok (.iconst 1, 1) := by decide +kernel
theorem dX8_twoOf_94 : decode cX8_twoOf 94 = .ok (.goto 4, 3) := by decide +kernel
theorem dX8_twoOf_97 : decode cX8_twoOf 97 = .ok (.iconst 0, 1) := by decide +kernel
theorem dX8_twoOf_98 : decode cX8_twoOf 98 = .ok (.ireturn, 1) := by decide +kernel
theorem dX8_twoOf_99 : decode cX8_twoOf 99 = .ok (.iload_n 1, 1) := by decide +kernel
theorem dX8_twoOf_100 : decode cX8_twoOf 100 = .ok (.iload_n 2, 1) := by decide +kernel
theorem dX8_twoOf_101 : decode cX8_twoOf 101 = .ok (.if_icmp .ne 7, 3) := by decide +kernel
theorem dX8_twoOf_104 : decode cX8_twoOf 104 = .ok (.iconst 1, 1) := by decide +kernel
theorem dX8_twoOf_105 : decode cX8_twoOf 105 = .ok (.goto 4, 3) := by decide +kernel
theorem dX8_twoOf_108 : decode cX8_twoOf 108 = .ok (.iconst 0, 1) := by decide +kernel
theorem dX8_twoOf_109 : decode cX8_twoOf 109 = .ok (.ireturn, 1) := by decide +kernel
theorem dX8_twoOf_110 : decode cX8_twoOf 110 = .ok (.iload_n 1, 1) := by decide +kernel
theorem dX8_twoOf_111 : decode cX8_twoOf 111 = .ok (.iload_n 2, 1) := by decide +kernel
theorem dX8_twoOf_112 : decode cX8_twoOf 112 = .ok (.iadd, 1) := by decide +kernel
theorem dX8_twoOf_113 : decode cX8_twoOf 113 = .ok (.ireturn, 1) := by decide +kernel
theorem dX8_twoOf_114 : decode cX8_twoOf 114 = .ok (.iload_n 1, 1) := by decide +kernel
theorem dX8_twoOf_115 : decode cX8_twoOf 115 = .ok (.iload_n 2, 1) := by decide +kernel
theorem dX8_twoOf_116 : decode cX8_twoOf 116 = .ok (.isub, 1) := by decide +kernel
theorem dX8_twoOf_117 : decode cX8_twoOf 117 = .ok (.ireturn, 1) := by decide +kernel
theorem dX8_twoOf_118 : decode cX8_twoOf 118 = .ok (.iload_n 1, 1) := by decide +kernel
theorem dX8_twoOf_119 : decode cX8_twoOf 119 = .ok (.iload_n 2, 1) := by decide +kernel
theorem dX8_twoOf_120 : decode cX8_twoOf 120 = .ok (.imul, 1) := by decide +kernel
theorem dX8_twoOf_121 : decode cX8_twoOf 121 = .ok (.ireturn, 1) := by decide +kernel
theorem dX8_gives_0 : decode cX8_gives 0 = .ok (.aload_n 0, 1) := by decide +kernel
theorem dX8_gives_1 : decode cX8_gives 1 = .ok (.getfield 238, 3) := by decide +kernel
theorem dX8_gives_4 : decode cX8_gives 4 = .ok (.ifCond .ne 36, 3) := by decide +kernel
theorem dX8_gives_7 : decode cX8_gives 7 = .ok (.iload_n 1, 1) := by decide +kernel
theorem dX8_gives_8 : decode cX8_gives 8 = .ok (.ifCond .ne 21, 3) := by decide +kernel
theorem dX8_gives_11 : decode cX8_gives 11 = .ok (.aload_n 0, 1) := by decide +kernel
theorem dX8_gives_12 : decode cX8_gives 12 = .ok (.getfield 72, 3) := by decide +kernel
theorem dX8_gives_15 : decode cX8_gives 15 = .ok (.iconst 4, 1) := by decide +kernel
theorem dX8_gives_16 : decode cX8_gives 16 = .ok (.iaload, 1) := by decide +kernel
theorem dX8_gives_17 : decode cX8_gives 17 = .ok (.iconst 3, 1) := by decide +kernel
theorem dX8_gives_18 : decode cX8_gives 18 = .ok (.imul, 1) := by decide +kernel
theorem dX8_gives_19 : decode cX8_gives 19 = .ok (.aload_n 0, 1) := by decide +kernel
theorem dX8_gives_20 : decode cX8_gives 20 = .ok (.getfield 72, 3) := by decide +kernel
theorem dX8_gives_23 : decode cX8_gives 23 = .ok (.iconst 5, 1) := by decide +kernel
theorem dX8_gives_24 : decode cX8_gives 24 = .ok (.iaload, 1) := by decide +kernel
theorem dX8_gives_25 : decode cX8_gives 25 = .ok (.isub, 1) := by decide +kernel
theorem dX8_gives_26 : decode cX8_gives 26 = .ok (.goto 13, 3) := by decide +kernel
theorem dX8_gives_29 : decode cX8_gives 29 = .ok (.iload_n 1, 1) := by decide +kernel
theorem dX8_gives_30 : decode cX8_gives 30 = .ok (.iconst 1, 1) := by decide +kernel
theorem dX8_gives_31 : decode cX8_gives 31 = .ok (.if_icmp .ne 7, 3) := by decide +kernel
theorem dX8_gives_34 : decode cX8_gives 34 = .ok (.iconst 0, 1) := by decide +kernel
theorem dX8_gives_35 : decode cX8_gives 35 = .ok (.goto 4, 3) := by decide +kernel
theorem dX8_gives_38 : decode cX8_gives 38 = .ok (.iconst 1, 1) := by decide +kernel
theorem dX8_gives_39 : decode cX8_gives 39 = .ok (.ireturn, 1) := by decide +kernel
theorem dX8_gives_40 : decode cX8_gives 40 = .ok (.iconst 0, 1) := by decide +kernel
theorem dX8_gives_41 : decode cX8_gives 41 = .ok (.istore_n 2, 1) := by decide +kernel
theorem dX8_gives_42 : decode cX8_gives 42 = .ok (.iload_n 1, 1) := by decide +kernel
theorem dX8_gives_43 : decode cX8_gives 43 = .ok (.ifCond .ne 7, 3) := by decide +kernel
theorem dX8_gives_46 : decode cX8_gives 46 = .ok (.iconst 0, 1) := by decide +kernel
theorem dX8_gives_47 : decode cX8_gives 47 = .ok (.goto 18, 3) := by decide +kernel
theorem dX8_gives_50 : decode cX8_gives 50 = .ok (.aload_n 0, 1) := by decide +kernel
theorem dX8_gives_51 : decode cX8_gives 51 = .ok (.getfield 66, 3) := by decide +kernel
theorem dX8_gives_54 : decode cX8_gives 54 = .ok (.iconst 3, 1) := by decide +kernel
theorem dX8_gives_55 : decode cX8_gives 55 = .ok (.aload_n 0, 1) := by decide +kernel
theorem dX8_gives_56 : decode cX8_gives 56 = .ok (.getfield 238, 3) := by decide +kernel
theorem dX8_gives_59 : decode cX8_gives 59 = .ok (.imul, 1) := by decide +kernel
theorem dX8_gives_60 : decode cX8_gives 60 = .ok (.iload_n 1, 1) := by decide +kernel
theorem dX8_gives_61 : decode cX8_gives 61 = .ok (.iadd, 1) := by decide +kernel
theorem dX8_gives_62 : decode cX8_gives 62 = .ok (.iconst 1, 1) := by decide +kernel
theorem dX8_gives_63 : decode cX8_gives 63 = .ok (.isub, 1) := by decide +kernel
theorem dX8_gives_64 : decode cX8_gives 64 = .ok (.iaload, 1) := by decide +kernel
theorem dX8_gives_65 : decode cX8_gives 65 = .ok (.istore_n 3, 1) := by decide +kernel
theorem dX8_gives_66 : decode cX8_gives 66 = .ok (.sipush 170, 3) := by decide +kernel
theorem dX8_gives_69 : decode cX8_gives 69 = .ok (.aload_n 0, 1) := by decide +kernel
theorem dX8_gives_70 : decode cX8_gives 70 = .ok (.getfield 238, 3) := by decide +kernel
theorem dX8_gives_73 : decode cX8_gives 73 = .ok (.imul, 1) := by decide +kernel
theorem dX8_gives_74 : decode cX8_gives 74 = .ok (.iload_n 3, 1) := by decide +kernel
theorem dX8_gives_75 : decode cX8_gives 75 = .ok (.iadd, 1) := by decide +kernel
theorem dX8_gives_76 : decode cX8_gives 76 = .ok (.istore 4, 2) := by decide +kernel
theorem dX8_gives_78 : decode cX8_gives 78 = .ok (.iload 4, 2) := by decide +kernel
theorem dX8_gives_80 : decode cX8_gives 80 = .ok (.sipush 170, 3) := by decide +kernel
theorem dX8_gives_83 : decode cX8_gives 83 = .ok (.aload_n 0, 1) := by decide +kernel
theorem dX8_gives_84 : decode cX8_gives 84 = .ok (.getfield 238, 3) := by decide +kernel
theorem dX8_gives_87 : decode cX8_gives 87 = .ok (.imul, 1) := by decide +kernel
theorem dX8_gives_88 : decode cX8_gives 88 = .ok (.aload_n 0, 1) := by decide +kernel
theorem dX8_gives_89 : decode cX8_gives 89 = .ok (.getfield 66, 3) := by decide +kernel
theorem dX8_gives_92 : decode cX8_gives 92 = .ok (.iconst 3, 1) := by decide +kernel
theorem dX8_gives_93 : decode cX8_gives 93 = .ok (.aload_n 0, 1) := by decide +kernel
theorem dX8_gives_94 : decode cX8_gives 94 = .ok (.getfield 238, 3) := by decide +kernel
theorem dX8_gives_97 : decode cX8_gives 97 = .ok (.imul, 1) := by decide +kernel
theorem dX8_gives_98 : decode cX8_gives 98 = .ok (.iload_n 1, 1) := by decide +kernel
theorem dX8_gives_99 : decode cX8_gives 99 = .ok (.iadd, 1) := by decide +kernel
theorem dX8_gives_100 : decode cX8_gives 100 = .ok (.iaload, 1) := by decide +kernel
theorem dX8_gives_101 : decode cX8_gives 101 = .ok (.iadd, 1) := by decide +kernel
theorem dX8_gives_102 : decode cX8_gives 102 = .ok (.if_icmp .ge 175, 3) := by decide +kernel
theorem dX8_gives_105 : decode cX8_gives 105 = .ok (.aload_n 0, 1) := by decide +kernel
theorem dX8_gives_106 : decode cX8_gives 106 = .ok (.getfield 60, 3) := by decide +kernel
theorem dX8_gives_109 : decode cX8_gives 109 = .ok (.iload 4, 2) := by decide +kernel
theorem dX8_gives_111 : decode cX8_gives 111 = .ok (.iaload, 1) := by decide +kernel
theorem dX8_gives_112 : decode cX8_gives 112 = .ok (.tableswitch 122 1 4 #[32, 51, 75, 102], 32) := by decide +kernel
theorem dX8_gives_144 : decode cX8_gives 144 = .ok (.aload_n 0, 1) := by decide +kernel
theorem dX8_gives_145 : decode cX8_gives 145 = .ok (.getfield 69, 3) := by decide +kernel
theorem dX8_gives_148 : decode cX8_gives 148 = .ok (.iload_n 2, 1) := by decide +kernel
theorem dX8_gives_149 : decode cX8_gives 149 = .ok (.aload_n 0, 1) := by decide +kernel
theorem dX8_gives_150 : decode cX8_gives 150 = .ok (.getfield 63, 3) := by decide +kernel
theorem dX8_gives_153 : decode cX8_gives 153 = .ok (.iload 4, 2) := by decide +kernel
theorem dX8_gives_155 : decode cX8_gives 155 = .ok (.iaload, 1) := by decide +kernel
theorem dX8_gives_156 : decode cX8_gives 156 = .ok (.iastore, 1) := by decide +kernel
theorem dX8_gives_157 : decode cX8_gives 157 = .ok (.iinc 2 1, 3) := by decide +kernel
theorem dX8_gives_160 : decode cX8_gives 160 = .ok (.goto 111, 3) := by decide +kernel
theorem dX8_gives_163 : decode cX8_gives 163 = .ok (.aload_n 0, 1) := by decide +kernel
theorem dX8_gives_164 : decode cX8_gives 164 = .ok (.getfield 69, 3) := by decide +kernel
theorem dX8_gives_167 : decode cX8_gives 167 = .ok (.iload_n 2, 1) := by decide +kernel
theorem dX8_gives_168 : decode cX8_gives 168 = .ok (.aload_n 0, 1) := by decide +kernel
theorem dX8_gives_169 : decode cX8_gives 169 = .ok (.getfield 72, 3) := by decide +kernel
theorem dX8_gives_172 : decode cX8_gives 172 = .ok (.aload_n 0, 1) := by decide +kernel
theorem dX8_gives_173 : decode cX8_gives 173 = .ok (.getfield 63, 3) := by decide +kernel
theorem dX8_gives_176 : decode cX8_gives 176 = .ok (.iload 4, 2) := by decide +kernel
theorem dX8_gives_178 : decode cX8_gives 178 = .ok (.iaload, 1) := by decide +kernel
theorem dX8_gives_179 : decode cX8_gives 179 = .ok (.iaload, 1) := by decide +kernel
theorem dX8_gives_180 : decode cX8_gives 180 = .ok (.iastore, 1) := by decide +kernel
theorem dX8_gives_181 : decode cX8_gives 181 = .ok (.iinc 2 1, 3) := by decide +kernel
theorem dX8_gives_184 : decode cX8_gives 184 = .ok (.goto 87, 3) := by decide +kernel
theorem dX8_gives_187 : decode cX8_gives 187 = .ok (.aload_n 0, 1) := by decide +kernel
theorem dX8_gives_188 : decode cX8_gives 188 = .ok (.getfield 69, 3) := by decide +kernel
theorem dX8_gives_191 : decode cX8_gives 191 = .ok (.iload_n 2, 1) := by decide +kernel
theorem dX8_gives_192 : decode cX8_gives 192 = .ok (.iconst 1, 1) := by decide +kernel
theorem dX8_gives_193 : decode cX8_gives 193 = .ok (.isub, 1) := by decide +kernel
theorem dX8_gives_194 : decode cX8_gives 194 = .ok (.aload_n 0, 1) := by decide +kernel
theorem dX8_gives_195 : decode cX8_gives 195 = .ok (.getfield 69, 3) := by decide +kernel
theorem dX8_gives_198 : decode cX8_gives 198 = .ok (.iload_n 2, 1) := by decide +kernel
theorem dX8_gives_199 : decode cX8_gives 199 = .ok (.iconst 1, 1) := by decide +kernel
theorem dX8_gives_200 : decode cX8_gives 200 = .ok (.isub, 1) := by decide +kernel
theorem dX8_gives_201 : decode cX8_gives 201 = .ok (.iaload, 1) := by decide +kernel
theorem dX8_gives_202 : decode cX8_gives 202 = .ok (.ifCond .ne 7, 3) := by decide +kernel
theorem dX8_gives_205 : decode cX8_gives 205 = .ok (.iconst 1, 1) := by decide +kernel
theorem dX8_gives_206 : decode cX8_gives 206 = .ok (.goto 4, 3) := by decide +kernel
theorem dX8_gives_209 : decode cX8_gives 209 = .ok (.iconst 0, 1) := by decide +kernel
theorem dX8_gives_210 : decode cX8_gives 210 = .ok (.iastore, 1) := by decide +kernel
theorem dX8_gives_211 : decode cX8_gives 211 = .ok (.goto 60, 3) := by decide +kernel
theorem dX8_gives_214 : decode cX8_gives 214 = .ok (.aload_n 0, 1) := by decide +kernel
theorem dX8_gives_215 : decode cX8_gives 215 = .ok (.getfield 69, 3) := by decide +kernel
theorem dX8_gives_218 : decode cX8_gives 218 = .ok (.iload_n 2, 1) := by decide +kernel
theorem dX8_gives_219 : decode cX8_gives 219 = .ok (.iconst 1, 1) := by decide +kernel
theorem dX8_gives_220 : decode cX8_gives 220 = .ok (.isub, 1) := by decide +kernel
theorem dX8_gives_221 : decode cX8_gives 221 = .ok (.aload_n 0, 1) := by decide +kernel
theorem dX8_gives_222 : decode cX8_gives 222 = .ok (.getfield 69, 3) := by decide +kernel
theorem dX8_gives_225 : decode cX8_gives 225 = .ok (.iload_n 2, 1) := by decide +kernel
theorem dX8_gives_226 : decode cX8_gives 226 = .ok (.iconst 1, 1) := by decide +kernel
theorem dX8_gives_227 : decode cX8_gives 227 = .ok (.isub, 1) := by decide +kernel
theorem dX8_gives_228 : decode cX8_gives 228 = .ok (.iaload, 1) := by decide +kernel
theorem dX8_gives_229 : decode cX8_gives 229 = .ok (.ineg, 1) := by decide +kernel
theorem dX8_gives_230 : decode cX8_gives 230 = .ok (.iastore, 1) := by decide +kernel
theorem dX8_gives_231 : decode cX8_gives 231 = .ok (.goto 40, 3) := by decide +kernel
theorem dX8_gives_234 : decode cX8_gives 234 = .ok (.aload_n 0, 1) := by decide +kernel
theorem dX8_gives_235 : decode cX8_gives 235 = .ok (.getfield 69, 3) := by decide +kernel
theorem dX8_gives_238 : decode cX8_gives 238 = .ok (.iload_n 2, 1) := by decide +kernel
theorem dX8_gives_239 : decode cX8_gives 239 = .ok (.iconst 2, 1) := by decide +kernel
theorem dX8_gives_240 : decode cX8_gives 240 = .ok (.isub, 1) := by decide +kernel
theorem dX8_gives_241 : decode cX8_gives 241 = .ok (.aload_n 0, 1) := by decide +kernel
theorem dX8_gives_242 : decode cX8_gives 242 = .ok (.getfield 60, 3) := by decide +kernel
theorem dX8_gives_245 : decode cX8_gives 245 = .ok (.iload 4, 2) := by decide +kernel
theorem dX8_gives_247 : decode cX8_gives 247 = .ok (.iaload, 1) := by decide +kernel
theorem dX8_gives_248 : decode cX8_gives 248 = .ok (.aload_n 0, 1) := by decide +kernel
theorem dX8_gives_249 : decode cX8_gives 249 = .ok (.getfield 69, 3) := by decide +kernel
theorem dX8_gives_252 : decode cX8_gives 252 = .ok (.iload_n 2, 1) := by decide +kernel
theorem dX8_gives_253 : decode cX8_gives 253 = .ok (.iconst 2, 1) := by decide +kernel
theorem dX8_gives_254 : decode cX8_gives 254 = .ok (.isub, 1) := by decide +kernel
theorem dX8_gives_255 : decode cX8_gives 255 = .ok (.iaload, 1) := by decide +kernel
theorem dX8_gives_256 : decode cX8_gives 256 = .ok (.aload_n 0, 1) := by decide +kernel
theorem dX8_gives_257 : decode cX8_gives 257 = .ok (.getfield 69, 3) := by decide +kernel
theorem dX8_gives_260 : decode cX8_gives 260 = .ok (.iload_n 2, 1) := by decide +kernel
theorem dX8_gives_261 : decode cX8_gives 261 = .ok (.iconst 1, 1) := by decide +kernel
theorem dX8_gives_262 : decode cX8_gives 262 = .ok (.isub, 1) := by decide +kernel
theorem dX8_gives_263 : decode cX8_gives 263 = .ok (.iaload, 1) := by decide +kernel
theorem dX8_gives_264 : decode cX8_gives 264 = .ok (.invokestatic 241, 3) := by decide +kernel
theorem dX8_gives_267 : decode cX8_gives 267 = .ok (.iastore, 1) := by decide +kernel
theorem dX8_gives_268 : decode cX8_gives 268 = .ok (.iinc 2 (-1), 3) := by decide +kernel
theorem dX8_gives_271 : decode cX8_gives 271 = .ok (.iinc 4 1, 3) := by decide +kernel
theorem dX8_gives_274 : decode cX8_gives 274 = .ok (.goto (-196), 3) := by decide +kernel
theorem dX8_gives_277 : decode cX8_gives 277 = .ok (.aload_n 0, 1) := by decide +kernel
theorem dX8_gives_278 : decode cX8_gives 278 = .ok (.getfield 69, 3) := by decide +kernel
theorem dX8_gives_281 : decode cX8_gives 281 = .ok (.iconst 0, 1) := by decide +kernel
theorem dX8_gives_282 : decode cX8_gives 282 = .ok (.iaload, 1) := by decide +kernel
theorem dX8_gives_283 : decode cX8_gives 283 = .ok (.ireturn, 1) := by decide +kernel
theorem dX8_waitingNow_0 : decode cX8_waitingNow 0 = .ok (.iconst 0, 1) := by decide +kernel
theorem dX8_waitingNow_1 : decode cX8_waitingNow 1 = .ok (.istore_n 1, 1) := by decide +kernel
theorem dX8_waitingNow_2 : decode cX8_waitingNow 2 = .ok (.iconst 0, 1) := by decide +kernel
theorem dX8_waitingNow_3 : decode cX8_waitingNow 3 = .ok (.istore_n 2, 1) := by decide +kernel
theorem dX8_waitingNow_4 : decode cX8_waitingNow 4 = .ok (.iload_n 2, 1) := by decide +kernel
theorem dX8_waitingNow_5 : decode cX8_waitingNow 5 = .ok (.bipush 120, 2) := by decide +kernel
theorem dX8_waitingNow_7 : decode cX8_waitingNow 7 = .ok (.aload_n 0, 1) := by decide +kernel
theorem dX8_waitingNow_8 : decode cX8_waitingNow 8 = .ok (.getfield 129, 3) := by decide +kernel
theorem dX8_waitingNow_11 : decode cX8_waitingNow 11 = .ok (.imul, 1) := by decide +kernel
theorem dX8_waitingNow_12 : decode cX8_waitingNow 12 = .ok (.if_icmp .ge 18, 3) := by decide +kernel
theorem dX8_waitingNow_15 : decode cX8_waitingNow 15 = .ok (.iload_n 1, 1) := by decide +kernel
theorem dX8_waitingNow_16 : decode cX8_waitingNow 16 = .ok (.aload_n 0, 1) := by decide +kernel
theorem dX8_waitingNow_17 : decode cX8_waitingNow 17 = .ok (.getfield 87, 3) := by decide +kernel
theorem dX8_waitingNow_20 : decode cX8_waitingNow 20 = .ok (.iload_n 2, 1) := by decide +kernel
theorem dX8_waitingNow_21 : decode cX8_waitingNow 21 = .ok (.iaload, 1) := by decide +kernel
theorem dX8_waitingNow_22 : decode cX8_waitingNow 22 = .ok (.iadd, 1) := by decide +kernel
theorem dX8_waitingNow_23 : decode cX8_waitingNow 23 = .ok (.istore_n 1, 1) := by decide +kernel
theorem dX8_waitingNow_24 : decode cX8_waitingNow 24 = .ok (.iinc 2 1, 3) := by decide +kernel
theorem dX8_waitingNow_27 : decode cX8_waitingNow 27 = .ok (.goto (-23), 3) := by decide +kernel
theorem dX8_waitingNow_30 : decode cX8_waitingNow 30 = .ok (.iload_n 1, 1) := by decide +kernel
theorem dX8_waitingNow_31 : decode cX8_waitingNow 31 = .ok (.ireturn, 1) := by decide +kernel
theorem dX8_findFacts_0 : decode cX8_findFacts 0 = .ok (.aload_n 0, 1) := by decide +kernel
theorem dX8_findFacts_1 : decode cX8_findFacts 1 = .ok (.getfield 72, 3) := by decide +kernel
theorem dX8_findFacts_4 : decode cX8_findFacts 4 = .ok (.iconst 0, 1) := by decide +kernel
theorem dX8_findFacts_5 : decode cX8_findFacts 5 = .ok (.aload_n 0, 1) := by decide +kernel
theorem dX8_findFacts_6 : decode cX8_findFacts 6 = .ok (.getfield 129, 3) := by decide +kernel
theorem dX8_findFacts_9 : decode cX8_findFacts 9 = .ok (.ifCond .ne 7, 3) := by decide +kernel
theorem dX8_findFacts_12 : decode cX8_findFacts 12 = .ok (.iconst 0, 1) := by decide +kernel
theorem dX8_findFacts_13 : decode cX8_findFacts 13 = .ok (.goto 9, 3) := by decide +kernel
theorem dX8_findFacts_16 : decode cX8_findFacts 16 = .ok (.aload_n 0, 1) := by decide +kernel
theorem dX8_findFacts_17 : decode cX8_findFacts 17 = .ok (.getfield 81, 3) := by decide +kernel
theorem dX8_findFacts_20 : decode cX8_findFacts 20 = .ok (.iload_n 2, 1) := by decide +kernel
theorem dX8_findFacts_21 : decode cX8_findFacts 21 = .ok (.iaload, 1) := by decide +kernel
theorem dX8_findFacts_22 : decode cX8_findFacts 22 = .ok (.iastore, 1) := by decide +kernel
theorem dX8_findFacts_23 : decode cX8_findFacts 23 = .ok (.aload_n 0, 1) := by decide +kernel
theorem dX8_findFacts_24 : decode cX8_findFacts 24 = .ok (.getfield 72, 3) := by decide +kernel
theorem dX8_findFacts_27 : decode cX8_findFacts 27 = .ok (.iconst 1, 1) := by decide +kernel
theorem dX8_findFacts_28 : decode cX8_findFacts 28 = .ok (.iload 4, 2) := by decide +kernel
theorem dX8_findFacts_30 : decode cX8_findFacts 30 = .ok (.iastore, 1) := by decide +kernel
theorem dX8_findFacts_31 : decode cX8_findFacts 31 = .ok (.aload_n 0, 1) := by decide +kernel
theorem dX8_findFacts_32 : decode cX8_findFacts 32 = .ok (.getfield 72, 3) := by decide +kernel
theorem dX8_findFacts_35 : decode cX8_findFacts 35 = .ok (.iconst 2, 1) := by decide +kernel
theorem dX8_findFacts_36 : decode cX8_findFacts 36 = .ok (.iload 5, 2) := by decide +kernel
theorem dX8_findFacts_38 : decode cX8_findFacts 38 = .ok (.iastore, 1) := by decide +kernel
theorem dX8_findFacts_39 : decode cX8_findFacts 39 = .ok (.aload_n 0, 1) := by decide +kernel
theorem dX8_findFacts_40 : decode cX8_findFacts 40 = .ok (.getfield 72, 3) := by decide +kernel
theorem dX8_findFacts_43 : decode cX8_findFacts 43 = .ok (.iconst 3, 1) := by decide +kernel
theorem dX8_findFacts_44 : decode cX8_findFacts 44 = .ok (.aload_n 0, 1) := by decide +kernel
theorem dX8_findFacts_45 : decode cX8_findFacts 45 = .ok (.iload_n 1, 1) := by decide +kernel
theorem dX8_findFacts_46 : decode cX8_findFacts 46 = .ok (.iload_n 3, 1) := by decide +kernel
theorem dX8_findFacts_47 : decode cX8_findFacts 47 = .ok (.invokevirtual 159, 3) := by decide +kernel
theorem dX8_findFacts_50 : decode cX8_findFacts 50 = .ok (.iastore, 1) := by decide +kernel
theorem dX8_findFacts_51 : decode cX8_findFacts 51 = .ok (.aload_n 0, 1) := by decide +kernel
theorem dX8_findFacts_52 : decode cX8_findFacts 52 = .ok (.getfield 72, 3) := by decide +kernel
theorem dX8_findFacts_55 : decode cX8_findFacts 55 = .ok (.iconst 4, 1) := by decide +kernel
theorem dX8_findFacts_56 : decode cX8_findFacts 56 = .ok (.aload_n 0, 1) := by decide +kernel
theorem dX8_findFacts_57 : decode cX8_findFacts 57 = .ok (.getfield 129, 3) := by decide +kernel
theorem dX8_findFacts_60 : decode cX8_findFacts 60 = .ok (.ifCond .ne 7, 3) := by decide +kernel
theorem dX8_findFacts_63 : decode cX8_findFacts 63 = .ok (.iconst 0, 1) := by decide +kernel
theorem dX8_findFacts_64 : decode cX8_findFacts 64 = .ok (.goto 19, 3) := by decide +kernel
theorem dX8_findFacts_67 : decode cX8_findFacts 67 = .ok (.aload_n 0, 1) := by decide +kernel
theorem dX8_findFacts_68 : decode cX8_findFacts 68 = .ok (.getfield 19, 3) := by decide +kernel
theorem dX8_findFacts_71 : decode cX8_findFacts 71 = .ok (.iload_n 2, 1) := by decide +kernel
theorem dX8_findFacts_72 : decode cX8_findFacts 72 = .ok (.iaload, 1) := by decide +kernel
theorem dX8_findFacts_73 : decode cX8_findFacts 73 = .ok (.aload_n 0, 1) := by decide +kernel
theorem dX8_findFacts_74 : decode cX8_findFacts 74 = .ok (.iload_n 1, 1) := by decide +kernel
theorem dX8_findFacts_75 : decode cX8_findFacts 75 = .ok (.iload_n 3, 1) := by decide +kernel
theorem dX8_findFacts_76 : decode cX8_findFacts 76 = .ok (.invokevirtual 155, 3) := by decide +kernel
theorem dX8_findFacts_79 : decode cX8_findFacts 79 = .ok (.imul, 1) := by decide +kernel
theorem dX8_findFacts_80 : decode cX8_findFacts 80 = .ok (.bipush 10, 2) := by decide +kernel
theorem dX8_findFacts_82 : decode cX8_findFacts 82 = .ok (.idiv, 1) := by decide +kernel
theorem dX8_findFacts_83 : decode cX8_findFacts 83 = .ok (.iastore, 1) := by decide +kernel
theorem dX8_findFacts_84 : decode cX8_findFacts 84 = .ok (.aload_n 0, 1) := by decide +kernel
theorem dX8_findFacts_85 : decode cX8_findFacts 85 = .ok (.getfield 72, 3) := by decide +kernel
theorem dX8_findFacts_88 : decode cX8_findFacts 88 = .ok (.iconst 5, 1) := by decide +kernel
theorem dX8_findFacts_89 : decode cX8_findFacts 89 = .ok (.aload_n 0, 1) := by decide +kernel
theorem dX8_findFacts_90 : decode cX8_findFacts 90 = .ok (.getfield 40, 3) := by decide +kernel
theorem dX8_findFacts_93 : decode cX8_findFacts 93 = .ok (.iload_n 3, 1) := by decide +kernel
theorem dX8_findFacts_94 : decode cX8_findFacts 94 = .ok (.iaload, 1) := by decide +kernel
theorem dX8_findFacts_95 : decode cX8_findFacts 95 = .ok (.iastore, 1) := by decide +kernel
theorem dX8_findFacts_96 : decode cX8_findFacts 96 = .ok (.return_, 1) := by decide +kernel
theorem dX8_goes_0 : decode cX8_goes 0 = .ok (.iload_n 2, 1) := by decide +kernel
theorem dX8_goes_1 : decode cX8_goes 1 = .ok (.aload_n 0, 1) := by decide +kernel
theorem dX8_goes_2 : decode cX8_goes 2 = .ok (.getfield 28, 3) := by decide +kernel
theorem dX8_goes_5 : decode cX8_goes 5 = .ok (.iload_n 1, 1) := by decide +kernel
theorem dX8_goes_6 : decode cX8_goes 6 = .ok (.iaload, 1) := by decide +kernel
theorem dX8_goes_7 : decode cX8_goes 7 = .ok (.if_icmp .lt 33, 3) := by decide +kernel
theorem dX8_goes_10 : decode cX8_goes 10 = .ok (.iload_n 2, 1) := by decide +kernel
theorem dX8_goes_11 : decode cX8_goes 11 = .ok (.aload_n 0, 1) := by decide +kernel
theorem dX8_goes_12 : decode cX8_goes 12 = .ok (.getfield 28, 3) := by decide +kernel
theorem dX8_goes_15 : decode cX8_goes 15 = .ok (.iload_n 1, 1) := by decide +kernel
theorem dX8_goes_16 : decode cX8_goes 16 = .ok (.iaload, 1) := by decide +kernel
theorem dX8_goes_17 : decode cX8_goes 17 = .ok (.isub, 1) := by decide +kernel
theorem dX8_goes_18 : decode cX8_goes 18 = .ok (.aload_n 0, 1) := by decide +kernel
theorem dX8_goes_19 : decode cX8_goes 19 = .ok (.getfield 25, 3) := by decide +kernel
theorem dX8_goes_22 : decode cX8_goes 22 = .ok (.iload_n 1, 1) := by decide +kernel
theorem dX8_goes_23 : decode cX8_goes 23 = .ok (.iaload, 1) := by decide +kernel
theorem dX8_goes_24 : decode cX8_goes 24 = .ok (.irem, 1) := by decide +kernel
theorem dX8_goes_25 : decode cX8_goes 25 = .ok (.ifCond .ne 15, 3) := by decide +kernel
theorem dX8_goes_28 : decode cX8_goes 28 = .ok (.aload_n 0, 1) := by decide +kernel
theorem dX8_goes_29 : decode cX8_goes 29 = .ok (.iload_n 2, 1) := by decide +kernel
theorem dX8_goes_30 : decode cX8_goes 30 = .ok (.invokevirtual 245, 3) := by decide +kernel
theorem dX8_goes_33 : decode cX8_goes 33 = .ok (.ifCond .ne 7, 3) := by decide +kernel
theorem dX8_goes_36 : decode cX8_goes 36 = .ok (.iconst 1, 1) := by decide +kernel
theorem dX8_goes_37 : decode cX8_goes 37 = .ok (.goto 4, 3) := by decide +kernel
theorem dX8_goes_40 : decode cX8_goes 40 = .ok (.iconst 0, 1) := by decide +kernel
theorem dX8_goes_41 : decode cX8_goes 41 = .ok (.ireturn, 1) := by decide +kernel
theorem dX8_isAhead_0 : decode cX8_isAhead 0 = .ok (.iload_n 1, 1) := by decide +kernel
theorem dX8_isAhead_1 : decode cX8_isAhead 1 = .ok (.iconst 1, 1) := by decide +kernel
theorem dX8_isAhead_2 : decode cX8_isAhead 2 = .ok (.if_icmp .ne 41, 3) := by decide +kernel
theorem dX8_isAhead_5 : decode cX8_isAhead 5 = .ok (.aload_n 0, 1) := by decide +kernel
theorem dX8_isAhead_6 : decode cX8_isAhead 6 = .ok (.getfield 13, 3) := by decide +kernel
theorem dX8_isAhead_9 : decode cX8_isAhead 9 = .ok (.iload_n 2, 1) := by decide +kernel
theorem dX8_isAhead_10 : decode cX8_isAhead 10 = .ok (.iaload, 1) := by decide +kernel
theorem dX8_isAhead_11 : decode cX8_isAhead 11 = .ok (.aload_n 0, 1) := by decide +kernel
theorem dX8_isAhead_12 : decode cX8_isAhead 12 = .ok (.getfield 13, 3) := by decide +kernel
theorem dX8_isAhead_15 : decode cX8_isAhead 15 = .ok (.iload 4, 2) := by decide +kernel
theorem dX8_isAhead_17 : decode cX8_isAhead 17 = .ok (.iaload, 1) := by decide +kernel
theorem dX8_isAhead_18 : decode cX8_isAhead 18 = .ok (.if_icmp .eq 25, 3) := by decide +kernel
theorem dX8_isAhead_21 : decode cX8_isAhead 21 = .ok (.aload_n 0, 1) := by decide +kernel
theorem dX8_isAhead_22 : decode cX8_isAhead 22 = .ok (.getfield 13, 3) := by decide +kernel
theorem dX8_isAhead_25 : decode cX8_isAhead 25 = .ok (.iload_n 2, 1) := by decide +kernel
theorem dX8_isAhead_26 : decode cX8_isAhead 26 = .ok (.iaload, 1) := by decide +kernel
theorem dX8_isAhead_27 : decode cX8_isAhead 27 = .ok (.aload_n 0, 1) := by decide +kernel
theorem dX8_isAhead_28 : decode cX8_isAhead 28 = .ok (.getfield 13, 3) := by decide +kernel
theorem dX8_isAhead_31 : decode cX8_isAhead 31 = .ok (.iload 4, 2) := by decide +kernel
theorem dX8_isAhead_33 : decode cX8_isAhead 33 = .ok (.iaload, 1) := by decide +kernel
theorem dX8_isAhead_34 : decode cX8_isAhead 34 = .ok (.if_icmp .le 7, 3) := by decide +kernel
theorem dX8_isAhead_37 : decode cX8_isAhead 37 = .ok (.iconst 1, 1) := by decide +kernel
theorem dX8_isAhead_38 : decode cX8_isAhead 38 = .ok (.goto 4, 3) := by decide +kernel
theorem dX8_isAhead_41 : decode cX8_isAhead 41 = .ok (.iconst 0, 1) := by decide +kernel
theorem dX8_isAhead_42 : decode cX8_isAhead 42 = .ok (.ireturn, 1) := by decide +kernel
theorem dX8_isAhead_43 : decode cX8_isAhead 43 = .ok (.iload_n 1, 1) := by decide +kernel
theorem dX8_isAhead_44 : decode cX8_isAhead 44 = .ok (.iconst 2, 1) := by decide +kernel
theorem dX8_isAhead_45 : decode cX8_isAhead 45 = .ok (.if_icmp .ne 21, 3) := by decide +kernel
theorem dX8_isAhead_48 : decode cX8_isAhead 48 = .ok (.iload_n 2, 1) := by decide +kernel
theorem dX8_isAhead_49 : decode cX8_isAhead 49 = .ok (.iload 4, 2) := by decide +kernel
theorem dX8_isAhead_51 : decode cX8_isAhead 51 = .ok (.if_icmp .eq 15, 3) := by decide +kernel
theorem dX8_isAhead_54 : decode cX8_isAhead 54 = .ok (.iload_n 2, 1) := by decide +kernel
theorem dX8_isAhead_55 : decode cX8_isAhead 55 = .ok (.iload 4, 2) := by decide +kernel
theorem dX8_isAhead_57 : decode cX8_isAhead 57 = .ok (.if_icmp .ge 7, 3) := by decide +kernel
theorem dX8_isAhead_60 : decode cX8_isAhead 60 = .ok (.iconst 1, 1) := by decide +kernel
theorem dX8_isAhead_61 : decode cX8_isAhead 61 = .ok (.goto 4, 3) := by decide +kernel
theorem dX8_isAhead_64 : decode cX8_isAhead 64 = .ok (.iconst 0, 1) := by decide +kernel
theorem dX8_isAhead_65 : decode cX8_isAhead 65 = .ok (.ireturn, 1) := by decide +kernel
theorem dX8_isAhead_66 : decode cX8_isAhead 66 = .ok (.iload_n 3, 1) := by decide +kernel
theorem dX8_isAhead_67 : decode cX8_isAhead 67 = .ok (.iload 5, 2) := by decide +kernel
theorem dX8_isAhead_69 : decode cX8_isAhead 69 = .ok (.if_icmp .eq 17, 3) := by decide +kernel
theorem dX8_isAhead_72 : decode cX8_isAhead 72 = .ok (.iload_n 3, 1) := by decide +kernel
theorem dX8_isAhead_73 : decode cX8_isAhead 73 = .ok (.iload 5, 2) := by decide +kernel
theorem dX8_isAhead_75 : decode cX8_isAhead 75 = .ok (.if_icmp .ge 7, 3) := by decide +kernel
theorem dX8_isAhead_78 : decode cX8_isAhead 78 = .ok (.iconst 1, 1) := by decide +kernel
theorem dX8_isAhead_79 : decode cX8_isAhead 79 = .ok (.goto 18, 3) := by decide +kernel
theorem dX8_isAhead_82 : decode cX8_isAhead 82 = .ok (.iconst 0, 1) := by decide +kernel
theorem dX8_isAhead_83 : decode cX8_isAhead 83 = .ok (.goto 14, 3) := by decide +kernel
theorem dX8_isAhead_86 : decode cX8_isAhead 86 = .ok (.iload_n 2, 1) := by decide +kernel
theorem dX8_isAhead_87 : decode cX8_isAhead 87 = .ok (.iload 4, 2) := by decide +kernel
theorem dX8_isAhead_89 : decode cX8_isAhead 89 = .ok (.if_icmp .ge 7, 3) := by decide +kernel
theorem dX8_isAhead_92 : decode cX8_isAhead 92 = .ok (.iconst 1, 1) := by decide +kernel
theorem dX8_isAhead_93 : decode cX8_isAhead 93 = .ok (.goto 4, 3) := by decide +kernel
theorem dX8_isAhead_96 : decode cX8_isAhead 96 = .ok (.iconst 0, 1) := by decide +kernel
theorem dX8_isAhead_97 : decode cX8_isAhead 97 = .ok (.ireturn, 1) := by decide +kernel
theorem dX8_load_0 : decode cX8_load 0 = .ok (.iload_n 2, 1) := by decide +kernel
theorem dX8_load_1 : decode cX8_load 1 = .ok (.istore 5, 2) := by decide +kernel
theorem dX8_load_3 : decode cX8_load 3 = .ok (.iload 5, 2) := by decide +kernel
theorem dX8_load_5 : decode cX8_load 5 = .ok (.ifCond .le 154, 3) := by decide +kernel
theorem dX8_load_8 : decode cX8_load 8 = .ok (.iconst (-1), 1) := by decide +kernel
theorem dX8_load_9 : decode cX8_load 9 = .ok (.istore 6, 2) := by decide +kernel
theorem dX8_load_11 : decode cX8_load 11 = .ok (.iconst 0, 1) := by decide +kernel
theorem dX8_load_12 : decode cX8_load 12 = .ok (.istore 7, 2) := by decide +kernel
theorem dX8_load_14 : decode cX8_load 14 = .ok (.iload 7, 2) := by decide +kernel
theorem dX8_load_16 : decode cX8_load 16 = .ok (.bipush 120, 2) := by decide +kernel
theorem dX8_load_18 : decode cX8_load 18 = .ok (.aload_n 0, 1) := by decide +kernel
theorem dX8_load_19 : decode cX8_load 19 = .ok (.getfield 129, 3) := by decide +kernel
theorem dX8_load_22 : decode cX8_load 22 = .ok (.imul, 1) := by decide +kernel
theorem dX8_load_23 : decode cX8_load 23 = .ok (.if_icmp .ge 56, 3) := by decide +kernel
theorem dX8_load_26 : decode cX8_load 26 = .ok (.aload_n 0, 1) := by decide +kernel
theorem dX8_load_27 : decode cX8_load 27 = .ok (.getfield 87, 3) := by decide +kernel
theorem dX8_load_30 : decode cX8_load 30 = .ok (.iload 7, 2) := by decide +kernel
theorem dX8_load_32 : decode cX8_load 32 = .ok (.iaload, 1) := by decide +kernel
theorem dX8_load_33 : decode cX8_load 33 = .ok (.ifCond .le 40, 3) := by decide +kernel
theorem dX8_load_36 : decode cX8_load 36 = .ok (.iload 6, 2) := by decide +kernel
theorem dX8_load_38 : decode cX8_load 38 = .ok (.ifCond .lt 31, 3) := by decide +kernel
theorem dX8_load_41 : decode cX8_load 41 = .ok (.aload_n 0, 1) := by decide +kernel
theorem dX8_load_42 : decode cX8_load 42 = .ok (.iload_n 3, 1) := by decide +kernel
theorem dX8_load_43 : decode cX8_load 43 = .ok (.iload 7, 2) := by decide +kernel
theorem dX8_load_45 : decode cX8_load 45 = .ok (.bipush 120, 2) := by decide +kernel
theorem dX8_load_47 : decode cX8_load 47 = .ok (.idiv, 1) := by decide +kernel
theorem dX8_load_48 : decode cX8_load 48 = .ok (.iload 7, 2) := by decide +kernel
theorem dX8_load_50 : decode cX8_load 50 = .ok (.bipush 120, 2) := by decide +kernel
theorem dX8_load_52 : decode cX8_load 52 = .ok (.irem, 1) := by decide +kernel
theorem dX8_load_53 : decode cX8_load 53 = .ok (.iload 6, 2) := by decide +kernel
theorem dX8_load_55 : decode cX8_load 55 = .ok (.bipush 120, 2) := by decide +kernel
theorem dX8_load_57 : decode cX8_load 57 = .ok (.idiv, 1) := by decide +kernel
theorem dX8_load_58 : decode cX8_load 58 = .ok (.iload 6, 2) := by decide +kernel
theorem dX8_load_60 : decode cX8_load 60 = .ok (.bipush 120, 2) := by decide +kernel
theorem dX8_load_62 : decode cX8_load 62 = .ok (.irem, 1) := by decide +kernel
theorem dX8_load_63 : decode cX8_load 63 = .ok (.invokevirtual 248, 3) := by decide +kernel
theorem dX8_load_66 : decode cX8_load 66 = .ok (.ifCond .eq 7, 3) := by decide +kernel
theorem dX8_load_69 : decode cX8_load 69 = .ok (.iload 7, 2) := by decide +kernel
theorem dX8_load_71 : decode cX8_load 71 = .ok (.istore 6, 2) := by decide +kernel
theorem dX8_load_73 : decode cX8_load 73 = .ok (.iinc 7 1, 3) := by decide +kernel
theorem dX8_load_76 : decode cX8_load 76 = .ok (.goto (-62), 3) := by decide +kernel
theorem dX8_load_79 : decode cX8_load 79 = .ok (.iload 6, 2) := by decide +kernel
theorem dX8_load_81 : decode cX8_load 81 = .ok (.ifCond .ge 4, 3) := by decide +kernel
theorem dX8_load_84 : decode cX8_load 84 = .ok (.return_, 1) := by decide +kernel
theorem dX8_load_85 : decode cX8_load 85 = .ok (.aload_n 0, 1) := by decide +kernel
theorem dX8_load_86 : decode cX8_load 86 = .ok (.getfield 87, 3) := by decide +kernel
theorem dX8_load_89 : decode cX8_load 89 = .ok (.iload 6, 2) := by decide +kernel
theorem dX8_load_91 : decode cX8_load 91 = .ok (.iaload, 1) := by decide +kernel
theorem dX8_load_92 : decode cX8_load 92 = .ok (.iload 5, 2) := by decide +kernel
theorem dX8_load_94 : decode cX8_load 94 = .ok (.if_icmp .ge 13, 3) := by decide +kernel
theorem dX8_load_97 : decode cX8_load 97 = .ok (.aload_n 0, 1) := by decide +kernel
theorem dX8_load_98 : decode cX8_load 98 = .ok (.getfield 87, 3) := by decide +kernel
theorem dX8_load_101 : decode cX8_load 101 = .ok (.iload 6, 2) := by decide +kernel
theorem dX8_load_103 : decode cX8_load 103 = .ok (.iaload, 1) := by decide +kernel
theorem dX8_load_104 : decode cX8_load 104 = .ok (.goto 5, 3) := by decide +kernel
theorem dX8_load_107 : decode cX8_load 107 = .ok (.iload 5, 2) := by decide +kernel
theorem dX8_load_109 : decode cX8_load 109 = .ok (.istore 7, 2) := by decide +kernel
theorem dX8_load_111 : decode cX8_load 111 = .ok (.aload_n 0, 1) := by decide +kernel
theorem dX8_load_112 : decode cX8_load 112 = .ok (.getfield 87, 3) := by decide +kernel
theorem dX8_load_115 : decode cX8_load 115 = .ok (.iload 6, 2) := by decide +kernel
theorem dX8_load_117 : decode cX8_load 117 = .ok (.dup2, 1) := by decide +kernel
theorem dX8_load_118 : decode cX8_load 118 = .ok (.iaload, 1) := by decide +kernel
theorem dX8_load_119 : decode cX8_load 119 = .ok (.iload 7, 2) := by decide +kernel
theorem dX8_load_121 : decode cX8_load 121 = .ok (.isub, 1) := by decide +kernel
theorem dX8_load_122 : decode cX8_load 122 = .ok (.iastore, 1) := by decide +kernel
theorem dX8_load_123 : decode cX8_load 123 = .ok (.aload_n 0, 1) := by decide +kernel
theorem dX8_load_124 : decode cX8_load 124 = .ok (.getfield 96, 3) := by decide +kernel
theorem dX8_load_127 : decode cX8_load 127 = .ok (.iload 6, 2) := by decide +kernel
theorem dX8_load_129 : decode cX8_load 129 = .ok (.bipush 120, 2) := by decide +kernel
theorem dX8_load_131 : decode cX8_load 131 = .ok (.idiv, 1) := by decide +kernel
theorem dX8_load_132 : decode cX8_load 132 = .ok (.dup2, 1) := by decide +kernel
theorem dX8_load_133 : decode cX8_load 133 = .ok (.iaload, 1) := by decide +kernel
theorem dX8_load_134 : decode cX8_load 134 = .ok (.iload 7, 2) := by decide +kernel
theorem dX8_load_136 : decode cX8_load 136 = .ok (.iadd, 1) := by decide +kernel
theorem dX8_load_137 : decode cX8_load 137 = .ok (.iastore, 1) := by decide +kernel
theorem dX8_load_138 : decode cX8_load 138 = .ok (.aload_n 0, 1) := by decide +kernel
theorem dX8_load_139 : decode cX8_load 139 = .ok (.getfield 90, 3) := by decide +kernel
theorem dX8_load_142 : decode cX8_load 142 = .ok (.iload_n 1, 1) := by decide +kernel
theorem dX8_load_143 : decode cX8_load 143 = .ok (.dup2, 1) := by decide +kernel
theorem dX8_load_144 : decode cX8_load 144 = .ok (.iaload, 1) := by decide +kernel
theorem dX8_load_145 : decode cX8_load 145 = .ok (.iload 7, 2) := by decide +kernel
theorem dX8_load_147 : decode cX8_load 147 = .ok (.iadd, 1) := by decide +kernel
theorem dX8_load_148 : decode cX8_load 148 = .ok (.iastore, 1) := by decide +kernel
theorem dX8_load_149 : decode cX8_load 149 = .ok (.iload 5, 2) := by decide +kernel
theorem dX8_load_151 : decode cX8_load 151 = .ok (.iload 7, 2) := by decide +kernel
theorem dX8_load_153 : decode cX8_load 153 = .ok (.isub, 1) := by decide +kernel
theorem dX8_load_154 : decode cX8_load 154 = .ok (.istore 5, 2) := by decide +kernel
theorem dX8_load_156 : decode cX8_load 156 = .ok (.goto (-153), 3) := by decide +kernel
theorem dX8_load_159 : decode cX8_load 159 = .ok (.return_, 1) := by decide +kernel
theorem dX8_goMinute_0 : decode cX8_goMinute 0 = .ok (.aload_n 0, 1) := by decide +kernel
theorem dX8_goMinute_1 : decode cX8_goMinute 1 = .ok (.invokevirtual 252, 3) := by decide +kernel
theorem dX8_goMinute_4 : decode cX8_goMinute 4 = .ok (.istore_n 3, 1) := by decide +kernel
theorem dX8_goMinute_5 : decode cX8_goMinute 5 = .ok (.iconst 0, 1) := by decide +kernel
theorem dX8_goMinute_6 : decode cX8_goMinute 6 = .ok (.istore 4, 2) := by decide +kernel
theorem dX8_goMinute_8 : decode cX8_goMinute 8 = .ok (.iload 4, 2) := by decide +kernel
theorem dX8_goMinute_10 : decode cX8_goMinute 10 = .ok (.aload_n 0, 1) := by decide +kernel
theorem dX8_goMinute_11 : decode cX8_goMinute 11 = .ok (.getfield 129, 3) := by decide +kernel
theorem dX8_goMinute_14 : decode cX8_goMinute 14 = .ok (.if_icmp .ge 104, 3) := by decide +kernel
theorem dX8_goMinute_17 : decode cX8_goMinute 17 = .ok (.aload_n 0, 1) := by decide +kernel
theorem dX8_goMinute_18 : decode cX8_goMinute 18 = .ok (.iload_n 1, 1) := by decide +kernel
theorem dX8_goMinute_19 : decode cX8_goMinute 19 = .ok (.iload 4, 2) := by decide +kernel
theorem dX8_goMinute_21 : decode cX8_goMinute 21 = .ok (.iload_n 2, 1) := by decide +kernel
theorem dX8_goMinute_22 : decode cX8_goMinute 22 = .ok (.iload_n 3, 1) := by decide +kernel
theorem dX8_goMinute_23 : decode cX8_goMinute 23 = .ok (.aload_n 0, 1) := by decide +kernel
theorem dX8_goMinute_24 : decode cX8_goMinute 24 = .ok (.getfield 43, 3) := by decide +kernel
theorem dX8_goMinute_27 : decode cX8_goMinute 27 = .ok (.iload_n 2, 1) := by decide +kernel
theorem dX8_goMinute_28 : decode cX8_goMinute 28 = .ok (.isub, 1) := by decide +kernel
theorem dX8_goMinute_29 : decode cX8_goMinute 29 = .ok (.invokevirtual 255, 3) := by decide +kernel
theorem dX8_goMinute_32 : decode cX8_goMinute 32 = .ok (.aload_n 0, 1) := by decide +kernel
theorem dX8_goMinute_33 : decode cX8_goMinute 33 = .ok (.getfield 81, 3) := by decide +kernel
theorem dX8_goMinute_36 : decode cX8_goMinute 36 = .ok (.iload 4, 2) := by decide +kernel
theorem dX8_goMinute_38 : decode cX8_goMinute 38 = .ok (.iaload, 1) := by decide +kernel
theorem dX8_goMinute_39 : decode cX8_goMinute 39 = .ok (.aload_n 0, 1) := by decide +kernel
theorem dX8_goMinute_40 : decode cX8_goMinute 40 = .ok (.getfield 16, 3) := by decide +kernel
theorem dX8_goMinute_43 : decode cX8_goMinute 43 = .ok (.iload 4, 2) := by decide +kernel
theorem dX8_goMinute_45 : decode cX8_goMinute 45 = .ok (.iaload, 1) := by decide +kernel
theorem dX8_goMinute_46 : decode cX8_goMinute 46 = .ok (.idiv, 1) := by decide +kernel
theorem dX8_goMinute_47 : decode cX8_goMinute 47 = .ok (.aload_n 0, 1) := by decide +kernel
theorem dX8_goMinute_48 : decode cX8_goMinute 48 = .ok (.iconst 0, 1) := by decide +kernel
theorem dX8_goMinute_49 : decode cX8_goMinute 49 = .ok (.invokevirtual 259, 3) := by decide +kernel
theorem dX8_goMinute_52 : decode cX8_goMinute 52 = .ok (.bipush (-99), 2) := by decide +kernel
theorem dX8_goMinute_54 : decode cX8_goMinute 54 = .ok (.sipush 400, 3) := by decide +kernel
theorem dX8_goMinute_57 : decode cX8_goMinute 57 = .ok (.invokestatic 263, 3) := by decide +kernel
theorem dX8_goMinute_60 : decode cX8_goMinute 60 = .ok (.iadd, 1) := by decide +kernel
theorem dX8_goMinute_61 : decode cX8_goMinute 61 = .ok (.iconst 0, 1) := by decide +kernel
theorem dX8_goMinute_62 : decode cX8_goMinute 62 = .ok (.aload_n 0, 1) := by decide +kernel
theorem dX8_goMinute_63 : decode cX8_goMinute 63 = .ok (.getfield 81, 3) := by decide +kernel
theorem dX8_goMinute_66 : decode cX8_goMinute 66 = .ok (.iload 4, 2) := by decide +kernel
theorem dX8_goMinute_68 : decode cX8_goMinute 68 = .ok (.iaload, 1) := by decide +kernel
theorem dX8_goMinute_69 : decode cX8_goMinute 69 = .ok (.invokestatic 263, 3) := by decide +kernel
theorem dX8_goMinute_72 : decode cX8_goMinute 72 = .ok (.istore 5, 2) := by decide +kernel
theorem dX8_goMinute_74 : decode cX8_goMinute 74 = .ok (.aload_n 0, 1) := by decide +kernel
theorem dX8_goMinute_75 : decode cX8_goMinute 75 = .ok (.getfield 81, 3) := by decide +kernel
theorem dX8_goMinute_78 : decode cX8_goMinute 78 = .ok (.iload 4, 2) := by decide +kernel
theorem dX8_goMinute_80 : decode cX8_goMinute 80 = .ok (.dup2, 1) := by decide +kernel
theorem dX8_goMinute_81 : decode cX8_goMinute 81 = .ok (.iaload, 1) := by decide +kernel
theorem dX8_goMinute_82 : decode cX8_goMinute 82 = .ok (.iload 5, 2) := by decide +kernel
theorem dX8_goMinute_84 : decode cX8_goMinute 84 = .ok (.isub, 1) := by decide +kernel
theorem dX8_goMinute_85 : decode cX8_goMinute 85 = .ok (.iastore, 1) := by decide +kernel
theorem dX8_goMinute_86 : decode cX8_goMinute 86 = .ok (.aload_n 0, 1) := by decide +kernel
theorem dX8_goMinute_87 : decode cX8_goMinute 87 = .ok (.getfield 84, 3) := by decide +kernel
theorem dX8_goMinute_90 : decode cX8_goMinute 90 = .ok (.sipush 160, 3) := by decide +kernel
theorem dX8_goMinute_93 : decode cX8_goMinute 93 = .ok (.iload 4, 2) := by decide +kernel
theorem dX8_goMinute_95 : decode cX8_goMinute 95 = .ok (.imul, 1) := by decide +kernel
theorem dX8_goMinute_96 : decode cX8_goMinute 96 = .ok (.iload_n 2, 1) := by decide +kernel
theorem dX8_goMinute_97 : decode cX8_goMinute 97 = .ok (.iadd, 1) := by decide +kernel
theorem dX8_goMinute_98 : decode cX8_goMinute 98 = .ok (.aload_n 0, 1) := by decide +kernel
theorem dX8_goMinute_99 : decode cX8_goMinute 99 = .ok (.getfield 13, 3) := by decide +kernel
theorem dX8_goMinute_102 : decode cX8_goMinute 102 = .ok (.iload 4, 2) := by decide +kernel
theorem dX8_goMinute_104 : decode cX8_goMinute 104 = .ok (.iaload, 1) := by decide +kernel
theorem dX8_goMinute_105 : decode cX8_goMinute 105 = .ok (.iadd, 1) := by decide +kernel
theorem dX8_goMinute_106 : decode cX8_goMinute 106 = .ok (.dup2, 1) := by decide +kernel
theorem dX8_goMinute_107 : decode cX8_goMinute 107 = .ok (.iaload, 1) := by decide +kernel
theorem dX8_goMinute_108 : decode cX8_goMinute 108 = .ok (.iload 5, 2) := by decide +kernel
theorem dX8_goMinute_110 : decode cX8_goMinute 110 = .ok (.iadd, 1) := by decide +kernel
theorem dX8_goMinute_111 : decode cX8_goMinute 111 = .ok (.iastore, 1) := by decide +kernel
theorem dX8_goMinute_112 : decode cX8_goMinute 112 = .ok (.iinc 4 1, 3) := by decide +kernel
theorem dX8_goMinute_115 : decode cX8_goMinute 115 = .ok (.goto (-107), 3) := by decide +kernel
theorem dX8_goMinute_118 : decode cX8_goMinute 118 = .ok (.iconst 0, 1) := by decide +kernel
theorem dX8_goMinute_119 : decode cX8_goMinute 119 = .ok (.istore 4, 2) := by decide +kernel
theorem dX8_goMinute_121 : decode cX8_goMinute 121 = .ok (.iload 4, 2) := by decide +kernel
theorem dX8_goMinute_123 : decode cX8_goMinute 123 = .ok (.aload_n 0, 1) := by decide +kernel
theorem dX8_goMinute_124 : decode cX8_goMinute 124 = .ok (.getfield 129, 3) := by decide +kernel
theorem dX8_goMinute_127 : decode cX8_goMinute 127 = .ok (.if_icmp .ge 51, 3) := by decide +kernel
theorem dX8_goMinute_130 : decode cX8_goMinute 130 = .ok (.aload_n 0, 1) := by decide +kernel
theorem dX8_goMinute_131 : decode cX8_goMinute 131 = .ok (.getfield 87, 3) := by decide +kernel
theorem dX8_goMinute_134 : decode cX8_goMinute 134 = .ok (.bipush 120, 2) := by decide +kernel
theorem dX8_goMinute_136 : decode cX8_goMinute 136 = .ok (.iload 4, 2) := by decide +kernel
theorem dX8_goMinute_138 : decode cX8_goMinute 138 = .ok (.imul, 1) := by decide +kernel
theorem dX8_goMinute_139 : decode cX8_goMinute 139 = .ok (.iload_n 2, 1) := by decide +kernel
theorem dX8_goMinute_140 : decode cX8_goMinute 140 = .ok (.iadd, 1) := by decide +kernel
theorem dX8_goMinute_141 : decode cX8_goMinute 141 = .ok (.dup2, 1) := by decide +kernel
theorem dX8_goMinute_142 : decode cX8_goMinute 142 = .ok (.iaload, 1) := by decide +kernel
theorem dX8_goMinute_143 : decode cX8_goMinute 143 = .ok (.aload_n 0, 1) := by decide +kernel
theorem dX8_goMinute_144 : decode cX8_goMinute 144 = .ok (.getfield 84, 3) := by decide +kernel
theorem dX8_goMinute_147 : decode cX8_goMinute 147 = .ok (.sipush 160, 3) := by decide +kernel
theorem dX8_goMinute_150 : decode cX8_goMinute 150 = .ok (.iload 4, 2) := by decide +kernel
theorem dX8_goMinute_152 : decode cX8_goMinute 152 = .ok (.imul, 1) := by decide +kernel
theorem dX8_goMinute_153 : decode cX8_goMinute 153 = .ok (.iload_n 2, 1) := by decide +kernel
theorem dX8_goMinute_154 : decode cX8_goMinute 154 = .ok (.iadd, 1) := by decide +kernel
theorem dX8_goMinute_155 : decode cX8_goMinute 155 = .ok (.iaload, 1) := by decide +kernel
theorem dX8_goMinute_156 : decode cX8_goMinute 156 = .ok (.iadd, 1) := by decide +kernel
theorem dX8_goMinute_157 : decode cX8_goMinute 157 = .ok (.iastore, 1) := by decide +kernel
theorem dX8_goMinute_158 : decode cX8_goMinute 158 = .ok (.aload_n 0, 1) := by decide +kernel
theorem dX8_goMinute_159 : decode cX8_goMinute 159 = .ok (.getfield 84, 3) := by decide +kernel
theorem dX8_goMinute_162 : decode cX8_goMinute 162 = .ok (.sipush 160, 3) := by decide +kernel
theorem dX8_goMinute_165 : decode cX8_goMinute 165 = .ok (.iload 4, 2) := by decide +kernel
theorem dX8_goMinute_167 : decode cX8_goMinute 167 = .ok (.imul, 1) := by decide +kernel
theorem dX8_goMinute_168 : decode cX8_goMinute 168 = .ok (.iload_n 2, 1) := by decide +kernel
theorem dX8_goMinute_169 : decode cX8_goMinute 169 = .ok (.iadd, 1) := by decide +kernel
theorem dX8_goMinute_170 : decode cX8_goMinute 170 = .ok (.iconst 0, 1) := by decide +kernel
theorem dX8_goMinute_171 : decode cX8_goMinute 171 = .ok (.iastore, 1) := by decide +kernel
theorem dX8_goMinute_172 : decode cX8_goMinute 172 = .ok (.iinc 4 1, 3) := by decide +kernel
theorem dX8_goMinute_175 : decode cX8_goMinute 175 = .ok (.goto (-54), 3) := by decide +kernel
theorem dX8_goMinute_178 : decode cX8_goMinute 178 = .ok (.iconst 0, 1) := by decide +kernel
theorem dX8_goMinute_179 : decode cX8_goMinute 179 = .ok (.istore 4, 2) := by decide +kernel
theorem dX8_goMinute_181 : decode cX8_goMinute 181 = .ok (.iload 4, 2) := by decide +kernel
theorem dX8_goMinute_183 : decode cX8_goMinute 183 = .ok (.aload_n 0, 1) := by decide +kernel
theorem dX8_goMinute_184 : decode cX8_goMinute 184 = .ok (.getfield 266, 3) := by decide +kernel
theorem dX8_goMinute_187 : decode cX8_goMinute 187 = .ok (.if_icmp .ge 79, 3) := by decide +kernel
theorem dX8_goMinute_190 : decode cX8_goMinute 190 = .ok (.aload_n 0, 1) := by decide +kernel
theorem dX8_goMinute_191 : decode cX8_goMinute 191 = .ok (.iload 4, 2) := by decide +kernel
theorem dX8_goMinute_193 : decode cX8_goMinute 193 = .ok (.iload_n 2, 1) := by decide +kernel
theorem dX8_goMinute_194 : decode cX8_goMinute 194 = .ok (.invokevirtual 269, 3) := by decide +kernel
theorem dX8_goMinute_197 : decode cX8_goMinute 197 = .ok (.ifCond .ne 6, 3) := by decide +kernel
theorem dX8_goMinute_200 : decode cX8_goMinute 200 = .ok (.goto 60, 3) := by decide +kernel
theorem dX8_goMinute_203 : decode cX8_goMinute 203 = .ok (.aload_n 0, 1) := by decide +kernel
theorem dX8_goMinute_204 : decode cX8_goMinute 204 = .ok (.iload_n 1, 1) := by decide +kernel
theorem dX8_goMinute_205 : decode cX8_goMinute 205 = .ok (.iconst 0, 1) := by decide +kernel
theorem dX8_goMinute_206 : decode cX8_goMinute 206 = .ok (.iload_n 2, 1) := by decide +kernel
theorem dX8_goMinute_207 : decode cX8_goMinute 207 = .ok (.aload_n 0, 1) := by decide +kernel
theorem dX8_goMinute_208 : decode cX8_goMinute 208 = .ok (.invokevirtual 252, 3) := by decide +kernel
theorem dX8_goMinute_211 : decode cX8_goMinute 211 = .ok (.aload_n 0, 1) := by decide +kernel
theorem dX8_goMinute_212 : decode cX8_goMinute 212 = .ok (.getfield 43, 3) := by decide +kernel
theorem dX8_goMinute_215 : decode cX8_goMinute 215 = .ok (.iload_n 2, 1) := by decide +kernel
theorem dX8_goMinute_216 : decode cX8_goMinute 216 = .ok (.isub, 1) := by decide +kernel
theorem dX8_goMinute_217 : decode cX8_goMinute 217 = .ok (.invokevirtual 255, 3) := by decide +kernel
theorem dX8_goMinute_220 : decode cX8_goMinute 220 = .ok (.aload_n 0, 1) := by decide +kernel
theorem dX8_goMinute_221 : decode cX8_goMinute 221 = .ok (.getfield 22, 3) := by decide +kernel
theorem dX8_goMinute_224 : decode cX8_goMinute 224 = .ok (.iload 4, 2) := by decide +kernel
theorem dX8_goMinute_226 : decode cX8_goMinute 226 = .ok (.iaload, 1) := by decide +kernel
theorem dX8_goMinute_227 : decode cX8_goMinute 227 = .ok (.aload_n 0, 1) := by decide +kernel
theorem dX8_goMinute_228 : decode cX8_goMinute 228 = .ok (.iconst 1, 1) := by decide +kernel
theorem dX8_goMinute_229 : decode cX8_goMinute 229 = .ok (.invokevirtual 259, 3) := by decide +kernel
theorem dX8_goMinute_232 : decode cX8_goMinute 232 = .ok (.iconst 0, 1) := by decide +kernel
theorem dX8_goMinute_233 : decode cX8_goMinute 233 = .ok (.bipush 60, 2) := by decide +kernel
theorem dX8_goMinute_235 : decode cX8_goMinute 235 = .ok (.invokestatic 263, 3) := by decide +kernel
theorem dX8_goMinute_238 : decode cX8_goMinute 238 = .ok (.isub, 1) := by decide +kernel
theorem dX8_goMinute_239 : decode cX8_goMinute 239 = .ok (.istore 5, 2) := by decide +kernel
theorem dX8_goMinute_241 : decode cX8_goMinute 241 = .ok (.iload 5, 2) := by decide +kernel
theorem dX8_goMinute_243 : decode cX8_goMinute 243 = .ok (.ifCond .le 17, 3) := by decide +kernel
theorem dX8_goMinute_246 : decode cX8_goMinute 246 = .ok (.aload_n 0, 1) := by decide +kernel
theorem dX8_goMinute_247 : decode cX8_goMinute 247 = .ok (.iload 4, 2) := by decide +kernel
theorem dX8_goMinute_249 : decode cX8_goMinute 249 = .ok (.iload 5, 2) := by decide +kernel
theorem dX8_goMinute_251 : decode cX8_goMinute 251 = .ok (.aload_n 0, 1) := by decide +kernel
theorem dX8_goMinute_252 : decode cX8_goMinute 252 = .ok (.iload_n 1, 1) := by decide +kernel
theorem dX8_goMinute_253 : decode cX8_goMinute 253 = .ok (.invokevirtual 273, 3) := by decide +kernel
theorem dX8_goMinute_256 : decode cX8_goMinute 256 = .ok (.iload_n 2, 1) := by decide +kernel
theorem dX8_goMinute_257 : decode cX8_goMinute 257 = .ok (.invokevirtual 276, 3) := by decide +kernel
theorem dX8_goMinute_260 : decode cX8_goMinute 260 = .ok (.iinc 4 1, 3) := by decide +kernel
theorem dX8_goMinute_263 : decode cX8_goMinute 263 = .ok (.goto (-82), 3) := by decide +kernel
theorem dX8_goMinute_266 : decode cX8_goMinute 266 = .ok (.aload_n 0, 1) := by decide +kernel
theorem dX8_goMinute_267 : decode cX8_goMinute 267 = .ok (.invokevirtual 252, 3) := by decide +kernel
theorem dX8_goMinute_270 : decode cX8_goMinute 270 = .ok (.istore 4, 2) := by decide +kernel
theorem dX8_goMinute_272 : decode cX8_goMinute 272 = .ok (.iload 4, 2) := by decide +kernel
theorem dX8_goMinute_274 : decode cX8_goMinute 274 = .ok (.aload_n 0, 1) := by decide +kernel
theorem dX8_goMinute_275 : decode cX8_goMinute 275 = .ok (.getfield 280, 3) := by decide +kernel
theorem dX8_goMinute_278 : decode cX8_goMinute 278 = .ok (.if_icmp .le 14, 3) := by decide +kernel
theorem dX8_goMinute_281 : decode cX8_goMinute 281 = .ok (.aload_n 0, 1) := by decide +kernel
theorem dX8_goMinute_282 : decode cX8_goMinute 282 = .ok (.iload 4, 2) := by decide +kernel
theorem dX8_goMinute_284 : decode cX8_goMinute 284 = .ok (.putfield 280, 3) := by decide +kernel
theorem dX8_goMinute_287 : decode cX8_goMinute 287 = .ok (.aload_n 0, 1) := by decide +kernel
theorem dX8_goMinute_288 : decode cX8_goMinute 288 = .ok (.iload_n 2, 1) := by decide +kernel
theorem dX8_goMinute_289 : decode cX8_goMinute 289 = .ok (.putfield 283, 3) := by decide +kernel
theorem dX8_goMinute_292 : decode cX8_goMinute 292 = .ok (.iconst 0, 1) := by decide +kernel
theorem dX8_goMinute_293 : decode cX8_goMinute 293 = .ok (.istore 5, 2) := by decide +kernel
theorem dX8_goMinute_295 : decode cX8_goMinute 295 = .ok (.iload 5, 2) := by decide +kernel
theorem dX8_goMinute_297 : decode cX8_goMinute 297 = .ok (.aload_n 0, 1) := by decide +kernel
theorem dX8_goMinute_298 : decode cX8_goMinute 298 = .ok (.getfield 129, 3) := by decide +kernel
theorem dX8_goMinute_301 : decode cX8_goMinute 301 = .ok (.if_icmp .ge 28, 3) := by decide +kernel
theorem dX8_goMinute_304 : decode cX8_goMinute 304 = .ok (.aload_n 0, 1) := by decide +kernel
theorem dX8_goMinute_305 : decode cX8_goMinute 305 = .ok (.getfield 93, 3) := by decide +kernel
theorem dX8_goMinute_308 : decode cX8_goMinute 308 = .ok (.bipush 120, 2) := by decide +kernel
theorem dX8_goMinute_310 : decode cX8_goMinute 310 = .ok (.iload 5, 2) := by decide +kernel
theorem dX8_goMinute_312 : decode cX8_goMinute 312 = .ok (.imul, 1) := by decide +kernel
theorem dX8_goMinute_313 : decode cX8_goMinute 313 = .ok (.iload_n 2, 1) := by decide +kernel
theorem dX8_goMinute_314 : decode cX8_goMinute 314 = .ok (.iadd, 1) := by decide +kernel
theorem dX8_goMinute_315 : decode cX8_goMinute 315 = .ok (.aload_n 0, 1) := by decide +kernel
theorem dX8_goMinute_316 : decode cX8_goMinute 316 = .ok (.getfield 96, 3) := by decide +kernel
theorem dX8_goMinute_319 : decode cX8_goMinute 319 = .ok (.iload 5, 2) := by decide +kernel
theorem dX8_goMinute_321 : decode cX8_goMinute 321 = .ok (.iaload, 1) := by decide +kernel
theorem dX8_goMinute_322 : decode cX8_goMinute 322 = .ok (.iastore, 1) := by decide +kernel
theorem dX8_goMinute_323 : decode cX8_goMinute 323 = .ok (.iinc 5 1, 3) := by decide +kernel
theorem dX8_goMinute_326 : decode cX8_goMinute 326 = .ok (.goto (-31), 3) := by decide +kernel
theorem dX8_goMinute_329 : decode cX8_goMinute 329 = .ok (.return_, 1) := by decide +kernel
theorem dX8_day_0 : decode cX8_day 0 = .ok (.aload_n 0, 1) := by decide +kernel
theorem dX8_day_1 : decode cX8_day 1 = .ok (.iload_n 2, 1) := by decide +kernel
theorem dX8_day_2 : decode cX8_day 2 = .ok (.putfield 266, 3) := by decide +kernel
theorem dX8_day_5 : decode cX8_day 5 = .ok (.aload_n 0, 1) := by decide +kernel
theorem dX8_day_6 : decode cX8_day 6 = .ok (.iconst 0, 1) := by decide +kernel
theorem dX8_day_7 : decode cX8_day 7 = .ok (.putfield 280, 3) := by decide +kernel
theorem dX8_day_10 : decode cX8_day 10 = .ok (.aload_n 0, 1) := by decide +kernel
theorem dX8_day_11 : decode cX8_day 11 = .ok (.iconst 0, 1) := by decide +kernel
theorem dX8_day_12 : decode cX8_day 12 = .ok (.putfield 283, 3) := by decide +kernel
theorem dX8_day_15 : decode cX8_day 15 = .ok (.iconst 0, 1) := by decide +kernel
theorem dX8_day_16 : decode cX8_day 16 = .ok (.istore_n 3, 1) := by decide +kernel
theorem dX8_day_17 : decode cX8_day 17 = .ok (.iload_n 3, 1) := by decide +kernel
theorem dX8_day_18 : decode cX8_day 18 = .ok (.sipush 960, 3) := by decide +kernel
theorem dX8_day_21 : decode cX8_day 21 = .ok (.if_icmp .ge 16, 3) := by decide +kernel
theorem dX8_day_24 : decode cX8_day 24 = .ok (.aload_n 0, 1) := by decide +kernel
theorem dX8_day_25 : decode cX8_day 25 = .ok (.getfield 84, 3) := by decide +kernel
theorem dX8_day_28 : decode cX8_day 28 = .ok (.iload_n 3, 1) := by decide +kernel
theorem dX8_day_29 : decode cX8_day 29 = .ok (.iconst 0, 1) := by decide +kernel
theorem dX8_day_30 : decode cX8_day 30 = .ok (.iastore, 1) := by decide +kernel
theorem dX8_day_31 : decode cX8_day 31 = .ok (.iinc 3 1, 3) := by decide +kernel
theorem dX8_day_34 : decode cX8_day 34 = .ok (.goto (-17), 3) := by decide +kernel
theorem dX8_day_37 : decode cX8_day 37 = .ok (.iconst 0, 1) := by decide +kernel
theorem dX8_day_38 : decode cX8_day 38 = .ok (.istore_n 3, 1) := by decide +kernel
theorem dX8_day_39 : decode cX8_day 39 = .ok (.iload_n 3, 1) := by decide +kernel
theorem dX8_day_40 : decode cX8_day 40 = .ok (.sipush 720, 3) := by decide +kernel
theorem dX8_day_43 : decode cX8_day 43 = .ok (.if_icmp .ge 16, 3) := by decide +kernel
theorem dX8_day_46 : decode cX8_day 46 = .ok (.aload_n 0, 1) := by decide +kernel
theorem dX8_day_47 : decode cX8_day 47 = .ok (.getfield 87, 3) := by decide +kernel
theorem dX8_day_50 : decode cX8_day 50 = .ok (.iload_n 3, 1) := by decide +kernel
theorem dX8_day_51 : decode cX8_day 51 = .ok (.iconst 0, 1) := by decide +kernel
theorem dX8_day_52 : decode cX8_day 52 = .ok (.iastore, 1) := by decide +kernel
theorem dX8_day_53 : decode cX8_day 53 = .ok (.iinc 3 1, 3) := by decide +kernel
theorem dX8_day_56 : decode cX8_day 56 = .ok (.goto (-17), 3) := by decide +kernel
theorem dX8_day_59 : decode cX8_day 59 = .ok (.iconst 0, 1) := by decide +kernel
theorem dX8_day_60 : decode cX8_day 60 = .ok (.istore_n 3, 1) := by decide +kernel
theorem dX8_day_61 : decode cX8_day 61 = .ok (.iload_n 3, 1) := by decide +kernel
theorem dX8_day_62 : decode cX8_day 62 = .ok (.bipush 24, 2) := by decide +kernel
theorem dX8_day_64 : decode cX8_day 64 = .ok (.if_icmp .ge 16, 3) := by decide +kernel
theorem dX8_day_67 : decode cX8_day 67 = .ok (.aload_n 0, 1) := by decide +kernel
theorem dX8_day_68 : decode cX8_day 68 = .ok (.getfield 90, 3) := by decide +kernel
theorem dX8_day_71 : decode cX8_day 71 = .ok (.iload_n 3, 1) := by decide +kernel
theorem dX8_day_72 : decode cX8_day 72 = .ok (.iconst 0, 1) := by decide +kernel
theorem dX8_day_73 : decode cX8_day 73 = .ok (.iastore, 1) := by decide +kernel
theorem dX8_day_74 : decode cX8_day 74 = .ok (.iinc 3 1, 3) := by decide +kernel
theorem dX8_day_77 : decode cX8_day 77 = .ok (.goto (-16), 3) := by decide +kernel
theorem dX8_day_80 : decode cX8_day 80 = .ok (.iconst 0, 1) := by decide +kernel
theorem dX8_day_81 : decode cX8_day 81 = .ok (.istore_n 3, 1) := by decide +kernel
theorem dX8_day_82 : decode cX8_day 82 = .ok (.iload_n 3, 1) := by decide +kernel
theorem dX8_day_83 : decode cX8_day 83 = .ok (.aload_n 0, 1) := by decide +kernel
theorem dX8_day_84 : decode cX8_day 84 = .ok (.getfield 129, 3) := by decide +kernel
theorem dX8_day_87 : decode cX8_day 87 = .ok (.if_icmp .ge 28, 3) := by decide +kernel
theorem dX8_day_90 : decode cX8_day 90 = .ok (.aload_n 0, 1) := by decide +kernel
theorem dX8_day_91 : decode cX8_day 91 = .ok (.getfield 81, 3) := by decide +kernel
theorem dX8_day_94 : decode cX8_day 94 = .ok (.iload_n 3, 1) := by decide +kernel
theorem dX8_day_95 : decode cX8_day 95 = .ok (.aload_n 0, 1) := by decide +kernel
theorem dX8_day_96 : decode cX8_day 96 = .ok (.getfield 7, 3) := by decide +kernel
theorem dX8_day_99 : decode cX8_day 99 = .ok (.iload_n 3, 1) := by decide +kernel
theorem dX8_day_100 : decode cX8_day 100 = .ok (.iaload, 1) := by decide +kernel
theorem dX8_day_101 : decode cX8_day 101 = .ok (.iastore, 1) := by decide +kernel
theorem dX8_day_102 : decode cX8_day 102 = .ok (.aload_n 0, 1) := by decide +kernel
theorem dX8_day_103 : decode cX8_day 103 = .ok (.getfield 96, 3) := by decide +kernel
theorem dX8_day_106 : decode cX8_day 106 = .ok (.iload_n 3, 1) := by decide +kernel
theorem dX8_day_107 : decode cX8_day 107 = .ok (.iconst 0, 1) := by decide +kernel
theorem dX8_day_108 : decode cX8_day 108 = .ok (.iastore, 1) := by decide +kernel
theorem dX8_day_109 : decode cX8_day 109 = .ok (.iinc 3 1, 3) := by decide +kernel
theorem dX8_day_112 : decode cX8_day 112 = .ok (.goto (-30), 3) := by decide +kernel
theorem dX8_day_115 : decode cX8_day 115 = .ok (.iconst 0, 1) := by decide +kernel
theorem dX8_day_116 : decode cX8_day 116 = .ok (.istore_n 3, 1) := by decide +kernel
theorem dX8_day_117 : decode cX8_day 117 = .ok (.iload_n 3, 1) := by decide +kernel
theorem dX8_day_118 : decode cX8_day 118 = .ok (.aload_n 0, 1) := by decide +kernel
theorem dX8_day_119 : decode cX8_day 119 = .ok (.getfield 43, 3) := by decide +kernel
theorem dX8_day_122 : decode cX8_day 122 = .ok (.if_icmp .ge 15, 3) := by decide +kernel
theorem dX8_day_125 : decode cX8_day 125 = .ok (.aload_n 0, 1) := by decide +kernel
theorem dX8_day_126 : decode cX8_day 126 = .ok (.iload_n 1, 1) := by decide +kernel
theorem dX8_day_127 : decode cX8_day 127 = .ok (.iload_n 3, 1) := by decide +kernel
theorem dX8_day_128 : decode cX8_day 128 = .ok (.invokevirtual 286, 3) := by decide +kernel
theorem dX8_day_131 : decode cX8_day 131 = .ok (.iinc 3 1, 3) := by decide +kernel
theorem dX8_day_134 : decode cX8_day 134 = .ok (.goto (-17), 3) := by decide +kernel
theorem dX8_day_137 : decode cX8_day 137 = .ok (.return_, 1) := by decide +kernel
theorem dX8_leftOf_0 : decode cX8_leftOf 0 = .ok (.aload_n 0, 1) := by decide +kernel
theorem dX8_leftOf_1 : decode cX8_leftOf 1 = .ok (.getfield 7, 3) := by decide +kernel
theorem dX8_leftOf_4 : decode cX8_leftOf 4 = .ok (.iload_n 1, 1) := by decide +kernel
theorem dX8_leftOf_5 : decode cX8_leftOf 5 = .ok (.iaload, 1) := by decide +kernel
theorem dX8_leftOf_6 : decode cX8_leftOf 6 = .ok (.aload_n 0, 1) := by decide +kernel
theorem dX8_leftOf_7 : decode cX8_leftOf 7 = .ok (.getfield 96, 3) := by decide +kernel
theorem dX8_leftOf_10 : decode cX8_leftOf 10 = .ok (.iload_n 1, 1) := by decide +kernel
theorem dX8_leftOf_11 : decode cX8_leftOf 11 = .ok (.iaload, 1) := by decide +kernel
theorem dX8_leftOf_12 : decode cX8_leftOf 12 = .ok (.isub, 1) := by decide +kernel
theorem dX8_leftOf_13 : decode cX8_leftOf 13 = .ok (.ireturn, 1) := by decide +kernel
theorem dX8_leftOfAll_0 : decode cX8_leftOfAll 0 = .ok (.iconst 0, 1) := by decide +kernel
theorem dX8_leftOfAll_1 : decode cX8_leftOfAll 1 = .ok (.istore_n 1, 1) := by decide +kernel
theorem dX8_leftOfAll_2 : decode cX8_leftOfAll 2 = .ok (.iconst 0, 1) := by decide +kernel
theorem dX8_leftOfAll_3 : decode cX8_leftOfAll 3 = .ok (.istore_n 2, 1) := by decide +kernel
theorem dX8_leftOfAll_4 : decode cX8_leftOfAll 4 = .ok (.iload_n 2, 1) := by decide +kernel
theorem dX8_leftOfAll_5 : decode cX8_leftOfAll 5 = .ok (.aload_n 0, 1) := by decide +kernel
theorem dX8_leftOfAll_6 : decode cX8_leftOfAll 6 = .ok (.getfield 129, 3) := by decide +kernel
theorem dX8_leftOfAll_9 : decode cX8_leftOfAll 9 = .ok (.if_icmp .ge 17, 3) := by decide +kernel
theorem dX8_leftOfAll_12 : decode cX8_leftOfAll 12 = .ok (.iload_n 1, 1) := by decide +kernel
theorem dX8_leftOfAll_13 : decode cX8_leftOfAll 13 = .ok (.aload_n 0, 1) := by decide +kernel
theorem dX8_leftOfAll_14 : decode cX8_leftOfAll 14 = .ok (.iload_n 2, 1) := by decide +kernel
theorem dX8_leftOfAll_15 : decode cX8_leftOfAll 15 = .ok (.invokevirtual 289, 3) := by decide +kernel
theorem dX8_leftOfAll_18 : decode cX8_leftOfAll 18 = .ok (.iadd, 1) := by decide +kernel
theorem dX8_leftOfAll_19 : decode cX8_leftOfAll 19 = .ok (.istore_n 1, 1) := by decide +kernel
theorem dX8_leftOfAll_20 : decode cX8_leftOfAll 20 = .ok (.iinc 2 1, 3) := by decide +kernel
theorem dX8_leftOfAll_23 : decode cX8_leftOfAll 23 = .ok (.goto (-19), 3) := by decide +kernel
theorem dX8_leftOfAll_26 : decode cX8_leftOfAll 26 = .ok (.iload_n 1, 1) := by decide +kernel
theorem dX8_leftOfAll_27 : decode cX8_leftOfAll 27 = .ok (.ireturn, 1) := by decide +kernel
theorem dX8_left_0 : decode cX8_left 0 = .ok (.aload_n 0, 1) := by decide +kernel
theorem dX8_left_1 : decode cX8_left 1 = .ok (.iload_n 1, 1) := by decide +kernel
theorem dX8_left_2 : decode cX8_left 2 = .ok (.invokevirtual 152, 3) := by decide +kernel
theorem dX8_left_5 : decode cX8_left 5 = .ok (.ifCond .eq 16, 3) := by decide +kernel
theorem dX8_left_8 : decode cX8_left 8 = .ok (.iload_n 2, 1) := by decide +kernel
theorem dX8_left_9 : decode cX8_left 9 = .ok (.iconst (-1), 1) := by decide +kernel
theorem dX8_left_10 : decode cX8_left 10 = .ok (.if_icmp .eq 14, 3) := by decide +kernel
theorem dX8_left_13 : decode cX8_left 13 = .ok (.aload_n 0, 1) := by decide +kernel
theorem dX8_left_14 : decode cX8_left 14 = .ok (.iload_n 2, 1) := by decide +kernel
theorem dX8_left_15 : decode cX8_left 15 = .ok (.invokevirtual 146, 3) := by decide +kernel
theorem dX8_left_18 : decode cX8_left 18 = .ok (.ifCond .ne 6, 3) := by decide +kernel
theorem dX8_left_21 : decode cX8_left 21 = .ok (.bipush (-2), 2) := by decide +kernel
theorem dX8_left_23 : decode cX8_left 23 = .ok (.ireturn, 1) := by decide +kernel
theorem dX8_left_24 : decode cX8_left 24 = .ok (.aload_n 0, 1) := by decide +kernel
theorem dX8_left_25 : decode cX8_left 25 = .ok (.iload_n 1, 1) := by decide +kernel
theorem dX8_left_26 : decode cX8_left 26 = .ok (.aload_n 0, 1) := by decide +kernel
theorem dX8_left_27 : decode cX8_left 27 = .ok (.getfield 143, 3) := by decide +kernel
theorem dX8_left_30 : decode cX8_left 30 = .ok (.invokevirtual 292, 3) := by decide +kernel
theorem dX8_left_33 : decode cX8_left 33 = .ok (.iload_n 2, 1) := by decide +kernel
theorem dX8_left_34 : decode cX8_left 34 = .ok (.iconst (-1), 1) := by decide +kernel
theorem dX8_left_35 : decode cX8_left 35 = .ok (.if_icmp .ne 10, 3) := by decide +kernel
theorem dX8_left_38 : decode cX8_left 38 = .ok (.aload_n 0, 1) := by decide +kernel
theorem dX8_left_39 : decode cX8_left 39 = .ok (.invokevirtual 295, 3) := by decide +kernel
theorem dX8_left_42 : decode cX8_left 42 = .ok (.goto 8, 3) := by decide +kernel
theorem dX8_left_45 : decode cX8_left 45 = .ok (.aload_n 0, 1) := by decide +kernel
theorem dX8_left_46 : decode cX8_left 46 = .ok (.iload_n 2, 1) := by decide +kernel
theorem dX8_left_47 : decode cX8_left 47 = .ok (.invokevirtual 289, 3) := by decide +kernel
theorem dX8_left_50 : decode cX8_left 50 = .ok (.ireturn, 1) := by decide +kernel
theorem dX8_harmOf_0 : decode cX8_harmOf 0 = .ok (.aload_n 0, 1) := by decide +kernel
theorem dX8_harmOf_1 : decode cX8_harmOf 1 = .ok (.iload_n 1, 1) := by decide +kernel
theorem dX8_harmOf_2 : decode cX8_harmOf 2 = .ok (.aload_n 0, 1) := by decide +kernel
theorem dX8_harmOf_3 : decode cX8_harmOf 3 = .ok (.getfield 143, 3) := by decide +kernel
theorem dX8_harmOf_6 : decode cX8_harmOf 6 = .ok (.invokevirtual 292, 3) := by decide +kernel
theorem dX8_harmOf_9 : decode cX8_harmOf 9 = .ok (.aload_n 0, 1) := by decide +kernel
theorem dX8_harmOf_10 : decode cX8_harmOf 10 = .ok (.invokevirtual 252, 3) := by decide +kernel
theorem dX8_harmOf_13 : decode cX8_harmOf 13 = .ok (.istore_n 2, 1) := by decide +kernel
theorem dX8_harmOf_14 : decode cX8_harmOf 14 = .ok (.lconst 0, 1) := by decide +kernel
theorem dX8_harmOf_15 : decode cX8_harmOf 15 = .ok (.lstore_n 3, 1) := by decide +kernel
theorem dX8_harmOf_16 : decode cX8_harmOf 16 = .ok (.iconst 0, 1) := by decide +kernel
theorem dX8_harmOf_17 : decode cX8_harmOf 17 = .ok (.istore 5, 2) := by decide +kernel
theorem dX8_harmOf_19 : decode cX8_harmOf 19 = .ok (.iload 5, 2) := by decide +kernel
theorem dX8_harmOf_21 : decode cX8_harmOf 21 = .ok (.aload_n 0, 1) := by decide +kernel
theorem dX8_harmOf_22 : decode cX8_harmOf 22 = .ok (.getfield 129, 3) := by decide +kernel
theorem dX8_harmOf_25 : decode cX8_harmOf 25 = .ok (.if_icmp .ge 76, 3) := by decide +kernel
theorem dX8_harmOf_28 : decode cX8_harmOf 28 = .ok (.iconst 0, 1) := by decide +kernel
theorem dX8_harmOf_29 : decode cX8_harmOf 29 = .ok (.istore 6, 2) := by decide +kernel
theorem dX8_harmOf_31 : decode cX8_harmOf 31 = .ok (.iload 6, 2) := by decide +kernel
theorem dX8_harmOf_33 : decode cX8_harmOf 33 = .ok (.bipush 6, 2) := by decide +kernel
theorem dX8_harmOf_35 : decode cX8_harmOf 35 = .ok (.if_icmp .ge 17, 3) := by decide +kernel
theorem dX8_harmOf_38 : decode cX8_harmOf 38 = .ok (.aload_n 0, 1) := by decide +kernel
theorem dX8_harmOf_39 : decode cX8_harmOf 39 = .ok (.getfield 72, 3) := by decide +kernel
theorem dX8_harmOf_42 : decode cX8_harmOf 42 = .ok (.iload 6, 2) := by decide +kernel
theorem dX8_harmOf_44 : decode cX8_harmOf 44 = .ok (.iconst 0, 1) := by decide +kernel
theorem dX8_harmOf_45 : decode cX8_harmOf 45 = .ok (.iastore, 1) := by decide +kernel
theorem dX8_harmOf_46 : decode cX8_harmOf 46 = .ok (.iinc 6 1, 3) := by decide +kernel
theorem dX8_harmOf_49 : decode cX8_harmOf 49 = .ok (.goto (-18), 3) := by decide +kernel
theorem dX8_harmOf_52 : decode cX8_harmOf 52 = .ok (.aload_n 0, 1) := by decide +kernel
theorem dX8_harmOf_53 : decode cX8_harmOf 53 = .ok (.getfield 72, 3) := by decide +kernel
theorem dX8_harmOf_56 : decode cX8_harmOf 56 = .ok (.iconst 0, 1) := by decide +kernel
theorem dX8_harmOf_57 : decode cX8_harmOf 57 = .ok (.aload_n 0, 1) := by decide +kernel
theorem dX8_harmOf_58 : decode cX8_harmOf 58 = .ok (.getfield 81, 3) := by decide +kernel
theorem dX8_harmOf_61 : decode cX8_harmOf 61 = .ok (.iload 5, 2) := by decide +kernel
theorem dX8_harmOf_63 : decode cX8_harmOf 63 = .ok (.iaload, 1) := by decide +kernel
theorem dX8_harmOf_64 : decode cX8_harmOf 64 = .ok (.iastore, 1) := by decide +kernel
theorem dX8_harmOf_65 : decode cX8_harmOf 65 = .ok (.aload_n 0, 1) := by decide +kernel
theorem dX8_harmOf_66 : decode cX8_harmOf 66 = .ok (.getfield 72, 3) := by decide +kernel
theorem dX8_harmOf_69 : decode cX8_harmOf 69 = .ok (.iconst 1, 1) := by decide +kernel
theorem dX8_harmOf_70 : decode cX8_harmOf 70 = .ok (.iload_n 2, 1) := by decide +kernel
theorem dX8_harmOf_71 : decode cX8_harmOf 71 = .ok (.iastore, 1) := by decide +kernel
theorem dX8_harmOf_72 : decode cX8_harmOf 72 = .ok (.lload_n 3, 1) := by decide +kernel
theorem dX8_harmOf_73 : decode cX8_harmOf 73 = .ok (.aload_n 0, 1) := by decide +kernel
theorem dX8_harmOf_74 : decode cX8_harmOf 74 = .ok (.iconst 2, 1) := by decide +kernel
theorem dX8_harmOf_75 : decode cX8_harmOf 75 = .ok (.invokevirtual 259, 3) := by decide +kernel
theorem dX8_harmOf_78 : decode cX8_harmOf 78 = .ok (.iconst 0, 1) := by decide +kernel
theorem dX8_harmOf_79 : decode cX8_harmOf 79 = .ok (.bipush 99, 2) := by decide +kernel
theorem dX8_harmOf_81 : decode cX8_harmOf 81 = .ok (.invokestatic 263, 3) := by decide +kernel
theorem dX8_harmOf_84 : decode cX8_harmOf 84 = .ok (.i2l, 1) := by decide +kernel
theorem dX8_harmOf_85 : decode cX8_harmOf 85 = .ok (.aload_n 0, 1) := by decide +kernel
theorem dX8_harmOf_86 : decode cX8_harmOf 86 = .ok (.iload 5, 2) := by decide +kernel
theorem dX8_harmOf_88 : decode cX8_harmOf 88 = .ok (.invokevirtual 289, 3) := by decide +kernel
theorem dX8_harmOf_91 : decode cX8_harmOf 91 = .ok (.i2l, 1) := by decide +kernel
theorem dX8_harmOf_92 : decode cX8_harmOf 92 = .ok (.lmul, 1) := by decide +kernel
theorem dX8_harmOf_93 : decode cX8_harmOf 93 = .ok (.ladd, 1) := by decide +kernel
theorem dX8_harmOf_94 : decode cX8_harmOf 94 = .ok (.lstore_n 3, 1) := by decide +kernel
theorem dX8_harmOf_95 : decode cX8_harmOf 95 = .ok (.iinc 5 1, 3) := by decide +kernel
theorem dX8_harmOf_98 : decode cX8_harmOf 98 = .ok (.goto (-79), 3) := by decide +kernel
theorem dX8_harmOf_101 : decode cX8_harmOf 101 = .ok (.lload_n 3, 1) := by decide +kernel
theorem dX8_harmOf_102 : decode cX8_harmOf 102 = .ok (.lreturn, 1) := by decide +kernel
theorem dX8_harm_0 : decode cX8_harm 0 = .ok (.aload_n 0, 1) := by decide +kernel
theorem dX8_harm_1 : decode cX8_harm 1 = .ok (.iload_n 1, 1) := by decide +kernel
theorem dX8_harm_2 : decode cX8_harm 2 = .ok (.invokevirtual 152, 3) := by decide +kernel
theorem dX8_harm_5 : decode cX8_harm 5 = .ok (.ifCond .eq 11, 3) := by decide +kernel
theorem dX8_harm_8 : decode cX8_harm 8 = .ok (.aload_n 0, 1) := by decide +kernel
theorem dX8_harm_9 : decode cX8_harm 9 = .ok (.iload_n 1, 1) := by decide +kernel
theorem dX8_harm_10 : decode cX8_harm 10 = .ok (.invokevirtual 298, 3) := by decide +kernel
theorem dX8_harm_13 : decode cX8_harm 13 = .ok (.goto 6, 3) := by decide +kernel
theorem dX8_harm_16 : decode cX8_harm 16 = .ok (.ldc2_w 302, 3) := by decide +kernel
theorem dX8_harm_19 : decode cX8_harm 19 = .ok (.lreturn, 1) := by decide +kernel
theorem dX8_rode_0 : decode cX8_rode 0 = .ok (.aload_n 0, 1) := by decide +kernel
theorem dX8_rode_1 : decode cX8_rode 1 = .ok (.iload_n 1, 1) := by decide +kernel
theorem dX8_rode_2 : decode cX8_rode 2 = .ok (.invokevirtual 152, 3) := by decide +kernel
theorem dX8_rode_5 : decode cX8_rode 5 = .ok (.ifCond .eq 22, 3) := by decide +kernel
theorem dX8_rode_8 : decode cX8_rode 8 = .ok (.iload_n 2, 1) := by decide +kernel
theorem dX8_rode_9 : decode cX8_rode 9 = .ok (.iconst (-1), 1) := by decide +kernel
theorem dX8_rode_10 : decode cX8_rode 10 = .ok (.if_icmp .eq 20, 3) := by decide +kernel
theorem dX8_rode_13 : decode cX8_rode 13 = .ok (.iload_n 2, 1) := by decide +kernel
theorem dX8_rode_14 : decode cX8_rode 14 = .ok (.iconst 0, 1) := by decide +kernel
theorem dX8_rode_15 : decode cX8_rode 15 = .ok (.aload_n 0, 1) := by decide +kernel
theorem dX8_rode_16 : decode cX8_rode 16 = .ok (.getfield 143, 3) := by decide +kernel
theorem dX8_rode_19 : decode cX8_rode 19 = .ok (.iconst 1, 1) := by decide +kernel
theorem dX8_rode_20 : decode cX8_rode 20 = .ok (.isub, 1) := by decide +kernel
theorem dX8_rode_21 : decode cX8_rode 21 = .ok (.invokestatic 132, 3) := by decide +kernel
theorem dX8_rode_24 : decode cX8_rode 24 = .ok (.ifCond .ne 6, 3) := by decide +kernel
theorem dX8_rode_27 : decode cX8_rode 27 = .ok (.bipush (-2), 2) := by decide +kernel
theorem dX8_rode_29 : decode cX8_rode 29 = .ok (.ireturn, 1) := by decide +kernel
theorem dX8_rode_30 : decode cX8_rode 30 = .ok (.aload_n 0, 1) := by decide +kernel
theorem dX8_rode_31 : decode cX8_rode 31 = .ok (.iload_n 1, 1) := by decide +kernel
theorem dX8_rode_32 : decode cX8_rode 32 = .ok (.aload_n 0, 1) := by decide +kernel
theorem dX8_rode_33 : decode cX8_rode 33 = .ok (.getfield 143, 3) := by decide +kernel
theorem dX8_rode_36 : decode cX8_rode 36 = .ok (.invokevirtual 292, 3) := by decide +kernel
theorem dX8_rode_39 : decode cX8_rode 39 = .ok (.iconst 0, 1) := by decide +kernel
theorem dX8_rode_40 : decode cX8_rode 40 = .ok (.istore_n 3, 1) := by decide +kernel
theorem dX8_rode_41 : decode cX8_rode 41 = .ok (.iconst 0, 1) := by decide +kernel
theorem dX8_rode_42 : decode cX8_rode 42 = .ok (.istore 4, 2) := by decide +kernel
theorem dX8_rode_44 : decode cX8_rode 44 = .ok (.iload 4, 2) := by decide +kernel
theorem dX8_rode_46 : decode cX8_rode 46 = .ok (.aload_n 0, 1) := by decide +kernel
theorem dX8_rode_47 : decode cX8_rode 47 = .ok (.getfield 143, 3) := by decide +kernel
theorem dX8_rode_50 : decode cX8_rode 50 = .ok (.if_icmp .ge 30, 3) := by decide +kernel
theorem dX8_rode_53 : decode cX8_rode 53 = .ok (.iload_n 2, 1) := by decide +kernel
theorem dX8_rode_54 : decode cX8_rode 54 = .ok (.iconst (-1), 1) := by decide +kernel
theorem dX8_rode_55 : decode cX8_rode 55 = .ok (.if_icmp .eq 9, 3) := by decide +kernel
theorem dX8_rode_58 : decode cX8_rode 58 = .ok (.iload 4, 2) := by decide +kernel
theorem dX8_rode_60 : decode cX8_rode 60 = .ok (.iload_n 2, 1) := by decide +kernel
theorem dX8_rode_61 : decode cX8_rode 61 = .ok (.if_icmp .ne 13, 3) := by decide +kernel
theorem dX8_rode_64 : decode cX8_rode 64 = .ok (.iload_n 3, 1) := by decide +kernel
theorem dX8_rode_65 : decode cX8_rode 65 = .ok (.aload_n 0, 1) := by decide +kernel
theorem dX8_rode_66 : decode cX8_rode 66 = .ok (.getfield 90, 3) := by decide +kernel
theorem dX8_rode_69 : decode cX8_rode 69 = .ok (.iload 4, 2) := by decide +kernel
theorem dX8_rode_71 : decode cX8_rode 71 = .ok (.iaload, 1) := by decide +kernel
theorem dX8_rode_72 : decode cX8_rode 72 = .ok (.iadd, 1) := by decide +kernel
theorem dX8_rode_73 : decode cX8_rode 73 = .ok (.istore_n 3, 1) := by decide +kernel
theorem dX8_rode_74 : decode cX8_rode 74 = .ok (.iinc 4 1, 3) := by decide +kernel
theorem dX8_rode_77 : decode cX8_rode 77 = .ok (.goto (-33), 3) := by decide +kernel
theorem dX8_rode_80 : decode cX8_rode 80 = .ok (.iload_n 3, 1) := by decide +kernel
theorem dX8_rode_81 : decode cX8_rode 81 = .ok (.ireturn, 1) := by decide +kernel
theorem dX8_waits_0 : decode cX8_waits 0 = .ok (.aload_n 0, 1) := by decide +kernel
theorem dX8_waits_1 : decode cX8_waits 1 = .ok (.iload_n 1, 1) := by decide +kernel
theorem dX8_waits_2 : decode cX8_waits 2 = .ok (.invokevirtual 152, 3) := by decide +kernel
theorem dX8_waits_5 : decode cX8_waits 5 = .ok (.ifCond .eq 12, 3) := by decide +kernel
theorem dX8_waits_8 : decode cX8_waits 8 = .ok (.iload_n 2, 1) := by decide +kernel
theorem dX8_waits_9 : decode cX8_waits 9 = .ok (.iconst 0, 1) := by decide +kernel
theorem dX8_waits_10 : decode cX8_waits 10 = .ok (.iconst 1, 1) := by decide +kernel
theorem dX8_waits_11 : decode cX8_waits 11 = .ok (.invokestatic 132, 3) := by decide +kernel
theorem dX8_waits_14 : decode cX8_waits 14 = .ok (.ifCond .ne 6, 3) := by decide +kernel
theorem dX8_waits_17 : decode cX8_waits 17 = .ok (.bipush (-2), 2) := by decide +kernel
theorem dX8_waits_19 : decode cX8_waits 19 = .ok (.ireturn, 1) := by decide +kernel
theorem dX8_waits_20 : decode cX8_waits 20 = .ok (.aload_n 0, 1) := by decide +kernel
theorem dX8_waits_21 : decode cX8_waits 21 = .ok (.iload_n 1, 1) := by decide +kernel
theorem dX8_waits_22 : decode cX8_waits 22 = .ok (.aload_n 0, 1) := by decide +kernel
theorem dX8_waits_23 : decode cX8_waits 23 = .ok (.getfield 143, 3) := by decide +kernel
theorem dX8_waits_26 : decode cX8_waits 26 = .ok (.invokevirtual 292, 3) := by decide +kernel
theorem dX8_waits_29 : decode cX8_waits 29 = .ok (.iload_n 2, 1) := by decide +kernel
theorem dX8_waits_30 : decode cX8_waits 30 = .ok (.ifCond .ne 10, 3) := by decide +kernel
theorem dX8_waits_33 : decode cX8_waits 33 = .ok (.aload_n 0, 1) := by decide +kernel
theorem dX8_waits_34 : decode cX8_waits 34 = .ok (.getfield 280, 3) := by decide +kernel
theorem dX8_waits_37 : decode cX8_waits 37 = .ok (.goto 7, 3) := by decide +kernel
theorem dX8_waits_40 : decode cX8_waits 40 = .ok (.aload_n 0, 1) := by decide +kernel
theorem dX8_waits_41 : decode cX8_waits 41 = .ok (.getfield 283, 3) := by decide +kernel
theorem dX8_waits_44 : decode cX8_waits 44 = .ok (.ireturn, 1) := by decide +kernel
theorem dX8_down_0 : decode cX8_down 0 = .ok (.aload_n 0, 1) := by decide +kernel
theorem dX8_down_1 : decode cX8_down 1 = .ok (.iload_n 1, 1) := by decide +kernel
theorem dX8_down_2 : decode cX8_down 2 = .ok (.invokevirtual 152, 3) := by decide +kernel
theorem dX8_down_5 : decode cX8_down 5 = .ok (.ifCond .eq 30, 3) := by decide +kernel
theorem dX8_down_8 : decode cX8_down 8 = .ok (.iload_n 2, 1) := by decide +kernel
theorem dX8_down_9 : decode cX8_down 9 = .ok (.iconst (-1), 1) := by decide +kernel
theorem dX8_down_10 : decode cX8_down 10 = .ok (.if_icmp .eq 11, 3) := by decide +kernel
theorem dX8_down_13 : decode cX8_down 13 = .ok (.aload_n 0, 1) := by decide +kernel
theorem dX8_down_14 : decode cX8_down 14 = .ok (.iload_n 2, 1) := by decide +kernel
theorem dX8_down_15 : decode cX8_down 15 = .ok (.invokevirtual 146, 3) := by decide +kernel
theorem dX8_down_18 : decode cX8_down 18 = .ok (.ifCond .eq 17, 3) := by decide +kernel
theorem dX8_down_21 : decode cX8_down 21 = .ok (.iload_n 3, 1) := by decide +kernel
theorem dX8_down_22 : decode cX8_down 22 = .ok (.iconst 0, 1) := by decide +kernel
theorem dX8_down_23 : decode cX8_down 23 = .ok (.aload_n 0, 1) := by decide +kernel
theorem dX8_down_24 : decode cX8_down 24 = .ok (.getfield 43, 3) := by decide +kernel
theorem dX8_down_27 : decode cX8_down 27 = .ok (.iconst 1, 1) := by decide +kernel
theorem dX8_down_28 : decode cX8_down 28 = .ok (.isub, 1) := by decide +kernel
theorem dX8_down_29 : decode cX8_down 29 = .ok (.invokestatic 132, 3) := by decide +kernel
theorem dX8_down_32 : decode cX8_down 32 = .ok (.ifCond .ne 6, 3) := by decide +kernel
theorem dX8_down_35 : decode cX8_down 35 = .ok (.bipush (-2), 2) := by decide +kernel
theorem dX8_down_37 : decode cX8_down 37 = .ok (.ireturn, 1) := by decide +kernel
theorem dX8_down_38 : decode cX8_down 38 = .ok (.aload_n 0, 1) := by decide +kernel
theorem dX8_down_39 : decode cX8_down 39 = .ok (.iload_n 1, 1) := by decide +kernel
theorem dX8_down_40 : decode cX8_down 40 = .ok (.aload_n 0, 1) := by decide +kernel
theorem dX8_down_41 : decode cX8_down 41 = .ok (.getfield 143, 3) := by decide +kernel
theorem dX8_down_44 : decode cX8_down 44 = .ok (.invokevirtual 292, 3) := by decide +kernel
theorem dX8_down_47 : decode cX8_down 47 = .ok (.iconst 0, 1) := by decide +kernel
theorem dX8_down_48 : decode cX8_down 48 = .ok (.istore 4, 2) := by decide +kernel
theorem dX8_down_50 : decode cX8_down 50 = .ok (.iconst 0, 1) := by decide +kernel
theorem dX8_down_51 : decode cX8_down 51 = .ok (.istore 5, 2) := by decide +kernel
theorem dX8_down_53 : decode cX8_down 53 = .ok (.iload 5, 2) := by decide +kernel
theorem dX8_down_55 : decode cX8_down 55 = .ok (.aload_n 0, 1) := by decide +kernel
theorem dX8_down_56 : decode cX8_down 56 = .ok (.getfield 129, 3) := by decide +kernel
theorem dX8_down_59 : decode cX8_down 59 = .ok (.if_icmp .ge 37, 3) := by decide +kernel
theorem dX8_down_62 : decode cX8_down 62 = .ok (.iload_n 2, 1) := by decide +kernel
theorem dX8_down_63 : decode cX8_down 63 = .ok (.iconst (-1), 1) := by decide +kernel
theorem dX8_down_64 : decode cX8_down 64 = .ok (.if_icmp .eq 9, 3) := by decide +kernel
theorem dX8_down_67 : decode cX8_down 67 = .ok (.iload 5, 2) := by decide +kernel
theorem dX8_down_69 : decode cX8_down 69 = .ok (.iload_n 2, 1) := by decide +kernel
theorem dX8_down_70 : decode cX8_down 70 = .ok (.if_icmp .ne 20, 3) := by decide +kernel
theorem dX8_down_73 : decode cX8_down 73 = .ok (.iload 4, 2) := by decide +kernel
theorem dX8_down_75 : decode cX8_down 75 = .ok (.aload_n 0, 1) := by decide +kernel
theorem dX8_down_76 : decode cX8_down 76 = .ok (.getfield 93, 3) := by decide +kernel
theorem dX8_down_79 : decode cX8_down 79 = .ok (.bipush 120, 2) := by decide +kernel
theorem dX8_down_81 : decode cX8_down 81 = .ok (.iload 5, 2) := by decide +kernel
theorem dX8_down_83 : decode cX8_down 83 = .ok (.imul, 1) := by decide +kernel
theorem dX8_down_84 : decode cX8_down 84 = .ok (.iload_n 3, 1) := by decide +kernel
theorem dX8_down_85 : decode cX8_down 85 = .ok (.iadd, 1) := by decide +kernel
theorem dX8_down_86 : decode cX8_down 86 = .ok (.iaload, 1) := by decide +kernel
theorem dX8_down_87 : decode cX8_down 87 = .ok (.iadd, 1) := by decide +kernel
theorem dX8_down_88 : decode cX8_down 88 = .ok (.istore 4, 2) := by decide +kernel
theorem dX8_down_90 : decode cX8_down 90 = .ok (.iinc 5 1, 3) := by decide +kernel
theorem dX8_down_93 : decode cX8_down 93 = .ok (.goto (-40), 3) := by decide +kernel
theorem dX8_down_96 : decode cX8_down 96 = .ok (.iload 4, 2) := by decide +kernel
theorem dX8_down_98 : decode cX8_down 98 = .ok (.ireturn, 1) := by decide +kernel
theorem dX8_behind_0 : decode cX8_behind 0 = .ok (.aload_n 0, 1) := by decide +kernel
theorem dX8_behind_1 : decode cX8_behind 1 = .ok (.iload_n 1, 1) := by decide +kernel
theorem dX8_behind_2 : decode cX8_behind 2 = .ok (.invokevirtual 152, 3) := by decide +kernel
theorem dX8_behind_5 : decode cX8_behind 5 = .ok (.ifCond .eq 14, 3) := by decide +kernel
theorem dX8_behind_8 : decode cX8_behind 8 = .ok (.iload_n 2, 1) := by decide +kernel
theorem dX8_behind_9 : decode cX8_behind 9 = .ok (.iconst 0, 1) := by decide +kernel
theorem dX8_behind_10 : decode cX8_behind 10 = .ok (.sipush 2400, 3) := by decide +kernel
theorem dX8_behind_13 : decode cX8_behind 13 = .ok (.invokestatic 132, 3) := by decide +kernel
theorem dX8_behind_16 : decode cX8_behind 16 = .ok (.ifCond .ne 6, 3) := by decide +kernel
theorem dX8_behind_19 : decode cX8_behind 19 = .ok (.bipush (-2), 2) := by decide +kernel
theorem dX8_behind_21 : decode cX8_behind 21 = .ok (.ireturn, 1) := by decide +kernel
theorem dX8_behind_22 : decode cX8_behind 22 = .ok (.aload_n 0, 1) := by decide +kernel
theorem dX8_behind_23 : decode cX8_behind 23 = .ok (.iload_n 1, 1) := by decide +kernel
theorem dX8_behind_24 : decode cX8_behind 24 = .ok (.aload_n 0, 1) := by decide +kernel
theorem dX8_behind_25 : decode cX8_behind 25 = .ok (.getfield 143, 3) := by decide +kernel
theorem dX8_behind_28 : decode cX8_behind 28 = .ok (.invokevirtual 292, 3) := by decide +kernel
theorem dX8_behind_31 : decode cX8_behind 31 = .ok (.iconst 0, 1) := by decide +kernel
theorem dX8_behind_32 : decode cX8_behind 32 = .ok (.istore_n 3, 1) := by decide +kernel
theorem dX8_behind_33 : decode cX8_behind 33 = .ok (.iload_n 3, 1) := by decide +kernel
theorem dX8_behind_34 : decode cX8_behind 34 = .ok (.aload_n 0, 1) := by decide +kernel
theorem dX8_behind_35 : decode cX8_behind 35 = .ok (.getfield 43, 3) := by decide +kernel
theorem dX8_behind_38 : decode cX8_behind 38 = .ok (.if_icmp .ge 55, 3) := by decide +kernel
theorem dX8_behind_41 : decode cX8_behind 41 = .ok (.iconst 0, 1) := by decide +kernel
theorem dX8_behind_42 : decode cX8_behind 42 = .ok (.istore 4, 2) := by decide +kernel
theorem dX8_behind_44 : decode cX8_behind 44 = .ok (.iconst 0, 1) := by decide +kernel
theorem dX8_behind_45 : decode cX8_behind 45 = .ok (.istore 5, 2) := by decide +kernel
theorem dX8_behind_47 : decode cX8_behind 47 = .ok (.iload 5, 2) := by decide +kernel
theorem dX8_behind_49 : decode cX8_behind 49 = .ok (.aload_n 0, 1) := by decide +kernel
theorem dX8_behind_50 : decode cX8_behind 50 = .ok (.getfield 129, 3) := by decide +kernel
theorem dX8_behind_53 : decode cX8_behind 53 = .ok (.if_icmp .ge 26, 3) := by decide +kernel
theorem dX8_behind_56 : decode cX8_behind 56 = .ok (.iload 4, 2) := by decide +kernel
theorem dX8_behind_58 : decode cX8_behind 58 = .ok (.aload_n 0, 1) := by decide +kernel
theorem dX8_behind_59 : decode cX8_behind 59 = .ok (.getfield 93, 3) := by decide +kernel
theorem dX8_behind_62 : decode cX8_behind 62 = .ok (.bipush 120, 2) := by decide +kernel
theorem dX8_behind_64 : decode cX8_behind 64 = .ok (.iload 5, 2) := by decide +kernel
theorem dX8_behind_66 : decode cX8_behind 66 = .ok (.imul, 1) := by decide +kernel
theorem dX8_behind_67 : decode cX8_behind 67 = .ok (.iload_n 3, 1) := by decide +kernel
theorem dX8_behind_68 : decode cX8_behind 68 = .ok (.iadd, 1) := by decide +kernel
theorem dX8_behind_69 : decode cX8_behind 69 = .ok (.iaload, 1) := by decide +kernel
theorem dX8_behind_70 : decode cX8_behind 70 = .ok (.iadd, 1) := by decide +kernel
theorem dX8_behind_71 : decode cX8_behind 71 = .ok (.istore 4, 2) := by decide +kernel
theorem dX8_behind_73 : decode cX8_behind 73 = .ok (.iinc 5 1, 3) := by decide +kernel
theorem dX8_behind_76 : decode cX8_behind 76 = .ok (.goto (-29), 3) := by decide +kernel
theorem dX8_behind_79 : decode cX8_behind 79 = .ok (.iload 4, 2) := by decide +kernel
theorem dX8_behind_81 : decode cX8_behind 81 = .ok (.iload_n 2, 1) := by decide +kernel
theorem dX8_behind_82 : decode cX8_behind 82 = .ok (.if_icmp .lt 5, 3) := by decide +kernel
theorem dX8_behind_85 : decode cX8_behind 85 = .ok (.iload_n 3, 1) := by decide +kernel
theorem dX8_behind_86 : decode cX8_behind 86 = .ok (.ireturn, 1) := by decide +kernel
theorem dX8_behind_87 : decode cX8_behind 87 = .ok (.iinc 3 1, 3) := by decide +kernel
theorem dX8_behind_90 : decode cX8_behind 90 = .ok (.goto (-57), 3) := by decide +kernel
theorem dX8_behind_93 : decode cX8_behind 93 = .ok (.iconst (-1), 1) := by decide +kernel
theorem dX8_behind_94 : decode cX8_behind 94 = .ok (.ireturn, 1) := by decide +kernel
theorem dX8_latest_0 : decode cX8_latest 0 = .ok (.aload_n 0, 1) := by decide +kernel
theorem dX8_latest_1 : decode cX8_latest 1 = .ok (.iload_n 1, 1) := by decide +kernel
theorem dX8_latest_2 : decode cX8_latest 2 = .ok (.invokevirtual 152, 3) := by decide +kernel
theorem dX8_latest_5 : decode cX8_latest 5 = .ok (.ifCond .eq 14, 3) := by decide +kernel
theorem dX8_latest_8 : decode cX8_latest 8 = .ok (.iload_n 2, 1) := by decide +kernel
theorem dX8_latest_9 : decode cX8_latest 9 = .ok (.iconst 0, 1) := by decide +kernel
theorem dX8_latest_10 : decode cX8_latest 10 = .ok (.sipush 2400, 3) := by decide +kernel
theorem dX8_latest_13 : decode cX8_latest 13 = .ok (.invokestatic 132, 3) := by decide +kernel
theorem dX8_latest_16 : decode cX8_latest 16 = .ok (.ifCond .ne 6, 3) := by decide +kernel
theorem dX8_latest_19 : decode cX8_latest 19 = .ok (.bipush (-2), 2) := by decide +kernel
theorem dX8_latest_21 : decode cX8_latest 21 = .ok (.ireturn, 1) := by decide +kernel
theorem dX8_latest_22 : decode cX8_latest 22 = .ok (.aload_n 0, 1) := by decide +kernel
theorem dX8_latest_23 : decode cX8_latest 23 = .ok (.getfield 34, 3) := by decide +kernel
theorem dX8_latest_26 : decode cX8_latest 26 = .ok (.iload_n 1, 1) := by decide +kernel
theorem dX8_latest_27 : decode cX8_latest 27 = .ok (.iaload, 1) := by decide +kernel
theorem dX8_latest_28 : decode cX8_latest 28 = .ok (.istore_n 3, 1) := by decide +kernel
theorem dX8_latest_29 : decode cX8_latest 29 = .ok (.iconst (-1), 1) := by decide +kernel
theorem dX8_latest_30 : decode cX8_latest 30 = .ok (.istore 4, 2) := by decide +kernel
theorem dX8_latest_32 : decode cX8_latest 32 = .ok (.aload_n 0, 1) := by decide +kernel
theorem dX8_latest_33 : decode cX8_latest 33 = .ok (.getfield 43, 3) := by decide +kernel
theorem dX8_latest_36 : decode cX8_latest 36 = .ok (.iconst 1, 1) := by decide +kernel
theorem dX8_latest_37 : decode cX8_latest 37 = .ok (.isub, 1) := by decide +kernel
theorem dX8_latest_38 : decode cX8_latest 38 = .ok (.istore 5, 2) := by decide +kernel
theorem dX8_latest_40 : decode cX8_latest 40 = .ok (.iload 5, 2) := by decide +kernel
theorem dX8_latest_42 : decode cX8_latest 42 = .ok (.ifCond .lt 43, 3) := by decide +kernel
theorem dX8_latest_45 : decode cX8_latest 45 = .ok (.iload 4, 2) := by decide +kernel
theorem dX8_latest_47 : decode cX8_latest 47 = .ok (.ifCond .ge 38, 3) := by decide +kernel
theorem dX8_latest_50 : decode cX8_latest 50 = .ok (.aload_n 0, 1) := by decide +kernel
theorem dX8_latest_51 : decode cX8_latest 51 = .ok (.getfield 34, 3) := by decide +kernel
theorem dX8_latest_54 : decode cX8_latest 54 = .ok (.iload_n 1, 1) := by decide +kernel
theorem dX8_latest_55 : decode cX8_latest 55 = .ok (.iload 5, 2) := by decide +kernel
theorem dX8_latest_57 : decode cX8_latest 57 = .ok (.iastore, 1) := by decide +kernel
theorem dX8_latest_58 : decode cX8_latest 58 = .ok (.aload_n 0, 1) := by decide +kernel
theorem dX8_latest_59 : decode cX8_latest 59 = .ok (.iload_n 1, 1) := by decide +kernel
theorem dX8_latest_60 : decode cX8_latest 60 = .ok (.aload_n 0, 1) := by decide +kernel
theorem dX8_latest_61 : decode cX8_latest 61 = .ok (.getfield 143, 3) := by decide +kernel
theorem dX8_latest_64 : decode cX8_latest 64 = .ok (.invokevirtual 292, 3) := by decide +kernel
theorem dX8_latest_67 : decode cX8_latest 67 = .ok (.aload_n 0, 1) := by decide +kernel
theorem dX8_latest_68 : decode cX8_latest 68 = .ok (.invokevirtual 295, 3) := by decide +kernel
theorem dX8_latest_71 : decode cX8_latest 71 = .ok (.iload_n 2, 1) := by decide +kernel
theorem dX8_latest_72 : decode cX8_latest 72 = .ok (.if_icmp .gt 7, 3) := by decide +kernel
theorem dX8_latest_75 : decode cX8_latest 75 = .ok (.iload 5, 2) := by decide +kernel
theorem dX8_latest_77 : decode cX8_latest 77 = .ok (.istore 4, 2) := by decide +kernel
theorem dX8_latest_79 : decode cX8_latest 79 = .ok (.iinc 5 (-1), 3) := by decide +kernel
theorem dX8_latest_82 : decode cX8_latest 82 = .ok (.goto (-42), 3) := by decide +kernel
theorem dX8_latest_85 : decode cX8_latest 85 = .ok (.aload_n 0, 1) := by decide +kernel
theorem dX8_latest_86 : decode cX8_latest 86 = .ok (.getfield 34, 3) := by decide +kernel
theorem dX8_latest_89 : decode cX8_latest 89 = .ok (.iload_n 1, 1) := by decide +kernel
theorem dX8_latest_90 : decode cX8_latest 90 = .ok (.iload_n 3, 1) := by decide +kernel
theorem dX8_latest_91 : decode cX8_latest 91 = .ok (.iastore, 1) := by decide +kernel
theorem dX8_latest_92 : decode cX8_latest 92 = .ok (.iload 4, 2) := by decide +kernel
theorem dX8_latest_94 : decode cX8_latest 94 = .ok (.ireturn, 1) := by decide +kernel
theorem dX8_more_0 : decode cX8_more 0 = .ok (.aload_n 0, 1) := by decide +kernel
theorem dX8_more_1 : decode cX8_more 1 = .ok (.iload_n 1, 1) := by decide +kernel
theorem dX8_more_2 : decode cX8_more 2 = .ok (.invokevirtual 152, 3) := by decide +kernel
theorem dX8_more_5 : decode cX8_more 5 = .ok (.ifCond .eq 21, 3) := by decide +kernel
theorem dX8_more_8 : decode cX8_more 8 = .ok (.iload_n 2, 1) := by decide +kernel
theorem dX8_more_9 : decode cX8_more 9 = .ok (.iconst 0, 1) := by decide +kernel
theorem dX8_more_10 : decode cX8_more 10 = .ok (.sipush 2400, 3) := by decide +kernel
theorem dX8_more_13 : decode cX8_more 13 = .ok (.invokestatic 132, 3) := by decide +kernel
theorem dX8_more_16 : decode cX8_more 16 = .ok (.ifCond .eq 10, 3) := by decide +kernel
theorem dX8_more_19 : decode cX8_more 19 = .ok (.aload_n 0, 1) := by decide +kernel
theorem dX8_more_20 : decode cX8_more 20 = .ok (.getfield 143, 3) := by decide +kernel
theorem dX8_more_23 : decode cX8_more 23 = .ok (.ifCond .ne 6, 3) := by decide +kernel
theorem dX8_more_26 : decode cX8_more 26 = .ok (.bipush (-2), 2) := by decide +kernel
theorem dX8_more_28 : decode cX8_more 28 = .ok (.ireturn, 1) := by decide +kernel
theorem dX8_more_29 : decode cX8_more 29 = .ok (.iconst 0, 1) := by decide +kernel
theorem dX8_more_30 : decode cX8_more 30 = .ok (.istore_n 3, 1) := by decide +kernel
theorem dX8_more_31 : decode cX8_more 31 = .ok (.iload_n 3, 1) := by decide +kernel
theorem dX8_more_32 : decode cX8_more 32 = .ok (.bipush 20, 2) := by decide +kernel
theorem dX8_more_34 : decode cX8_more 34 = .ok (.if_icmp .gt 91, 3) := by decide +kernel
theorem dX8_more_37 : decode cX8_more 37 = .ok (.iload_n 3, 1) := by decide +kernel
theorem dX8_more_38 : decode cX8_more 38 = .ok (.ifCond .le 60, 3) := by decide +kernel
theorem dX8_more_41 : decode cX8_more 41 = .ok (.aload_n 0, 1) := by decide +kernel
theorem dX8_more_42 : decode cX8_more 42 = .ok (.getfield 22, 3) := by decide +kernel
theorem dX8_more_45 : decode cX8_more 45 = .ok (.aload_n 0, 1) := by decide +kernel
theorem dX8_more_46 : decode cX8_more 46 = .ok (.getfield 143, 3) := by decide +kernel
theorem dX8_more_49 : decode cX8_more 49 = .ok (.iload_n 3, 1) := by decide +kernel
theorem dX8_more_50 : decode cX8_more 50 = .ok (.iadd, 1) := by decide +kernel
theorem dX8_more_51 : decode cX8_more 51 = .ok (.iconst 1, 1) := by decide +kernel
theorem dX8_more_52 : decode cX8_more 52 = .ok (.isub, 1) := by decide +kernel
theorem dX8_more_53 : decode cX8_more 53 = .ok (.aload_n 0, 1) := by decide +kernel
theorem dX8_more_54 : decode cX8_more 54 = .ok (.getfield 22, 3) := by decide +kernel
theorem dX8_more_57 : decode cX8_more 57 = .ok (.iconst 0, 1) := by decide +kernel
theorem dX8_more_58 : decode cX8_more 58 = .ok (.iaload, 1) := by decide +kernel
theorem dX8_more_59 : decode cX8_more 59 = .ok (.iastore, 1) := by decide +kernel
theorem dX8_more_60 : decode cX8_more 60 = .ok (.aload_n 0, 1) := by decide +kernel
theorem dX8_more_61 : decode cX8_more 61 = .ok (.getfield 25, 3) := by decide +kernel
theorem dX8_more_64 : decode cX8_more 64 = .ok (.aload_n 0, 1) := by decide +kernel
theorem dX8_more_65 : decode cX8_more 65 = .ok (.getfield 143, 3) := by decide +kernel
theorem dX8_more_68 : decode cX8_more 68 = .ok (.iload_n 3, 1) := by decide +kernel
theorem dX8_more_69 : decode cX8_more 69 = .ok (.iadd, 1) := by decide +kernel
theorem dX8_more_70 : decode cX8_more 70 = .ok (.iconst 1, 1) := by decide +kernel
theorem dX8_more_71 : decode cX8_more 71 = .ok (.isub, 1) := by decide +kernel
theorem dX8_more_72 : decode cX8_more 72 = .ok (.aload_n 0, 1) := by decide +kernel
theorem dX8_more_73 : decode cX8_more 73 = .ok (.getfield 25, 3) := by decide +kernel
theorem dX8_more_76 : decode cX8_more 76 = .ok (.iconst 0, 1) := by decide +kernel
theorem dX8_more_77 : decode cX8_more 77 = .ok (.iaload, 1) := by decide +kernel
theorem dX8_more_78 : decode cX8_more 78 = .ok (.iastore, 1) := by decide +kernel
theorem dX8_more_79 : decode cX8_more 79 = .ok (.aload_n 0, 1) := by decide +kernel
theorem dX8_more_80 : decode cX8_more 80 = .ok (.getfield 28, 3) := by decide +kernel
theorem dX8_more_83 : decode cX8_more 83 = .ok (.aload_n 0, 1) := by decide +kernel
theorem dX8_more_84 : decode cX8_more 84 = .ok (.getfield 143, 3) := by decide +kernel
theorem dX8_more_87 : decode cX8_more 87 = .ok (.iload_n 3, 1) := by decide +kernel
theorem dX8_more_88 : decode cX8_more 88 = .ok (.iadd, 1) := by decide +kernel
theorem dX8_more_89 : decode cX8_more 89 = .ok (.iconst 1, 1) := by decide +kernel
theorem dX8_more_90 : decode cX8_more 90 = .ok (.isub, 1) := by decide +kernel
theorem dX8_more_91 : decode cX8_more 91 = .ok (.aload_n 0, 1) := by decide +kernel
theorem dX8_more_92 : decode cX8_more 92 = .ok (.getfield 28, 3) := by decide +kernel
theorem dX8_more_95 : decode cX8_more 95 = .ok (.iconst 0, 1) := by decide +kernel
theorem dX8_more_96 : decode cX8_more 96 = .ok (.iaload, 1) := by decide +kernel
theorem dX8_more_97 : decode cX8_more 97 = .ok (.iastore, 1) := by decide +kernel
theorem dX8_more_98 : decode cX8_more 98 = .ok (.aload_n 0, 1) := by decide +kernel
theorem dX8_more_99 : decode cX8_more 99 = .ok (.iload_n 1, 1) := by decide +kernel
theorem dX8_more_100 : decode cX8_more 100 = .ok (.aload_n 0, 1) := by decide +kernel
theorem dX8_more_101 : decode cX8_more 101 = .ok (.getfield 143, 3) := by decide +kernel
theorem dX8_more_104 : decode cX8_more 104 = .ok (.iload_n 3, 1) := by decide +kernel
theorem dX8_more_105 : decode cX8_more 105 = .ok (.iadd, 1) := by decide +kernel
theorem dX8_more_106 : decode cX8_more 106 = .ok (.invokevirtual 292, 3) := by decide +kernel
theorem dX8_more_109 : decode cX8_more 109 = .ok (.aload_n 0, 1) := by decide +kernel
theorem dX8_more_110 : decode cX8_more 110 = .ok (.invokevirtual 295, 3) := by decide +kernel
theorem dX8_more_113 : decode cX8_more 113 = .ok (.iload_n 2, 1) := by decide +kernel
theorem dX8_more_114 : decode cX8_more 114 = .ok (.if_icmp .gt 5, 3) := by decide +kernel
theorem dX8_more_117 : decode cX8_more 117 = .ok (.iload_n 3, 1) := by decide +kernel
theorem dX8_more_118 : decode cX8_more 118 = .ok (.ireturn, 1) := by decide +kernel
theorem dX8_more_119 : decode cX8_more 119 = .ok (.iinc 3 1, 3) := by decide +kernel
theorem dX8_more_122 : decode cX8_more 122 = .ok (.goto (-91), 3) := by decide +kernel
theorem dX8_more_125 : decode cX8_more 125 = .ok (.iconst (-1), 1) := by decide +kernel
theorem dX8_more_126 : decode cX8_more 126 = .ok (.ireturn, 1) := by decide +kernel
theorem dX8_choose_0 : decode cX8_choose 0 = .ok (.iload_n 1, 1) := by decide +kernel
theorem dX8_choose_1 : decode cX8_choose 1 = .ok (.iconst 0, 1) := by decide +kernel
theorem dX8_choose_2 : decode cX8_choose 2 = .ok (.iconst 1, 1) := by decide +kernel
theorem dX8_choose_3 : decode cX8_choose 3 = .ok (.invokestatic 132, 3) := by decide +kernel
theorem dX8_choose_6 : decode cX8_choose 6 = .ok (.ifCond .eq 10, 3) := by decide +kernel
theorem dX8_choose_9 : decode cX8_choose 9 = .ok (.aload_n 0, 1) := by decide +kernel
theorem dX8_choose_10 : decode cX8_choose 10 = .ok (.getfield 136, 3) := by decide +kernel
theorem dX8_choose_13 : decode cX8_choose 13 = .ok (.ifCond .ne 7, 3) := by decide +kernel
theorem dX8_choose_16 : decode cX8_choose 16 = .ok (.ldc2_w 302, 3) := by decide +kernel
theorem dX8_choose_19 : decode cX8_choose 19 = .ok (.lreturn, 1) := by decide +kernel
theorem dX8_choose_20 : decode cX8_choose 20 = .ok (.iconst 0, 1) := by decide +kernel
theorem dX8_choose_21 : decode cX8_choose 21 = .ok (.istore_n 2, 1) := by decide +kernel
theorem dX8_choose_22 : decode cX8_choose 22 = .ok (.lconst 0, 1) := by decide +kernel
theorem dX8_choose_23 : decode cX8_choose 23 = .ok (.lstore_n 3, 1) := by decide +kernel
theorem dX8_choose_24 : decode cX8_choose 24 = .ok (.iconst 0, 1) := by decide +kernel
theorem dX8_choose_25 : decode cX8_choose 25 = .ok (.istore 5, 2) := by decide +kernel
theorem dX8_choose_27 : decode cX8_choose 27 = .ok (.iload 5, 2) := by decide +kernel
theorem dX8_choose_29 : decode cX8_choose 29 = .ok (.aload_n 0, 1) := by decide +kernel
theorem dX8_choose_30 : decode cX8_choose 30 = .ok (.getfield 136, 3) := by decide +kernel
theorem dX8_choose_33 : decode cX8_choose 33 = .ok (.if_icmp .ge 38, 3) := by decide +kernel
theorem dX8_choose_36 : decode cX8_choose 36 = .ok (.aload_n 0, 1) := by decide +kernel
theorem dX8_choose_37 : decode cX8_choose 37 = .ok (.iload 5, 2) := by decide +kernel
theorem dX8_choose_39 : decode cX8_choose 39 = .ok (.invokevirtual 298, 3) := by decide +kernel
theorem dX8_choose_42 : decode cX8_choose 42 = .ok (.lstore 6, 2) := by decide +kernel
theorem dX8_choose_44 : decode cX8_choose 44 = .ok (.iload 5, 2) := by decide +kernel
theorem dX8_choose_46 : decode cX8_choose 46 = .ok (.ifCond .le 13, 3) := by decide +kernel
theorem dX8_choose_49 : decode cX8_choose 49 = .ok (.lload 6, 2) := by decide +kernel
theorem dX8_choose_51 : decode cX8_choose 51 = .ok (.lload_n 3, 1) := by decide +kernel
theorem dX8_choose_52 : decode cX8_choose 52 = .ok (.lcmp, 1) := by decide +kernel
theorem dX8_choose_53 : decode cX8_choose 53 = .ok (.ifCond .lt 6, 3) := by decide +kernel
theorem dX8_choose_56 : decode cX8_choose 56 = .ok (.goto 9, 3) := by decide +kernel
theorem dX8_choose_59 : decode cX8_choose 59 = .ok (.iload 5, 2) := by decide +kernel
theorem dX8_choose_61 : decode cX8_choose 61 = .ok (.istore_n 2, 1) := by decide +kernel
theorem dX8_choose_62 : decode cX8_choose 62 = .ok (.lload 6, 2) := by decide +kernel
theorem dX8_choose_64 : decode cX8_choose 64 = .ok (.lstore_n 3, 1) := by decide +kernel
theorem dX8_choose_65 : decode cX8_choose 65 = .ok (.iinc 5 1, 3) := by decide +kernel
theorem dX8_choose_68 : decode cX8_choose 68 = .ok (.goto (-41), 3) := by decide +kernel
theorem dX8_choose_71 : decode cX8_choose 71 = .ok (.iload_n 1, 1) := by decide +kernel
theorem dX8_choose_72 : decode cX8_choose 72 = .ok (.ifCond .ne 8, 3) := by decide +kernel
theorem dX8_choose_75 : decode cX8_choose 75 = .ok (.iload_n 2, 1) := by decide +kernel
theorem dX8_choose_76 : decode cX8_choose 76 = .ok (.i2l, 1) := by decide +kernel
theorem dX8_choose_77 : decode cX8_choose 77 = .ok (.goto 4, 3) := by decide +kernel
theorem dX8_choose_80 : decode cX8_choose 80 = .ok (.lload_n 3, 1) := by decide +kernel
theorem dX8_choose_81 : decode cX8_choose 81 = .ok (.lreturn, 1) := by decide +kernel
theorem dX8_must_0 : decode cX8_must 0 = .ok (.iconst 0, 1) := by decide +kernel
theorem dX8_must_1 : decode cX8_must 1 = .ok (.istore_n 1, 1) := by decide +kernel
theorem dX8_must_2 : decode cX8_must 2 = .ok (.iconst 0, 1) := by decide +kernel
theorem dX8_must_3 : decode cX8_must 3 = .ok (.istore_n 2, 1) := by decide +kernel
theorem dX8_must_4 : decode cX8_must 4 = .ok (.iload_n 2, 1) := by decide +kernel
theorem dX8_must_5 : decode cX8_must 5 = .ok (.aload_n 0, 1) := by decide +kernel
theorem dX8_must_6 : decode cX8_must 6 = .ok (.getfield 143, 3) := by decide +kernel
theorem dX8_must_9 : decode cX8_must 9 = .ok (.if_icmp .ge 43, 3) := by decide +kernel
theorem dX8_must_12 : decode cX8_must 12 = .ok (.iconst 0, 1) := by decide +kernel
theorem dX8_must_13 : decode cX8_must 13 = .ok (.istore_n 3, 1) := by decide +kernel
theorem dX8_must_14 : decode cX8_must 14 = .ok (.iload_n 3, 1) := by decide +kernel
theorem dX8_must_15 : decode cX8_must 15 = .ok (.aload_n 0, 1) := by decide +kernel
theorem dX8_must_16 : decode cX8_must 16 = .ok (.getfield 43, 3) := by decide +kernel
theorem dX8_must_19 : decode cX8_must 19 = .ok (.if_icmp .ge 27, 3) := by decide +kernel
theorem dX8_must_22 : decode cX8_must 22 = .ok (.aload_n 0, 1) := by decide +kernel
theorem dX8_must_23 : decode cX8_must 23 = .ok (.iload_n 2, 1) := by decide +kernel
theorem dX8_must_24 : decode cX8_must 24 = .ok (.iload_n 3, 1) := by decide +kernel
theorem dX8_must_25 : decode cX8_must 25 = .ok (.invokevirtual 269, 3) := by decide +kernel
theorem dX8_must_28 : decode cX8_must 28 = .ok (.ifCond .eq 12, 3) := by decide +kernel
theorem dX8_must_31 : decode cX8_must 31 = .ok (.iload_n 1, 1) := by decide +kernel
theorem dX8_must_32 : decode cX8_must 32 = .ok (.aload_n 0, 1) := by decide +kernel
theorem dX8_must_33 : decode cX8_must 33 = .ok (.getfield 22, 3) := by decide +kernel
theorem dX8_must_36 : decode cX8_must 36 = .ok (.iload_n 2, 1) := by decide +kernel
theorem dX8_must_37 : decode cX8_must 37 = .ok (.iaload, 1) := by decide +kernel
theorem dX8_must_38 : decode cX8_must 38 = .ok (.iadd, 1) := by decide +kernel
theorem dX8_must_39 : decode cX8_must 39 = .ok (.istore_n 1, 1) := by decide +kernel
theorem dX8_must_40 : decode cX8_must 40 = .ok (.iinc 3 1, 3) := by decide +kernel
theorem dX8_must_43 : decode cX8_must 43 = .ok (.goto (-29), 3) := by decide +kernel
theorem dX8_must_46 : decode cX8_must 46 = .ok (.iinc 2 1, 3) := by decide +kernel
theorem dX8_must_49 : decode cX8_must 49 = .ok (.goto (-45), 3) := by decide +kernel
theorem dX8_must_52 : decode cX8_must 52 = .ok (.iconst 0, 1) := by decide +kernel
theorem dX8_must_53 : decode cX8_must 53 = .ok (.istore_n 2, 1) := by decide +kernel
theorem dX8_must_54 : decode cX8_must 54 = .ok (.iload_n 2, 1) := by decide +kernel
theorem dX8_must_55 : decode cX8_must 55 = .ok (.aload_n 0, 1) := by decide +kernel
theorem dX8_must_56 : decode cX8_must 56 = .ok (.getfield 129, 3) := by decide +kernel
theorem dX8_must_59 : decode cX8_must 59 = .ok (.if_icmp .ge 18, 3) := by decide +kernel
theorem dX8_must_62 : decode cX8_must 62 = .ok (.iload_n 1, 1) := by decide +kernel
theorem dX8_must_63 : decode cX8_must 63 = .ok (.aload_n 0, 1) := by decide +kernel
theorem dX8_must_64 : decode cX8_must 64 = .ok (.getfield 7, 3) := by decide +kernel
theorem dX8_must_67 : decode cX8_must 67 = .ok (.iload_n 2, 1) := by decide +kernel
theorem dX8_must_68 : decode cX8_must 68 = .ok (.iaload, 1) := by decide +kernel
theorem dX8_must_69 : decode cX8_must 69 = .ok (.isub, 1) := by decide +kernel
theorem dX8_must_70 : decode cX8_must 70 = .ok (.istore_n 1, 1) := by decide +kernel
theorem dX8_must_71 : decode cX8_must 71 = .ok (.iinc 2 1, 3) := by decide +kernel
theorem dX8_must_74 : decode cX8_must 74 = .ok (.goto (-20), 3) := by decide +kernel
theorem dX8_must_77 : decode cX8_must 77 = .ok (.iload_n 1, 1) := by decide +kernel
theorem dX8_must_78 : decode cX8_must 78 = .ok (.ireturn, 1) := by decide +kernel
theorem dX8_latestUp_0 : decode cX8_latestUp 0 = .ok (.aload_n 0, 1) := by decide +kernel
theorem dX8_latestUp_1 : decode cX8_latestUp 1 = .ok (.iload_n 1, 1) := by decide +kernel
theorem dX8_latestUp_2 : decode cX8_latestUp 2 = .ok (.invokevirtual 146, 3) := by decide +kernel
theorem dX8_latestUp_5 : decode cX8_latestUp 5 = .ok (.ifCond .ne 6, 3) := by decide +kernel
theorem dX8_latestUp_8 : decode cX8_latestUp 8 = .ok (.bipush (-2), 2) := by decide +kernel
theorem dX8_latestUp_10 : decode cX8_latestUp 10 = .ok (.ireturn, 1) := by decide +kernel
theorem dX8_latestUp_11 : decode cX8_latestUp 11 = .ok (.iconst (-1), 1) := by decide +kernel
theorem dX8_latestUp_12 : decode cX8_latestUp 12 = .ok (.istore_n 2, 1) := by decide +kernel
theorem dX8_latestUp_13 : decode cX8_latestUp 13 = .ok (.iconst 0, 1) := by decide +kernel
theorem dX8_latestUp_14 : decode cX8_latestUp 14 = .ok (.istore_n 3, 1) := by decide +kernel
theorem dX8_latestUp_15 : decode cX8_latestUp 15 = .ok (.iload_n 3, 1) := by decide +kernel
theorem dX8_latestUp_16 : decode cX8_latestUp 16 = .ok (.aload_n 0, 1) := by decide +kernel
theorem dX8_latestUp_17 : decode cX8_latestUp 17 = .ok (.getfield 143, 3) := by decide +kernel
theorem dX8_latestUp_20 : decode cX8_latestUp 20 = .ok (.if_icmp .ge 46, 3) := by decide +kernel
theorem dX8_latestUp_23 : decode cX8_latestUp 23 = .ok (.iconst 0, 1) := by decide +kernel
theorem dX8_latestUp_24 : decode cX8_latestUp 24 = .ok (.istore 4, 2) := by decide +kernel
theorem dX8_latestUp_26 : decode cX8_latestUp 26 = .ok (.iload 4, 2) := by decide +kernel
theorem dX8_latestUp_28 : decode cX8_latestUp 28 = .ok (.aload_n 0, 1) := by decide +kernel
theorem dX8_latestUp_29 : decode cX8_latestUp 29 = .ok (.getfield 43, 3) := by decide +kernel
theorem dX8_latestUp_32 : decode cX8_latestUp 32 = .ok (.if_icmp .ge 28, 3) := by decide +kernel
theorem dX8_latestUp_35 : decode cX8_latestUp 35 = .ok (.aload_n 0, 1) := by decide +kernel
theorem dX8_latestUp_36 : decode cX8_latestUp 36 = .ok (.iload_n 3, 1) := by decide +kernel
theorem dX8_latestUp_37 : decode cX8_latestUp 37 = .ok (.iload 4, 2) := by decide +kernel
theorem dX8_latestUp_39 : decode cX8_latestUp 39 = .ok (.invokevirtual 269, 3) := by decide +kernel
theorem dX8_latestUp_42 : decode cX8_latestUp 42 = .ok (.ifCond .eq 12, 3) := by decide +kernel
theorem dX8_latestUp_45 : decode cX8_latestUp 45 = .ok (.iload 4, 2) := by decide +kernel
theorem dX8_latestUp_47 : decode cX8_latestUp 47 = .ok (.iload_n 2, 1) := by decide +kernel
theorem dX8_latestUp_48 : decode cX8_latestUp 48 = .ok (.if_icmp .le 6, 3) := by decide +kernel
theorem dX8_latestUp_51 : decode cX8_latestUp 51 = .ok (.iload 4, 2) := by decide +kernel
theorem dX8_latestUp_53 : decode cX8_latestUp 53 = .ok (.istore_n 2, 1) := by decide +kernel
theorem dX8_latestUp_54 : decode cX8_latestUp 54 = .ok (.iinc 4 1, 3) := by decide +kernel
theorem dX8_latestUp_57 : decode cX8_latestUp 57 = .ok (.goto (-31), 3) := by decide +kernel
theorem dX8_latestUp_60 : decode cX8_latestUp 60 = .ok (.iinc 3 1, 3) := by decide +kernel
theorem dX8_latestUp_63 : decode cX8_latestUp 63 = .ok (.goto (-48), 3) := by decide +kernel
theorem dX8_latestUp_66 : decode cX8_latestUp 66 = .ok (.iload_n 2, 1) := by decide +kernel
theorem dX8_latestUp_67 : decode cX8_latestUp 67 = .ok (.aload_n 0, 1) := by decide +kernel
theorem dX8_latestUp_68 : decode cX8_latestUp 68 = .ok (.getfield 13, 3) := by decide +kernel
theorem dX8_latestUp_71 : decode cX8_latestUp 71 = .ok (.iload_n 1, 1) := by decide +kernel
theorem dX8_latestUp_72 : decode cX8_latestUp 72 = .ok (.iaload, 1) := by decide +kernel
theorem dX8_latestUp_73 : decode cX8_latestUp 73 = .ok (.if_icmp .ge 7, 3) := by decide +kernel
theorem dX8_latestUp_76 : decode cX8_latestUp 76 = .ok (.iconst (-1), 1) := by decide +kernel
theorem dX8_latestUp_77 : decode cX8_latestUp 77 = .ok (.goto 11, 3) := by decide +kernel
theorem dX8_latestUp_80 : decode cX8_latestUp 80 = .ok (.iload_n 2, 1) := by decide +kernel
theorem dX8_latestUp_81 : decode cX8_latestUp 81 = .ok (.aload_n 0, 1) := by decide +kernel
theorem dX8_latestUp_82 : decode cX8_latestUp 82 = .ok (.getfield 13, 3) := by decide +kernel
theorem dX8_latestUp_85 : decode cX8_latestUp 85 = .ok (.iload_n 1, 1) := by decide +kernel
theorem dX8_latestUp_86 : decode cX8_latestUp 86 = .ok (.iaload, 1) := by decide +kernel
theorem dX8_latestUp_87 : decode cX8_latestUp 87 = .ok (.isub, 1) := by decide +kernel
theorem dX8_latestUp_88 : decode cX8_latestUp 88 = .ok (.ireturn, 1) := by decide +kernel
theorem dX8_judge_0 : decode cX8_judge 0 = .ok (.iload_n 1, 1) := by decide +kernel
theorem dX8_judge_1 : decode cX8_judge 1 = .ok (.invokestatic 304, 3) := by decide +kernel
theorem dX8_judge_4 : decode cX8_judge 4 = .ok (.ifCond .ne 6, 3) := by decide +kernel
theorem dX8_judge_7 : decode cX8_judge 7 = .ok (.bipush (-2), 2) := by decide +kernel
theorem dX8_judge_9 : decode cX8_judge 9 = .ok (.ireturn, 1) := by decide +kernel
theorem dX8_judge_10 : decode cX8_judge 10 = .ok (.aload_n 0, 1) := by decide +kernel
theorem dX8_judge_11 : decode cX8_judge 11 = .ok (.getfield 114, 3) := by decide +kernel
theorem dX8_judge_14 : decode cX8_judge 14 = .ok (.iload_n 1, 1) := by decide +kernel
theorem dX8_judge_15 : decode cX8_judge 15 = .ok (.iaload, 1) := by decide +kernel
theorem dX8_judge_16 : decode cX8_judge 16 = .ok (.ifCond .ge 6, 3) := by decide +kernel
theorem dX8_judge_19 : decode cX8_judge 19 = .ok (.bipush (-11), 2) := by decide +kernel
theorem dX8_judge_21 : decode cX8_judge 21 = .ok (.ireturn, 1) := by decide +kernel
theorem dX8_judge_22 : decode cX8_judge 22 = .ok (.iconst 0, 1) := by decide +kernel
theorem dX8_judge_23 : decode cX8_judge 23 = .ok (.istore_n 2, 1) := by decide +kernel
theorem dX8_judge_24 : decode cX8_judge 24 = .ok (.iload_n 2, 1) := by decide +kernel
theorem dX8_judge_25 : decode cX8_judge 25 = .ok (.aload_n 0, 1) := by decide +kernel
theorem dX8_judge_26 : decode cX8_judge 26 = .ok (.getfield 117, 3) := by decide +kernel
theorem dX8_judge_29 : decode cX8_judge 29 = .ok (.iload_n 1, 1) := by decide +kernel
theorem dX8_judge_30 : decode cX8_judge 30 = .ok (.iaload, 1) := by decide +kernel
theorem dX8_judge_31 : decode cX8_judge 31 = .ok (.if_icmp .ge 32, 3) := by decide +kernel
theorem dX8_judge_34 : decode cX8_judge 34 = .ok (.aload_n 0, 1) := by decide +kernel
theorem dX8_judge_35 : decode cX8_judge 35 = .ok (.getfield 120, 3) := by decide +kernel
theorem dX8_judge_38 : decode cX8_judge 38 = .ok (.bipush 40, 2) := by decide +kernel
theorem dX8_judge_40 : decode cX8_judge 40 = .ok (.iload_n 1, 1) := by decide +kernel
theorem dX8_judge_41 : decode cX8_judge 41 = .ok (.imul, 1) := by decide +kernel
theorem dX8_judge_42 : decode cX8_judge 42 = .ok (.iload_n 2, 1) := by decide +kernel
theorem dX8_judge_43 : decode cX8_judge 43 = .ok (.iadd, 1) := by decide +kernel
theorem dX8_judge_44 : decode cX8_judge 44 = .ok (.iaload, 1) := by decide +kernel
theorem dX8_judge_45 : decode cX8_judge 45 = .ok (.iconst 0, 1) := by decide +kernel
theorem dX8_judge_46 : decode cX8_judge 46 = .ok (.bipush 99, 2) := by decide +kernel
theorem dX8_judge_48 : decode cX8_judge 48 = .ok (.invokestatic 132, 3) := by decide +kernel
theorem dX8_judge_51 : decode cX8_judge 51 = .ok (.ifCond .ne 6, 3) := by decide +kernel
theorem dX8_judge_54 : decode cX8_judge 54 = .ok (.bipush (-2), 2) := by decide +kernel
theorem dX8_judge_56 : decode cX8_judge 56 = .ok (.ireturn, 1) := by decide +kernel
theorem dX8_judge_57 : decode cX8_judge 57 = .ok (.iinc 2 1, 3) := by decide +kernel
theorem dX8_judge_60 : decode cX8_judge 60 = .ok (.goto (-36), 3) := by decide +kernel
theorem dX8_judge_63 : decode cX8_judge 63 = .ok (.aload_n 0, 1) := by decide +kernel
theorem dX8_judge_64 : decode cX8_judge 64 = .ok (.iload_n 1, 1) := by decide +kernel
theorem dX8_judge_65 : decode cX8_judge 65 = .ok (.putfield 50, 3) := by decide +kernel
theorem dX8_judge_68 : decode cX8_judge 68 = .ok (.aload_n 0, 1) := by decide +kernel
theorem dX8_judge_69 : decode cX8_judge 69 = .ok (.iconst 0, 1) := by decide +kernel
theorem dX8_judge_70 : decode cX8_judge 70 = .ok (.aload_n 0, 1) := by decide +kernel
theorem dX8_judge_71 : decode cX8_judge 71 = .ok (.getfield 143, 3) := by decide +kernel
theorem dX8_judge_74 : decode cX8_judge 74 = .ok (.invokevirtual 292, 3) := by decide +kernel
theorem dX8_judge_77 : decode cX8_judge 77 = .ok (.aload_n 0, 1) := by decide +kernel
theorem dX8_judge_78 : decode cX8_judge 78 = .ok (.iconst (-1), 1) := by decide +kernel
theorem dX8_judge_79 : decode cX8_judge 79 = .ok (.putfield 50, 3) := by decide +kernel
theorem dX8_judge_82 : decode cX8_judge 82 = .ok (.aload_n 0, 1) := by decide +kernel
theorem dX8_judge_83 : decode cX8_judge 83 = .ok (.invokevirtual 295, 3) := by decide +kernel
theorem dX8_judge_86 : decode cX8_judge 86 = .ok (.ireturn, 1) := by decide +kernel
theorem dX8_image_0 : decode cX8_image 0 = .ok (.aload_n 0, 1) := by decide +kernel
theorem dX8_image_1 : decode cX8_image 1 = .ok (.iconst 1, 1) := by decide +kernel
theorem dX8_image_2 : decode cX8_image 2 = .ok (.putfield 307, 3) := by decide +kernel
theorem dX8_image_5 : decode cX8_image 5 = .ok (.aload_n 0, 1) := by decide +kernel
theorem dX8_image_6 : decode cX8_image 6 = .ok (.aload_n 0, 1) := by decide +kernel
theorem dX8_image_7 : decode cX8_image 7 = .ok (.getfield 43, 3) := by decide +kernel
theorem dX8_image_10 : decode cX8_image 10 = .ok (.putfield 311, 3) := by decide +kernel
theorem dX8_image_13 : decode cX8_image 13 = .ok (.aload_n 0, 1) := by decide +kernel
theorem dX8_image_14 : decode cX8_image 14 = .ok (.aload_n 0, 1) := by decide +kernel
theorem dX8_image_15 : decode cX8_image 15 = .ok (.getfield 47, 3) := by decide +kernel
theorem dX8_image_18 : decode cX8_image 18 = .ok (.putfield 314, 3) := by decide +kernel
theorem dX8_image_21 : decode cX8_image 21 = .ok (.aload_n 0, 1) := by decide +kernel
theorem dX8_image_22 : decode cX8_image 22 = .ok (.aload_n 0, 1) := by decide +kernel
theorem dX8_image_23 : decode cX8_image 23 = .ok (.getfield 149, 3) := by decide +kernel
theorem dX8_image_26 : decode cX8_image 26 = .ok (.putfield 317, 3) := by decide +kernel
theorem dX8_image_29 : decode cX8_image 29 = .ok (.aload_n 0, 1) := by decide +kernel
theorem dX8_image_30 : decode cX8_image 30 = .ok (.aload_n 0, 1) := by decide +kernel
theorem dX8_image_31 : decode cX8_image 31 = .ok (.getfield 238, 3) := by decide +kernel
theorem dX8_image_34 : decode cX8_image 34 = .ok (.putfield 320, 3) := by decide +kernel
theorem dX8_image_37 : decode cX8_image 37 = .ok (.aload_n 0, 1) := by decide +kernel
theorem dX8_image_38 : decode cX8_image 38 = .ok (.aload_n 0, 1) := by decide +kernel
theorem dX8_image_39 : decode cX8_image 39 = .ok (.getfield 129, 3) := by decide +kernel
theorem dX8_image_42 : decode cX8_image 42 = .ok (.putfield 323, 3) := by decide +kernel
theorem dX8_image_45 : decode cX8_image 45 = .ok (.iconst 0, 1) := by decide +kernel
theorem dX8_image_46 : decode cX8_image 46 = .ok (.istore_n 1, 1) := by decide +kernel
theorem dX8_image_47 : decode cX8_image 47 = .ok (.iload_n 1, 1) := by decide +kernel
theorem dX8_image_48 : decode cX8_image 48 = .ok (.bipush 6, 2) := by decide +kernel
theorem dX8_image_50 : decode cX8_image 50 = .ok (.if_icmp .ge 57, 3) := by decide +kernel
theorem dX8_image_53 : decode cX8_image 53 = .ok (.aload_n 0, 1) := by decide +kernel
theorem dX8_image_54 : decode cX8_image 54 = .ok (.getfield 99, 3) := by decide +kernel
theorem dX8_image_57 : decode cX8_image 57 = .ok (.iload_n 1, 1) := by decide +kernel
theorem dX8_image_58 : decode cX8_image 58 = .ok (.aload_n 0, 1) := by decide +kernel
theorem dX8_image_59 : decode cX8_image 59 = .ok (.getfield 7, 3) := by decide +kernel
theorem dX8_image_62 : decode cX8_image 62 = .ok (.iload_n 1, 1) := by decide +kernel
theorem dX8_image_63 : decode cX8_image 63 = .ok (.iaload, 1) := by decide +kernel
theorem dX8_image_64 : decode cX8_image 64 = .ok (.iastore, 1) := by decide +kernel
theorem dX8_image_65 : decode cX8_image 65 = .ok (.aload_n 0, 1) := by decide +kernel
theorem dX8_image_66 : decode cX8_image 66 = .ok (.getfield 102, 3) := by decide +kernel
theorem dX8_image_69 : decode cX8_image 69 = .ok (.iload_n 1, 1) := by decide +kernel
theorem dX8_image_70 : decode cX8_image 70 = .ok (.aload_n 0, 1) := by decide +kernel
theorem dX8_image_71 : decode cX8_image 71 = .ok (.getfield 13, 3) := by decide +kernel
theorem dX8_image_74 : decode cX8_image 74 = .ok (.iload_n 1, 1) := by decide +kernel
theorem dX8_image_75 : decode cX8_image 75 = .ok (.iaload, 1) := by decide +kernel
theorem dX8_image_76 : decode cX8_image 76 = .ok (.iastore, 1) := by decide +kernel
theorem dX8_image_77 : decode cX8_image 77 = .ok (.aload_n 0, 1) := by decide +kernel
theorem dX8_image_78 : decode cX8_image 78 = .ok (.getfield 105, 3) := by decide +kernel
theorem dX8_image_81 : decode cX8_image 81 = .ok (.iload_n 1, 1) := by decide +kernel
theorem dX8_image_82 : decode cX8_image 82 = .ok (.aload_n 0, 1) := by decide +kernel
theorem dX8_image_83 : decode cX8_image 83 = .ok (.getfield 16, 3) := by decide +kernel
theorem dX8_image_86 : decode cX8_image 86 = .ok (.iload_n 1, 1) := by decide +kernel
theorem dX8_image_87 : decode cX8_image 87 = .ok (.iaload, 1) := by decide +kernel
theorem dX8_image_88 : decode cX8_image 88 = .ok (.iastore, 1) := by decide +kernel
theorem dX8_image_89 : decode cX8_image 89 = .ok (.aload_n 0, 1) := by decide +kernel
theorem dX8_image_90 : decode cX8_image 90 = .ok (.getfield 108, 3) := by decide +kernel
theorem dX8_image_93 : decode cX8_image 93 = .ok (.iload_n 1, 1) := by decide +kernel
theorem dX8_image_94 : decode cX8_image 94 = .ok (.aload_n 0, 1) := by decide +kernel
theorem dX8_image_95 : decode cX8_image 95 = .ok (.getfield 19, 3) := by decide +kernel
theorem dX8_image_98 : decode cX8_image 98 = .ok (.iload_n 1, 1) := by decide +kernel
theorem dX8_image_99 : decode cX8_image 99 = .ok (.iaload, 1) := by decide +kernel
theorem dX8_image_100 : decode cX8_image 100 = .ok (.iastore, 1) := by decide +kernel
theorem dX8_image_101 : decode cX8_image 101 = .ok (.iinc 1 1, 3) := by decide +kernel
theorem dX8_image_104 : decode cX8_image 104 = .ok (.goto (-57), 3) := by decide +kernel
theorem dX8_image_107 : decode cX8_image 107 = .ok (.iconst 0, 1) := by decide +kernel
theorem dX8_image_108 : decode cX8_image 108 = .ok (.istore_n 1, 1) := by decide +kernel
theorem dX8_image_109 : decode cX8_image 109 = .ok (.iload_n 1, 1) := by decide +kernel
theorem dX8_image_110 : decode cX8_image 110 = .ok (.bipush 120, 2) := by decide +kernel
theorem dX8_image_112 : decode cX8_image 112 = .ok (.if_icmp .ge 21, 3) := by decide +kernel
theorem dX8_image_115 : decode cX8_image 115 = .ok (.aload_n 0, 1) := by decide +kernel
theorem dX8_image_116 : decode cX8_image 116 = .ok (.getfield 111, 3) := by decide +kernel
theorem dX8_image_119 : decode cX8_image 119 = .ok (.iload_n 1, 1) := by decide +kernel
theorem dX8_image_120 : decode cX8_image 120 = .ok (.aload_n 0, 1) := by decide +kernel
theorem dX8_image_121 : decode cX8_image 121 = .ok (.getfield 40, 3) := by decide +kernel
theorem dX8_image_124 : decode cX8_image 124 = .ok (.iload_n 1, 1) := by decide +kernel
theorem dX8_image_125 : decode cX8_image 125 = .ok (.iaload, 1) := by decide +kernel
theorem dX8_image_126 : decode cX8_image 126 = .ok (.iastore, 1) := by decide +kernel
theorem dX8_image_127 : decode cX8_image 127 = .ok (.iinc 1 1, 3) := by decide +kernel
theorem dX8_image_130 : decode cX8_image 130 = .ok (.goto (-21), 3) := by decide +kernel
theorem dX8_image_133 : decode cX8_image 133 = .ok (.aload_n 0, 1) := by decide +kernel
theorem dX8_image_134 : decode cX8_image 134 = .ok (.getfield 129, 3) := by decide +kernel
theorem dX8_image_137 : decode cX8_image 137 = .ok (.ireturn, 1) := by decide +kernel
theorem dX8_back_0 : decode cX8_back 0 = .ok (.aload_n 0, 1) := by decide +kernel
theorem dX8_back_1 : decode cX8_back 1 = .ok (.getfield 307, 3) := by decide +kernel
theorem dX8_back_4 : decode cX8_back 4 = .ok (.ifCond .ne 6, 3) := by decide +kernel
theorem dX8_back_7 : decode cX8_back 7 = .ok (.bipush (-3), 2) := by decide +kernel
theorem dX8_back_9 : decode cX8_back 9 = .ok (.ireturn, 1) := by decide +kernel
theorem dX8_back_10 : decode cX8_back 10 = .ok (.aload_n 0, 1) := by decide +kernel
theorem dX8_back_11 : decode cX8_back 11 = .ok (.aload_n 0, 1) := by decide +kernel
theorem dX8_back_12 : decode cX8_back 12 = .ok (.getfield 311, 3) := by decide +kernel
theorem dX8_back_15 : decode cX8_back 15 = .ok (.putfield 43, 3) := by decide +kernel
theorem dX8_back_18 : decode cX8_back 18 = .ok (.aload_n 0, 1) := by decide +kernel
theorem dX8_back_19 : decode cX8_back 19 = .ok (.aload_n 0, 1) := by decide +kernel
theorem dX8_back_20 : decode cX8_back 20 = .ok (.getfield 314, 3) := by decide +kernel
theorem dX8_back_23 : decode cX8_back 23 = .ok (.putfield 47, 3) := by decide +kernel
theorem dX8_back_26 : decode cX8_back 26 = .ok (.aload_n 0, 1) := by decide +kernel
theorem dX8_back_27 : decode cX8_back 27 = .ok (.aload_n 0, 1) := by decide +kernel
theorem dX8_back_28 : decode cX8_back 28 = .ok (.getfield 317, 3) := by decide +kernel
theorem dX8_back_31 : decode cX8_back 31 = .ok (.putfield 149, 3) := by decide +kernel
theorem dX8_back_34 : decode cX8_back 34 = .ok (.aload_n 0, 1) := by decide +kernel
theorem dX8_back_35 : decode cX8_back 35 = .ok (.aload_n 0, 1) := by decide +kernel
theorem dX8_back_36 : decode cX8_back 36 = .ok (.getfield 320, 3) := by decide +kernel
theorem dX8_back_39 : decode cX8_back 39 = .ok (.putfield 238, 3) := by decide +kernel
theorem dX8_back_42 : decode cX8_back 42 = .ok (.iconst 0, 1) := by decide +kernel
theorem dX8_back_43 : decode cX8_back 43 = .ok (.istore_n 1, 1) := by decide +kernel
theorem dX8_back_44 : decode cX8_back 44 = .ok (.iload_n 1, 1) := by decide +kernel
theorem dX8_back_45 : decode cX8_back 45 = .ok (.aload_n 0, 1) := by decide +kernel
theorem dX8_back_46 : decode cX8_back 46 = .ok (.getfield 323, 3) := by decide +kernel
theorem dX8_back_49 : decode cX8_back 49 = .ok (.if_icmp .ge 57, 3) := by decide +kernel
theorem dX8_back_52 : decode cX8_back 52 = .ok (.aload_n 0, 1) := by decide +kernel
theorem dX8_back_53 : decode cX8_back 53 = .ok (.getfield 7, 3) := by decide +kernel
theorem dX8_back_56 : decode cX8_back 56 = .ok (.iload_n 1, 1) := by decide +kernel
theorem dX8_back_57 : decode cX8_back 57 = .ok (.aload_n 0, 1) := by decide +kernel
theorem dX8_back_58 : decode cX8_back 58 = .ok (.getfield 99, 3) := by decide +kernel
theorem dX8_back_61 : decode cX8_back 61 = .ok (.iload_n 1, 1) := by decide +kernel
theorem dX8_back_62 : decode cX8_back 62 = .ok (.iaload, 1) := by decide +kernel
theorem dX8_back_63 : decode cX8_back 63 = .ok (.iastore, 1) := by decide +kernel
theorem dX8_back_64 : decode cX8_back 64 = .ok (.aload_n 0, 1) := by decide +kernel
theorem dX8_back_65 : decode cX8_back 65 = .ok (.getfield 13, 3) := by decide +kernel
theorem dX8_back_68 : decode cX8_back 68 = .ok (.iload_n 1, 1) := by decide +kernel
theorem dX8_back_69 : decode cX8_back 69 = .ok (.aload_n 0, 1) := by decide +kernel
theorem dX8_back_70 : decode cX8_back 70 = .ok (.getfield 102, 3) := by decide +kernel
theorem dX8_back_73 : decode cX8_back 73 = .ok (.iload_n 1, 1) := by decide +kernel
theorem dX8_back_74 : decode cX8_back 74 = .ok (.iaload, 1) := by decide +kernel
theorem dX8_back_75 : decode cX8_back 75 = .ok (.iastore, 1) := by decide +kernel
theorem dX8_back_76 : decode cX8_back 76 = .ok (.aload_n 0, 1) := by decide +kernel
theorem dX8_back_77 : decode cX8_back 77 = .ok (.getfield 16, 3) := by decide +kernel
theorem dX8_back_80 : decode cX8_back 80 = .ok (.iload_n 1, 1) := by decide +kernel
theorem dX8_back_81 : decode cX8_back 81 = .ok (.aload_n 0, 1) := by decide +kernel
theorem dX8_back_82 : decode cX8_back 82 = .ok (.getfield 105, 3) := by decide +kernel
theorem dX8_back_85 : decode cX8_back 85 = .ok (.iload_n 1, 1) := by decide +kernel
theorem dX8_back_86 : decode cX8_back 86 = .ok (.iaload, 1) := by decide +kernel
theorem dX8_back_87 : decode cX8_back 87 = .ok (.iastore, 1) := by decide +kernel
theorem dX8_back_88 : decode cX8_back 88 = .ok (.aload_n 0, 1) := by decide +kernel
theorem dX8_back_89 : decode cX8_back 89 = .ok (.getfield 19, 3) := by decide +kernel
theorem dX8_back_92 : decode cX8_back 92 = .ok (.iload_n 1, 1) := by decide +kernel
theorem dX8_back_93 : decode cX8_back 93 = .ok (.aload_n 0, 1) := by decide +kernel
theorem dX8_back_94 : decode cX8_back 94 = .ok (.getfield 108, 3) := by decide +kernel
theorem dX8_back_97 : decode cX8_back 97 = .ok (.iload_n 1, 1) := by decide +kernel
theorem dX8_back_98 : decode cX8_back 98 = .ok (.iaload, 1) := by decide +kernel
theorem dX8_back_99 : decode cX8_back 99 = .ok (.iastore, 1) := by decide +kernel
theorem dX8_back_100 : decode cX8_back 100 = .ok (.iinc 1 1, 3) := by decide +kernel
theorem dX8_back_103 : decode cX8_back 103 = .ok (.goto (-59), 3) := by decide +kernel
theorem dX8_back_106 : decode cX8_back 106 = .ok (.iconst 0, 1) := by decide +kernel
theorem dX8_back_107 : decode cX8_back 107 = .ok (.istore_n 1, 1) := by decide +kernel
theorem dX8_back_108 : decode cX8_back 108 = .ok (.iload_n 1, 1) := by decide +kernel
theorem dX8_back_109 : decode cX8_back 109 = .ok (.bipush 120, 2) := by decide +kernel
theorem dX8_back_111 : decode cX8_back 111 = .ok (.if_icmp .ge 21, 3) := by decide +kernel
theorem dX8_back_114 : decode cX8_back 114 = .ok (.aload_n 0, 1) := by decide +kernel
theorem dX8_back_115 : decode cX8_back 115 = .ok (.getfield 40, 3) := by decide +kernel
theorem dX8_back_118 : decode cX8_back 118 = .ok (.iload_n 1, 1) := by decide +kernel
theorem dX8_back_119 : decode cX8_back 119 = .ok (.aload_n 0, 1) := by decide +kernel
theorem dX8_back_120 : decode cX8_back 120 = .ok (.getfield 111, 3) := by decide +kernel
theorem dX8_back_123 : decode cX8_back 123 = .ok (.iload_n 1, 1) := by decide +kernel
theorem dX8_back_124 : decode cX8_back 124 = .ok (.iaload, 1) := by decide +kernel
theorem dX8_back_125 : decode cX8_back 125 = .ok (.iastore, 1) := by decide +kernel
theorem dX8_back_126 : decode cX8_back 126 = .ok (.iinc 1 1, 3) := by decide +kernel
theorem dX8_back_129 : decode cX8_back 129 = .ok (.goto (-21), 3) := by decide +kernel
theorem dX8_back_132 : decode cX8_back 132 = .ok (.aload_n 0, 1) := by decide +kernel
theorem dX8_back_133 : decode cX8_back 133 = .ok (.getfield 129, 3) := by decide +kernel
theorem dX8_back_136 : decode cX8_back 136 = .ok (.ireturn, 1) := by decide +kernel
theorem dX8_allUp_0 : decode cX8_allUp 0 = .ok (.iconst 0, 1) := by decide +kernel
theorem dX8_allUp_1 : decode cX8_allUp 1 = .ok (.istore_n 1, 1) := by decide +kernel
theorem dX8_allUp_2 : decode cX8_allUp 2 = .ok (.iconst 0, 1) := by decide +kernel
theorem dX8_allUp_3 : decode cX8_allUp 3 = .ok (.istore_n 2, 1) := by decide +kernel
theorem dX8_allUp_4 : decode cX8_allUp 4 = .ok (.iload_n 2, 1) := by decide +kernel
theorem dX8_allUp_5 : decode cX8_allUp 5 = .ok (.aload_n 0, 1) := by decide +kernel
theorem dX8_allUp_6 : decode cX8_allUp 6 = .ok (.getfield 129, 3) := by decide +kernel
theorem dX8_allUp_9 : decode cX8_allUp 9 = .ok (.if_icmp .ge 18, 3) := by decide +kernel
theorem dX8_allUp_12 : decode cX8_allUp 12 = .ok (.iload_n 1, 1) := by decide +kernel
theorem dX8_allUp_13 : decode cX8_allUp 13 = .ok (.aload_n 0, 1) := by decide +kernel
theorem dX8_allUp_14 : decode cX8_allUp 14 = .ok (.getfield 7, 3) := by decide +kernel
theorem dX8_allUp_17 : decode cX8_allUp 17 = .ok (.iload_n 2, 1) := by decide +kernel
theorem dX8_allUp_18 : decode cX8_allUp 18 = .ok (.iaload, 1) := by decide +kernel
theorem dX8_allUp_19 : decode cX8_allUp 19 = .ok (.iadd, 1) := by decide +kernel
theorem dX8_allUp_20 : decode cX8_allUp 20 = .ok (.istore_n 1, 1) := by decide +kernel
theorem dX8_allUp_21 : decode cX8_allUp 21 = .ok (.iinc 2 1, 3) := by decide +kernel
theorem dX8_allUp_24 : decode cX8_allUp 24 = .ok (.goto (-20), 3) := by decide +kernel
theorem dX8_allUp_27 : decode cX8_allUp 27 = .ok (.iload_n 1, 1) := by decide +kernel
theorem dX8_allUp_28 : decode cX8_allUp 28 = .ok (.ireturn, 1) := by decide +kernel
theorem dX8_count_0 : decode cX8_count 0 = .ok (.iload_n 1, 1) := by decide +kernel
theorem dX8_count_1 : decode cX8_count 1 = .ok (.tableswitch 87 0 7 #[47, 52, 57, 62, 67, 72, 77, 82], 47) := by decide +kernel
theorem dX8_count_48 : decode cX8_count 48 = .ok (.aload_n 0, 1) := by decide +kernel
theorem dX8_count_49 : decode cX8_count 49 = .ok (.getfield 129, 3) := by decide +kernel
theorem dX8_count_52 : decode cX8_count 52 = .ok (.ireturn, 1) := by decide +kernel
theorem dX8_count_53 : decode cX8_count 53 = .ok (.aload_n 0, 1) := by decide +kernel
theorem dX8_count_54 : decode cX8_count 54 = .ok (.getfield 143, 3) := by decide +kernel
theorem dX8_count_57 : decode cX8_count 57 = .ok (.ireturn, 1) := by decide +kernel
theorem dX8_count_58 : decode cX8_count 58 = .ok (.aload_n 0, 1) := by decide +kernel
theorem dX8_count_59 : decode cX8_count 59 = .ok (.getfield 136, 3) := by decide +kernel
theorem dX8_count_62 : decode cX8_count 62 = .ok (.ireturn, 1) := by decide +kernel
theorem dX8_count_63 : decode cX8_count 63 = .ok (.aload_n 0, 1) := by decide +kernel
theorem dX8_count_64 : decode cX8_count 64 = .ok (.getfield 43, 3) := by decide +kernel
theorem dX8_count_67 : decode cX8_count 67 = .ok (.ireturn, 1) := by decide +kernel
theorem dX8_count_68 : decode cX8_count 68 = .ok (.aload_n 0, 1) := by decide +kernel
theorem dX8_count_69 : decode cX8_count 69 = .ok (.getfield 57, 3) := by decide +kernel
theorem dX8_count_72 : decode cX8_count 72 = .ok (.ireturn, 1) := by decide +kernel
theorem dX8_count_73 : decode cX8_count 73 = .ok (.aload_n 0, 1) := by decide +kernel
theorem dX8_count_74 : decode cX8_count 74 = .ok (.getfield 162, 3) := by decide +kernel
theorem dX8_count_77 : decode cX8_count 77 = .ok (.ireturn, 1) := by decide +kernel
theorem dX8_count_78 : decode cX8_count 78 = .ok (.aload_n 0, 1) := by decide +kernel
theorem dX8_count_79 : decode cX8_count 79 = .ok (.getfield 238, 3) := by decide +kernel
theorem dX8_count_82 : decode cX8_count 82 = .ok (.ireturn, 1) := by decide +kernel
theorem dX8_count_83 : decode cX8_count 83 = .ok (.aload_n 0, 1) := by decide +kernel
theorem dX8_count_84 : decode cX8_count 84 = .ok (.invokevirtual 326, 3) := by decide +kernel
theorem dX8_count_87 : decode cX8_count 87 = .ok (.ireturn, 1) := by decide +kernel
theorem dX8_count_88 : decode cX8_count 88 = .ok (.bipush (-2), 2) := by decide +kernel
theorem dX8_count_90 : decode cX8_count 90 = .ok (.ireturn, 1) := by decide +kernel
theorem dX8_isSheet_0 : decode cX8_isSheet 0 = .ok (.iload_n 0, 1) := by decide +kernel
theorem dX8_isSheet_1 : decode cX8_isSheet 1 = .ok (.iconst 0, 1) := by decide +kernel
theorem dX8_isSheet_2 : decode cX8_isSheet 2 = .ok (.iconst 3, 1) := by decide +kernel
theorem dX8_isSheet_3 : decode cX8_isSheet 3 = .ok (.invokestatic 132, 3) := by decide +kernel
theorem dX8_isSheet_6 : decode cX8_isSheet 6 = .ok (.ireturn, 1) := by decide +kernel
theorem dX8_sheet_0 : decode cX8_sheet 0 = .ok (.iload_n 1, 1) := by decide +kernel
theorem dX8_sheet_1 : decode cX8_sheet 1 = .ok (.invokestatic 304, 3) := by decide +kernel
theorem dX8_sheet_4 : decode cX8_sheet 4 = .ok (.ifCond .eq 12, 3) := by decide +kernel
theorem dX8_sheet_7 : decode cX8_sheet 7 = .ok (.iload_n 2, 1) := by decide +kernel
theorem dX8_sheet_8 : decode cX8_sheet 8 = .ok (.iconst (-1), 1) := by decide +kernel
theorem dX8_sheet_9 : decode cX8_sheet 9 = .ok (.iconst 2, 1) := by decide +kernel
theorem dX8_sheet_10 : decode cX8_sheet 10 = .ok (.invokestatic 132, 3) := by decide +kernel
theorem dX8_sheet_13 : decode cX8_sheet 13 = .ok (.ifCond .ne 6, 3) := by decide +kernel
theorem dX8_sheet_16 : decode cX8_sheet 16 = .ok (.bipush (-2), 2) := by decide +kernel
theorem dX8_sheet_18 : decode cX8_sheet 18 = .ok (.ireturn, 1) := by decide +kernel
theorem dX8_sheet_19 : decode cX8_sheet 19 = .ok (.iload_n 2, 1) := by decide +kernel
theorem dX8_sheet_20 : decode cX8_sheet 20 = .ok (.iconst (-1), 1) := by decide +kernel
theorem dX8_sheet_21 : decode cX8_sheet 21 = .ok (.if_icmp .ne 12, 3) := by decide +kernel
theorem dX8_sheet_24 : decode cX8_sheet 24 = .ok (.aload_n 0, 1) := by decide +kernel
theorem dX8_sheet_25 : decode cX8_sheet 25 = .ok (.getfield 114, 3) := by decide +kernel
theorem dX8_sheet_28 : decode cX8_sheet 28 = .ok (.iload_n 1, 1) := by decide +kernel
theorem dX8_sheet_29 : decode cX8_sheet 29 = .ok (.iconst (-1), 1) := by decide +kernel
theorem dX8_sheet_30 : decode cX8_sheet 30 = .ok (.iastore, 1) := by decide +kernel
theorem dX8_sheet_31 : decode cX8_sheet 31 = .ok (.iconst 1, 1) := by decide +kernel
theorem dX8_sheet_32 : decode cX8_sheet 32 = .ok (.ireturn, 1) := by decide +kernel
theorem dX8_sheet_33 : decode cX8_sheet 33 = .ok (.iload_n 3, 1) := by decide +kernel
theorem dX8_sheet_34 : decode cX8_sheet 34 = .ok (.bipush 40, 2) := by decide +kernel
theorem dX8_sheet_36 : decode cX8_sheet 36 = .ok (.if_icmp .le 6, 3) := by decide +kernel
theorem dX8_sheet_39 : decode cX8_sheet 39 = .ok (.bipush (-2), 2) := by decide +kernel
theorem dX8_sheet_41 : decode cX8_sheet 41 = .ok (.ireturn, 1) := by decide +kernel
theorem dX8_sheet_42 : decode cX8_sheet 42 = .ok (.iload_n 3, 1) := by decide +kernel
theorem dX8_sheet_43 : decode cX8_sheet 43 = .ok (.ifCond .ge 6, 3) := by decide +kernel
theorem dX8_sheet_46 : decode cX8_sheet 46 = .ok (.bipush (-14), 2) := by decide +kernel
theorem dX8_sheet_48 : decode cX8_sheet 48 = .ok (.ireturn, 1) := by decide +kernel
theorem dX8_sheet_49 : decode cX8_sheet 49 = .ok (.aload_n 0, 1) := by decide +kernel
theorem dX8_sheet_50 : decode cX8_sheet 50 = .ok (.getfield 114, 3) := by decide +kernel
theorem dX8_sheet_53 : decode cX8_sheet 53 = .ok (.iload_n 1, 1) := by decide +kernel
theorem dX8_sheet_54 : decode cX8_sheet 54 = .ok (.iload_n 2, 1) := by decide +kernel
theorem dX8_sheet_55 : decode cX8_sheet 55 = .ok (.iastore, 1) := by decide +kernel
theorem dX8_sheet_56 : decode cX8_sheet 56 = .ok (.aload_n 0, 1) := by decide +kernel
theorem dX8_sheet_57 : decode cX8_sheet 57 = .ok (.getfield 117, 3) := by decide +kernel
theorem dX8_sheet_60 : decode cX8_sheet 60 = .ok (.iload_n 1, 1) := by decide +kernel
theorem dX8_sheet_61 : decode cX8_sheet 61 = .ok (.iload_n 3, 1) := by decide +kernel
theorem dX8_sheet_62 : decode cX8_sheet 62 = .ok (.iastore, 1) := by decide +kernel
theorem dX8_sheet_63 : decode cX8_sheet 63 = .ok (.iconst 0, 1) := by decide +kernel
theorem dX8_sheet_64 : decode cX8_sheet 64 = .ok (.istore 4, 2) := by decide +kernel
theorem dX8_sheet_66 : decode cX8_sheet 66 = .ok (.iload 4, 2) := by decide +kernel
theorem dX8_sheet_68 : decode cX8_sheet 68 = .ok (.iload_n 3, 1) := by decide +kernel
theorem dX8_sheet_69 : decode cX8_sheet 69 = .ok (.if_icmp .ge 22, 3) := by decide +kernel
theorem dX8_sheet_72 : decode cX8_sheet 72 = .ok (.aload_n 0, 1) := by decide +kernel
theorem dX8_sheet_73 : decode cX8_sheet 73 = .ok (.getfield 120, 3) := by decide +kernel
theorem dX8_sheet_76 : decode cX8_sheet 76 = .ok (.bipush 40, 2) := by decide +kernel
theorem dX8_sheet_78 : decode cX8_sheet 78 = .ok (.iload_n 1, 1) := by decide +kernel
theorem dX8_sheet_79 : decode cX8_sheet 79 = .ok (.imul, 1) := by decide +kernel
theorem dX8_sheet_80 : decode cX8_sheet 80 = .ok (.iload 4, 2) := by decide +kernel
theorem dX8_sheet_82 : decode cX8_sheet 82 = .ok (.iadd, 1) := by decide +kernel
theorem dX8_sheet_83 : decode cX8_sheet 83 = .ok (.iconst 0, 1) := by decide +kernel
theorem dX8_sheet_84 : decode cX8_sheet 84 = .ok (.iastore, 1) := by decide +kernel
theorem dX8_sheet_85 : decode cX8_sheet 85 = .ok (.iinc 4 1, 3) := by decide +kernel
theorem dX8_sheet_88 : decode cX8_sheet 88 = .ok (.goto (-22), 3) := by decide +kernel
theorem dX8_sheet_91 : decode cX8_sheet 91 = .ok (.iconst 1, 1) := by decide +kernel
theorem dX8_sheet_92 : decode cX8_sheet 92 = .ok (.ireturn, 1) := by decide +kernel
theorem dX8_cell_0 : decode cX8_cell 0 = .ok (.iload_n 1, 1) := by decide +kernel
theorem dX8_cell_1 : decode cX8_cell 1 = .ok (.invokestatic 304, 3) := by decide +kernel
theorem dX8_cell_4 : decode cX8_cell 4 = .ok (.ifCond .ne 6, 3) := by decide +kernel
theorem dX8_cell_7 : decode cX8_cell 7 = .ok (.bipush (-2), 2) := by decide +kernel
theorem dX8_cell_9 : decode cX8_cell 9 = .ok (.ireturn, 1) := by decide +kernel
theorem dX8_cell_10 : decode cX8_cell 10 = .ok (.aload_n 0, 1) := by decide +kernel
theorem dX8_cell_11 : decode cX8_cell 11 = .ok (.getfield 114, 3) := by decide +kernel
theorem dX8_cell_14 : decode cX8_cell 14 = .ok (.iload_n 1, 1) := by decide +kernel
theorem dX8_cell_15 : decode cX8_cell 15 = .ok (.iaload, 1) := by decide +kernel
theorem dX8_cell_16 : decode cX8_cell 16 = .ok (.ifCond .ge 6, 3) := by decide +kernel
theorem dX8_cell_19 : decode cX8_cell 19 = .ok (.bipush (-11), 2) := by decide +kernel
theorem dX8_cell_21 : decode cX8_cell 21 = .ok (.ireturn, 1) := by decide +kernel
theorem dX8_cell_22 : decode cX8_cell 22 = .ok (.iload_n 2, 1) := by decide +kernel
theorem dX8_cell_23 : decode cX8_cell 23 = .ok (.iconst 0, 1) := by decide +kernel
theorem dX8_cell_24 : decode cX8_cell 24 = .ok (.aload_n 0, 1) := by decide +kernel
theorem dX8_cell_25 : decode cX8_cell 25 = .ok (.getfield 117, 3) := by decide +kernel
theorem dX8_cell_28 : decode cX8_cell 28 = .ok (.iload_n 1, 1) := by decide +kernel
theorem dX8_cell_29 : decode cX8_cell 29 = .ok (.iaload, 1) := by decide +kernel
theorem dX8_cell_30 : decode cX8_cell 30 = .ok (.iconst 1, 1) := by decide +kernel
theorem dX8_cell_31 : decode cX8_cell 31 = .ok (.isub, 1) := by decide +kernel
theorem dX8_cell_32 : decode cX8_cell 32 = .ok (.invokestatic 132, 3) := by decide +kernel
theorem dX8_cell_35 : decode cX8_cell 35 = .ok (.ifCond .ne 6, 3) := by decide +kernel
theorem dX8_cell_38 : decode cX8_cell 38 = .ok (.bipush (-12), 2) := by decide +kernel
theorem dX8_cell_40 : decode cX8_cell 40 = .ok (.ireturn, 1) := by decide +kernel
theorem dX8_cell_41 : decode cX8_cell 41 = .ok (.aload_n 0, 1) := by decide +kernel
theorem dX8_cell_42 : decode cX8_cell 42 = .ok (.getfield 120, 3) := by decide +kernel
theorem dX8_cell_45 : decode cX8_cell 45 = .ok (.bipush 40, 2) := by decide +kernel
theorem dX8_cell_47 : decode cX8_cell 47 = .ok (.iload_n 1, 1) := by decide +kernel
theorem dX8_cell_48 : decode cX8_cell 48 = .ok (.imul, 1) := by decide +kernel
theorem dX8_cell_49 : decode cX8_cell 49 = .ok (.iload_n 2, 1) := by decide +kernel
theorem dX8_cell_50 : decode cX8_cell 50 = .ok (.iadd, 1) := by decide +kernel
theorem dX8_cell_51 : decode cX8_cell 51 = .ok (.aload_n 0, 1) := by decide +kernel
theorem dX8_cell_52 : decode cX8_cell 52 = .ok (.getfield 114, 3) := by decide +kernel
theorem dX8_cell_55 : decode cX8_cell 55 = .ok (.iload_n 1, 1) := by decide +kernel
theorem dX8_cell_56 : decode cX8_cell 56 = .ok (.iaload, 1) := by decide +kernel
theorem dX8_cell_57 : decode cX8_cell 57 = .ok (.ifCond .ne 8, 3) := by decide +kernel
theorem dX8_cell_60 : decode cX8_cell 60 = .ok (.iload_n 3, 1) := by decide +kernel
theorem dX8_cell_61 : decode cX8_cell 61 = .ok (.i2b, 1) := by decide +kernel
theorem dX8_cell_62 : decode cX8_cell 62 = .ok (.goto 19, 3) := by decide +kernel
theorem dX8_cell_65 : decode cX8_cell 65 = .ok (.aload_n 0, 1) := by decide +kernel
theorem dX8_cell_66 : decode cX8_cell 66 = .ok (.getfield 114, 3) := by decide +kernel
theorem dX8_cell_69 : decode cX8_cell 69 = .ok (.iload_n 1, 1) := by decide +kernel
theorem dX8_cell_70 : decode cX8_cell 70 = .ok (.iaload, 1) := by decide +kernel
theorem dX8_cell_71 : decode cX8_cell 71 = .ok (.iconst 1, 1) := by decide +kernel
theorem dX8_cell_72 : decode cX8_cell 72 = .ok (.if_icmp .ne 8, 3) := by decide +kernel
theorem dX8_cell_75 : decode cX8_cell 75 = .ok (.iload_n 3, 1) := by decide +kernel
theorem dX8_cell_76 : decode cX8_cell 76 = .ok (.i2s, 1) := by decide +kernel
theorem dX8_cell_77 : decode cX8_cell 77 = .ok (.goto 4, 3) := by decide +kernel
theorem dX8_cell_80 : decode cX8_cell 80 = .ok (.iload_n 3, 1) := by decide +kernel
theorem dX8_cell_81 : decode cX8_cell 81 = .ok (.iastore, 1) := by decide +kernel
theorem dX8_cell_82 : decode cX8_cell 82 = .ok (.iconst 1, 1) := by decide +kernel
theorem dX8_cell_83 : decode cX8_cell 83 = .ok (.ireturn, 1) := by decide +kernel
theorem dX8_copy_0 : decode cX8_copy 0 = .ok (.iload_n 1, 1) := by decide +kernel
theorem dX8_copy_1 : decode cX8_copy 1 = .ok (.invokestatic 304, 3) := by decide +kernel
theorem dX8_copy_4 : decode cX8_copy 4 = .ok (.ifCond .eq 10, 3) := by decide +kernel
theorem dX8_copy_7 : decode cX8_copy 7 = .ok (.iload_n 3, 1) := by decide +kernel
theorem dX8_copy_8 : decode cX8_copy 8 = .ok (.invokestatic 304, 3) := by decide +kernel
theorem dX8_copy_11 : decode cX8_copy 11 = .ok (.ifCond .ne 6, 3) := by decide +kernel
theorem dX8_copy_14 : decode cX8_copy 14 = .ok (.bipush (-2), 2) := by decide +kernel
theorem dX8_copy_16 : decode cX8_copy 16 = .ok (.ireturn, 1) := by decide +kernel
theorem dX8_copy_17 : decode cX8_copy 17 = .ok (.aload_n 0, 1) := by decide +kernel
theorem dX8_copy_18 : decode cX8_copy 18 = .ok (.getfield 114, 3) := by decide +kernel
theorem dX8_copy_21 : decode cX8_copy 21 = .ok (.iload_n 1, 1) := by decide +kernel
theorem dX8_copy_22 : decode cX8_copy 22 = .ok (.iaload, 1) := by decide +kernel
theorem dX8_copy_23 : decode cX8_copy 23 = .ok (.ifCond .lt 12, 3) := by decide +kernel
theorem dX8_copy_26 : decode cX8_copy 26 = .ok (.aload_n 0, 1) := by decide +kernel
theorem dX8_copy_27 : decode cX8_copy 27 = .ok (.getfield 114, 3) := by decide +kernel
theorem dX8_copy_30 : decode cX8_copy 30 = .ok (.iload_n 3, 1) := by decide +kernel
theorem dX8_copy_31 : decode cX8_copy 31 = .ok (.iaload, 1) := by decide +kernel
theorem dX8_copy_32 : decode cX8_copy 32 = .ok (.ifCond .ge 6, 3) := by decide +kernel
theorem dX8_copy_35 : decode cX8_copy 35 = .ok (.bipush (-11), 2) := by decide +kernel
theorem dX8_copy_37 : decode cX8_copy 37 = .ok (.ireturn, 1) := by decide +kernel
theorem dX8_copy_38 : decode cX8_copy 38 = .ok (.aload_n 0, 1) := by decide +kernel
theorem dX8_copy_39 : decode cX8_copy 39 = .ok (.getfield 114, 3) := by decide +kernel
theorem dX8_copy_42 : decode cX8_copy 42 = .ok (.iload_n 1, 1) := by decide +kernel
theorem dX8_copy_43 : decode cX8_copy 43 = .ok (.iaload, 1) := by decide +kernel
theorem dX8_copy_44 : decode cX8_copy 44 = .ok (.aload_n 0, 1) := by decide +kernel
theorem dX8_copy_45 : decode cX8_copy 45 = .ok (.getfield 114, 3) := by decide +kernel
theorem dX8_copy_48 : decode cX8_copy 48 = .ok (.iload_n 3, 1) := by decide +kernel
theorem dX8_copy_49 : decode cX8_copy 49 = .ok (.iaload, 1) := by decide +kernel
theorem dX8_copy_50 : decode cX8_copy 50 = .ok (.if_icmp .eq 6, 3) := by decide +kernel
theorem dX8_copy_53 : decode cX8_copy 53 = .ok (.bipush (-13), 2) := by decide +kernel
theorem dX8_copy_55 : decode cX8_copy 55 = .ok (.ireturn, 1) := by decide +kernel
theorem dX8_copy_56 : decode cX8_copy 56 = .ok (.iload 5, 2) := by decide +kernel
theorem dX8_copy_58 : decode cX8_copy 58 = .ok (.ifCond .lt 47, 3) := by decide +kernel
theorem dX8_copy_61 : decode cX8_copy 61 = .ok (.iload_n 2, 1) := by decide +kernel
theorem dX8_copy_62 : decode cX8_copy 62 = .ok (.ifCond .lt 43, 3) := by decide +kernel
theorem dX8_copy_65 : decode cX8_copy 65 = .ok (.iload 4, 2) := by decide +kernel
theorem dX8_copy_67 : decode cX8_copy 67 = .ok (.ifCond .lt 38, 3) := by decide +kernel
theorem dX8_copy_70 : decode cX8_copy 70 = .ok (.iload_n 2, 1) := by decide +kernel
theorem dX8_copy_71 : decode cX8_copy 71 = .ok (.i2l, 1) := by decide +kernel
theorem dX8_copy_72 : decode cX8_copy 72 = .ok (.iload 5, 2) := by decide +kernel
theorem dX8_copy_74 : decode cX8_copy 74 = .ok (.i2l, 1) := by decide +kernel
theorem dX8_copy_75 : decode cX8_copy 75 = .ok (.ladd, 1) := by decide +kernel
theorem dX8_copy_76 : decode cX8_copy 76 = .ok (.aload_n 0, 1) := by decide +kernel
theorem dX8_copy_77 : decode cX8_copy 77 = .ok (.getfield 117, 3) := by decide +kernel
theorem dX8_copy_80 : decode cX8_copy 80 = .ok (.iload_n 1, 1) := by decide +kernel
theorem dX8_copy_81 : decode cX8_copy 81 = .ok (.iaload, 1) := by decide +kernel
theorem dX8_copy_82 : decode cX8_copy 82 = .ok (.i2l, 1) := by decide +kernel
theorem dX8_copy_83 : decode cX8_copy 83 = .ok (.lcmp, 1) := by decide +kernel
theorem dX8_copy_84 : decode cX8_copy 84 = .ok (.ifCond .gt 21, 3) := by decide +kernel
theorem dX8_copy_87 : decode cX8_copy 87 = .ok (.iload 4, 2) := by decide +kernel
theorem dX8_copy_89 : decode cX8_copy 89 = .ok (.i2l, 1) := by decide +kernel
theorem dX8_copy_90 : decode cX8_copy 90 = .ok (.iload 5, 2) := by decide +kernel
theorem dX8_copy_92 : decode cX8_copy 92 = .ok (.i2l, 1) := by decide +kernel
theorem dX8_copy_93 : decode cX8_copy 93 = .ok (.ladd, 1) := by decide +kernel
theorem dX8_copy_94 : decode cX8_copy 94 = .ok (.aload_n 0, 1) := by decide +kernel
theorem dX8_copy_95 : decode cX8_copy 95 = .ok (.getfield 117, 3) := by decide +kernel
theorem dX8_copy_98 : decode cX8_copy 98 = .ok (.iload_n 3, 1) := by decide +kernel
theorem dX8_copy_99 : decode cX8_copy 99 = .ok (.iaload, 1) := by decide +kernel
theorem dX8_copy_100 : decode cX8_copy 100 = .ok (.i2l, 1) := by decide +kernel
theorem dX8_copy_101 : decode cX8_copy 101 = .ok (.lcmp, 1) := by decide +kernel
theorem dX8_copy_102 : decode cX8_copy 102 = .ok (.ifCond .le 6, 3) := by decide +kernel
theorem dX8_copy_105 : decode cX8_copy 105 = .ok (.bipush (-12), 2) := by decide +kernel
theorem dX8_copy_107 : decode cX8_copy 107 = .ok (.ireturn, 1) := by decide +kernel
theorem dX8_copy_108 : decode cX8_copy 108 = .ok (.iconst 0, 1) := by decide +kernel
theorem dX8_copy_109 : decode cX8_copy 109 = .ok (.istore 6, 2) := by decide +kernel
theorem dX8_copy_111 : decode cX8_copy 111 = .ok (.iload 6, 2) := by decide +kernel
theorem dX8_copy_113 : decode cX8_copy 113 = .ok (.iload 5, 2) := by decide +kernel
theorem dX8_copy_115 : decode cX8_copy 115 = .ok (.if_icmp .ge 30, 3) := by decide +kernel
theorem dX8_copy_118 : decode cX8_copy 118 = .ok (.aload_n 0, 1) := by decide +kernel
theorem dX8_copy_119 : decode cX8_copy 119 = .ok (.getfield 123, 3) := by decide +kernel
theorem dX8_copy_122 : decode cX8_copy 122 = .ok (.iload 6, 2) := by decide +kernel
theorem dX8_copy_124 : decode cX8_copy 124 = .ok (.aload_n 0, 1) := by decide +kernel
theorem dX8_copy_125 : decode cX8_copy 125 = .ok (.getfield 120, 3) := by decide +kernel
theorem dX8_copy_128 : decode cX8_copy 128 = .ok (.bipush 40, 2) := by decide +kernel
theorem dX8_copy_130 : decode cX8_copy 130 = .ok (.iload_n 1, 1) := by decide +kernel
theorem dX8_copy_131 : decode cX8_copy 131 = .ok (.imul, 1) := by decide +kernel
theorem dX8_copy_132 : decode cX8_copy 132 = .ok (.iload_n 2, 1) := by decide +kernel
theorem dX8_copy_133 : decode cX8_copy 133 = .ok (.iadd, 1) := by decide +kernel
theorem dX8_copy_134 : decode cX8_copy 134 = .ok (.iload 6, 2) := by decide +kernel
theorem dX8_copy_136 : decode cX8_copy 136 = .ok (.iadd, 1) := by decide +kernel
theorem dX8_copy_137 : decode cX8_copy 137 = .ok (.iaload, 1) := by decide +kernel
theorem dX8_copy_138 : decode cX8_copy 138 = .ok (.iastore, 1) := by decide +kernel
theorem dX8_copy_139 : decode cX8_copy 139 = .ok (.iinc 6 1, 3) := by decide +kernel
theorem dX8_copy_142 : decode cX8_copy 142 = .ok (.goto (-31), 3) := by decide +kernel
theorem dX8_copy_145 : decode cX8_copy 145 = .ok (.iconst 0, 1) := by decide +kernel
theorem dX8_copy_146 : decode cX8_copy 146 = .ok (.istore 6, 2) := by decide +kernel
theorem dX8_copy_148 : decode cX8_copy 148 = .ok (.iload 6, 2) := by decide +kernel
theorem dX8_copy_150 : decode cX8_copy 150 = .ok (.iload 5, 2) := by decide +kernel
theorem dX8_copy_152 : decode cX8_copy 152 = .ok (.if_icmp .ge 31, 3) := by decide +kernel
theorem dX8_copy_155 : decode cX8_copy 155 = .ok (.aload_n 0, 1) := by decide +kernel
theorem dX8_copy_156 : decode cX8_copy 156 = .ok (.getfield 120, 3) := by decide +kernel
theorem dX8_copy_159 : decode cX8_copy 159 = .ok (.bipush 40, 2) := by decide +kernel
theorem dX8_copy_161 : decode cX8_copy 161 = .ok (.iload_n 3, 1) := by decide +kernel
theorem dX8_copy_162 : decode cX8_copy 162 = .ok (.imul, 1) := by decide +kernel
theorem dX8_copy_163 : decode cX8_copy 163 = .ok (.iload 4, 2) := by decide +kernel
theorem dX8_copy_165 : decode cX8_copy 165 = .ok (.iadd, 1) := by decide +kernel
theorem dX8_copy_166 : decode cX8_copy 166 = .ok (.iload 6, 2) := by decide +kernel
theorem dX8_copy_168 : decode cX8_copy 168 = .ok (.iadd, 1) := by decide +kernel
theorem dX8_copy_169 : decode cX8_copy 169 = .ok (.aload_n 0, 1) := by decide +kernel
theorem dX8_copy_170 : decode cX8_copy 170 = .ok (.getfield 123, 3) := by decide +kernel
theorem dX8_copy_173 : decode cX8_copy 173 = .ok (.iload 6, 2) := by decide +kernel
theorem dX8_copy_175 : decode cX8_copy 175 = .ok (.iaload, 1) := by decide +kernel
theorem dX8_copy_176 : decode cX8_copy 176 = .ok (.iastore, 1) := by decide +kernel
theorem dX8_copy_177 : decode cX8_copy 177 = .ok (.iinc 6 1, 3) := by decide +kernel
theorem dX8_copy_180 : decode cX8_copy 180 = .ok (.goto (-32), 3) := by decide +kernel
theorem dX8_copy_183 : decode cX8_copy 183 = .ok (.iload 5, 2) := by decide +kernel
theorem dX8_copy_185 : decode cX8_copy 185 = .ok (.ireturn, 1) := by decide +kernel
theorem dX8_sorts_0 : decode cX8_sorts 0 = .ok (.iload_n 1, 1) := by decide +kernel
theorem dX8_sorts_1 : decode cX8_sorts 1 = .ok (.invokestatic 304, 3) := by decide +kernel
theorem dX8_sorts_4 : decode cX8_sorts 4 = .ok (.ifCond .eq 23, 3) := by decide +kernel
theorem dX8_sorts_7 : decode cX8_sorts 7 = .ok (.iload_n 2, 1) := by decide +kernel
theorem dX8_sorts_8 : decode cX8_sorts 8 = .ok (.iconst 0, 1) := by decide +kernel
theorem dX8_sorts_9 : decode cX8_sorts 9 = .ok (.iconst 2, 1) := by decide +kernel
theorem dX8_sorts_10 : decode cX8_sorts 10 = .ok (.invokestatic 132, 3) := by decide +kernel
theorem dX8_sorts_13 : decode cX8_sorts 13 = .ok (.ifCond .eq 14, 3) := by decide +kernel
theorem dX8_sorts_16 : decode cX8_sorts 16 = .ok (.iload 4, 2) := by decide +kernel
theorem dX8_sorts_18 : decode cX8_sorts 18 = .ok (.iconst 0, 1) := by decide +kernel
theorem dX8_sorts_19 : decode cX8_sorts 19 = .ok (.bipush 8, 2) := by decide +kernel
theorem dX8_sorts_21 : decode cX8_sorts 21 = .ok (.invokestatic 132, 3) := by decide +kernel
theorem dX8_sorts_24 : decode cX8_sorts 24 = .ok (.ifCond .ne 6, 3) := by decide +kernel
theorem dX8_sorts_27 : decode cX8_sorts 27 = .ok (.bipush (-2), 2) := by decide +kernel
theorem dX8_sorts_29 : decode cX8_sorts 29 = .ok (.ireturn, 1) := by decide +kernel
theorem dX8_sorts_30 : decode cX8_sorts 30 = .ok (.aload_n 0, 1) := by decide +kernel
theorem dX8_sorts_31 : decode cX8_sorts 31 = .ok (.getfield 114, 3) := by decide +kernel
theorem dX8_sorts_34 : decode cX8_sorts 34 = .ok (.iload_n 1, 1) := by decide +kernel
theorem dX8_sorts_35 : decode cX8_sorts 35 = .ok (.iaload, 1) := by decide +kernel
theorem dX8_sorts_36 : decode cX8_sorts 36 = .ok (.ifCond .lt 16, 3) := by decide +kernel
theorem dX8_sorts_39 : decode cX8_sorts 39 = .ok (.aload_n 0, 1) := by decide +kernel
theorem dX8_sorts_40 : decode cX8_sorts 40 = .ok (.getfield 114, 3) := by decide +kernel
theorem dX8_sorts_43 : decode cX8_sorts 43 = .ok (.iload_n 1, 1) := by decide +kernel
theorem dX8_sorts_44 : decode cX8_sorts 44 = .ok (.iaload, 1) := by decide +kernel
theorem dX8_sorts_45 : decode cX8_sorts 45 = .ok (.iload_n 2, 1) := by decide +kernel
theorem dX8_sorts_46 : decode cX8_sorts 46 = .ok (.if_icmp .eq 6, 3) := by decide +kernel
theorem dX8_sorts_49 : decode cX8_sorts 49 = .ok (.bipush (-13), 2) := by decide +kernel
theorem dX8_sorts_51 : decode cX8_sorts 51 = .ok (.ireturn, 1) := by decide +kernel
theorem dX8_sorts_52 : decode cX8_sorts 52 = .ok (.aload_n 0, 1) := by decide +kernel
theorem dX8_sorts_53 : decode cX8_sorts 53 = .ok (.getfield 114, 3) := by decide +kernel
theorem dX8_sorts_56 : decode cX8_sorts 56 = .ok (.iload_n 1, 1) := by decide +kernel
theorem dX8_sorts_57 : decode cX8_sorts 57 = .ok (.iaload, 1) := by decide +kernel
theorem dX8_sorts_58 : decode cX8_sorts 58 = .ok (.ifCond .ge 6, 3) := by decide +kernel
theorem dX8_sorts_61 : decode cX8_sorts 61 = .ok (.bipush (-11), 2) := by decide +kernel
theorem dX8_sorts_63 : decode cX8_sorts 63 = .ok (.ireturn, 1) := by decide +kernel
theorem dX8_sorts_64 : decode cX8_sorts 64 = .ok (.iconst 0, 1) := by decide +kernel
theorem dX8_sorts_65 : decode cX8_sorts 65 = .ok (.istore 5, 2) := by decide +kernel
theorem dX8_sorts_67 : decode cX8_sorts 67 = .ok (.iconst 0, 1) := by decide +kernel
theorem dX8_sorts_68 : decode cX8_sorts 68 = .ok (.istore 6, 2) := by decide +kernel
theorem dX8_sorts_70 : decode cX8_sorts 70 = .ok (.iload 6, 2) := by decide +kernel
theorem dX8_sorts_72 : decode cX8_sorts 72 = .ok (.iload 4, 2) := by decide +kernel
theorem dX8_sorts_74 : decode cX8_sorts 74 = .ok (.if_icmp .ge 80, 3) := by decide +kernel
theorem dX8_sorts_77 : decode cX8_sorts 77 = .ok (.iload_n 3, 1) := by decide +kernel
theorem dX8_sorts_78 : decode cX8_sorts 78 = .ok (.i2l, 1) := by decide +kernel
theorem dX8_sorts_79 : decode cX8_sorts 79 = .ok (.iconst 2, 1) := by decide +kernel
theorem dX8_sorts_80 : decode cX8_sorts 80 = .ok (.iload 6, 2) := by decide +kernel
theorem dX8_sorts_82 : decode cX8_sorts 82 = .ok (.imul, 1) := by decide +kernel
theorem dX8_sorts_83 : decode cX8_sorts 83 = .ok (.i2l, 1) := by decide +kernel
theorem dX8_sorts_84 : decode cX8_sorts 84 = .ok (.ladd, 1) := by decide +kernel
theorem dX8_sorts_85 : decode cX8_sorts 85 = .ok (.lstore 7, 2) := by decide +kernel
theorem dX8_sorts_87 : decode cX8_sorts 87 = .ok (.lload 7, 2) := by decide +kernel
theorem dX8_sorts_89 : decode cX8_sorts 89 = .ok (.lconst 0, 1) := by decide +kernel
theorem dX8_sorts_90 : decode cX8_sorts 90 = .ok (.lcmp, 1) := by decide +kernel
theorem dX8_sorts_91 : decode cX8_sorts 91 = .ok (.ifCond .lt 18, 3) := by decide +kernel
theorem dX8_sorts_94 : decode cX8_sorts 94 = .ok (.lload 7, 2) := by decide +kernel
theorem dX8_sorts_96 : decode cX8_sorts 96 = .ok (.lconst 1, 1) := by decide +kernel
theorem dX8_sorts_97 : decode cX8_sorts 97 = .ok (.ladd, 1) := by decide +kernel
theorem dX8_sorts_98 : decode cX8_sorts 98 = .ok (.aload_n 0, 1) := by decide +kernel
theorem dX8_sorts_99 : decode cX8_sorts 99 = .ok (.getfield 117, 3) := by decide +kernel
theorem dX8_sorts_102 : decode cX8_sorts 102 = .ok (.iload_n 1, 1) := by decide +kernel
theorem dX8_sorts_103 : decode cX8_sorts 103 = .ok (.iaload, 1) := by decide +kernel
theorem dX8_sorts_104 : decode cX8_sorts 104 = .ok (.i2l, 1) := by decide +kernel
theorem dX8_sorts_105 : decode cX8_sorts 105 = .ok (.lcmp, 1) := by decide +kernel
theorem dX8_sorts_106 : decode cX8_sorts 106 = .ok (.ifCond .lt 6, 3) := by decide +kernel
theorem dX8_sorts_109 : decode cX8_sorts 109 = .ok (.bipush (-12), 2) := by decide +kernel
theorem dX8_sorts_111 : decode cX8_sorts 111 = .ok (.ireturn, 1) := by decide +kernel
theorem dX8_sorts_112 : decode cX8_sorts 112 = .ok (.bipush 40, 2) := by decide +kernel
theorem dX8_sorts_114 : decode cX8_sorts 114 = .ok (.iload_n 1, 1) := by decide +kernel
theorem dX8_sorts_115 : decode cX8_sorts 115 = .ok (.imul, 1) := by decide +kernel
theorem dX8_sorts_116 : decode cX8_sorts 116 = .ok (.lload 7, 2) := by decide +kernel
theorem dX8_sorts_118 : decode cX8_sorts 118 = .ok (.l2i, 1) := by decide +kernel
theorem dX8_sorts_119 : decode cX8_sorts 119 = .ok (.iadd, 1) := by decide +kernel
theorem dX8_sorts_120 : decode cX8_sorts 120 = .ok (.istore 9, 2) := by decide +kernel
theorem dX8_sorts_122 : decode cX8_sorts 122 = .ok (.aload_n 0, 1) := by decide +kernel
theorem dX8_sorts_123 : decode cX8_sorts 123 = .ok (.aload_n 0, 1) := by decide +kernel
theorem dX8_sorts_124 : decode cX8_sorts 124 = .ok (.getfield 120, 3) := by decide +kernel
theorem dX8_sorts_127 : decode cX8_sorts 127 = .ok (.iload 9, 2) := by decide +kernel
theorem dX8_sorts_129 : decode cX8_sorts 129 = .ok (.iaload, 1) := by decide +kernel
theorem dX8_sorts_130 : decode cX8_sorts 130 = .ok (.aload_n 0, 1) := by decide +kernel
theorem dX8_sorts_131 : decode cX8_sorts 131 = .ok (.getfield 120, 3) := by decide +kernel
theorem dX8_sorts_134 : decode cX8_sorts 134 = .ok (.iload 9, 2) := by decide +kernel
theorem dX8_sorts_136 : decode cX8_sorts 136 = .ok (.iconst 1, 1) := by decide +kernel
theorem dX8_sorts_137 : decode cX8_sorts 137 = .ok (.iadd, 1) := by decide +kernel
theorem dX8_sorts_138 : decode cX8_sorts 138 = .ok (.iaload, 1) := by decide +kernel
theorem dX8_sorts_139 : decode cX8_sorts 139 = .ok (.invokevirtual 329, 3) := by decide +kernel
theorem dX8_sorts_142 : decode cX8_sorts 142 = .ok (.ifCond .lt 6, 3) := by decide +kernel
theorem dX8_sorts_145 : decode cX8_sorts 145 = .ok (.iinc 5 1, 3) := by decide +kernel
theorem dX8_sorts_148 : decode cX8_sorts 148 = .ok (.iinc 6 1, 3) := by decide +kernel
theorem dX8_sorts_151 : decode cX8_sorts 151 = .ok (.goto (-81), 3) := by decide +kernel
theorem dX8_sorts_154 : decode cX8_sorts 154 = .ok (.iload 5, 2) := by decide +kernel
theorem dX8_sorts_156 : decode cX8_sorts 156 = .ok (.ireturn, 1) := by decide +kernel
theorem dX8_isUnder_0 : decode cX8_isUnder 0 = .ok (.iload_n 1, 1) := by decide +kernel
theorem dX8_isUnder_1 : decode cX8_isUnder 1 = .ok (.ifCond .eq 43, 3) := by decide +kernel
theorem dX8_isUnder_4 : decode cX8_isUnder 4 = .ok (.iload_n 0, 1) := by decide +kernel
theorem dX8_isUnder_5 : decode cX8_isUnder 5 = .ok (.iload_n 1, 1) := by decide +kernel
theorem dX8_isUnder_6 : decode cX8_isUnder 6 = .ok (.if_icmp .eq 38, 3) := by decide +kernel
theorem dX8_isUnder_9 : decode cX8_isUnder 9 = .ok (.iload_n 1, 1) := by decide +kernel
theorem dX8_isUnder_10 : decode cX8_isUnder 10 = .ok (.iconst 1, 1) := by decide +kernel
theorem dX8_isUnder_11 : decode cX8_isUnder 11 = .ok (.if_icmp .ne 13, 3) := by decide +kernel
theorem dX8_isUnder_14 : decode cX8_isUnder 14 = .ok (.iload_n 0, 1) := by decide +kernel
theorem dX8_isUnder_15 : decode cX8_isUnder 15 = .ok (.iconst 3, 1) := by decide +kernel
theorem dX8_isUnder_16 : decode cX8_isUnder 16 = .ok (.if_icmp .eq 28, 3) := by decide +kernel
theorem dX8_isUnder_19 : decode cX8_isUnder 19 = .ok (.iload_n 0, 1) := by decide +kernel
theorem dX8_isUnder_20 : decode cX8_isUnder 20 = .ok (.iconst 5, 1) := by decide +kernel
theorem dX8_isUnder_21 : decode cX8_isUnder 21 = .ok (.if_icmp .eq 23, 3) := by decide +kernel
theorem dX8_isUnder_24 : decode cX8_isUnder 24 = .ok (.iload_n 1, 1) := by decide +kernel
theorem dX8_isUnder_25 : decode cX8_isUnder 25 = .ok (.iconst 3, 1) := by decide +kernel
theorem dX8_isUnder_26 : decode cX8_isUnder 26 = .ok (.if_icmp .ne 8, 3) := by decide +kernel
theorem dX8_isUnder_29 : decode cX8_isUnder 29 = .ok (.iload_n 0, 1) := by decide +kernel
theorem dX8_isUnder_30 : decode cX8_isUnder 30 = .ok (.iconst 5, 1) := by decide +kernel
theorem dX8_isUnder_31 : decode cX8_isUnder 31 = .ok (.if_icmp .eq 13, 3) := by decide +kernel
theorem dX8_isUnder_34 : decode cX8_isUnder 34 = .ok (.iload_n 1, 1) := by decide +kernel
theorem dX8_isUnder_35 : decode cX8_isUnder 35 = .ok (.iconst 2, 1) := by decide +kernel
theorem dX8_isUnder_36 : decode cX8_isUnder 36 = .ok (.if_icmp .ne 12, 3) := by decide +kernel
theorem dX8_isUnder_39 : decode cX8_isUnder 39 = .ok (.iload_n 0, 1) := by decide +kernel
theorem dX8_isUnder_40 : decode cX8_isUnder 40 = .ok (.iconst 4, 1) := by decide +kernel
theorem dX8_isUnder_41 : decode cX8_isUnder 41 = .ok (.if_icmp .ne 7, 3) := by decide +kernel
theorem dX8_isUnder_44 : decode cX8_isUnder 44 = .ok (.iconst 1, 1) := by decide +kernel
theorem dX8_isUnder_45 : decode cX8_isUnder 45 = .ok (.goto 4, 3) := by decide +kernel
theorem dX8_isUnder_48 : decode cX8_isUnder 48 = .ok (.iconst 0, 1) := by decide +kernel
theorem dX8_isUnder_49 : decode cX8_isUnder 49 = .ok (.ireturn, 1) := by decide +kernel
theorem dX8_taken_0 : decode cX8_taken 0 = .ok (.iload_n 2, 1) := by decide +kernel
theorem dX8_taken_1 : decode cX8_taken 1 = .ok (.iconst 0, 1) := by decide +kernel
theorem dX8_taken_2 : decode cX8_taken 2 = .ok (.iconst 5, 1) := by decide +kernel
theorem dX8_taken_3 : decode cX8_taken 3 = .ok (.invokestatic 132, 3) := by decide +kernel
theorem dX8_taken_6 : decode cX8_taken 6 = .ok (.ifCond .ne 6, 3) := by decide +kernel
theorem dX8_taken_9 : decode cX8_taken 9 = .ok (.bipush (-2), 2) := by decide +kernel
theorem dX8_taken_11 : decode cX8_taken 11 = .ok (.ireturn, 1) := by decide +kernel
theorem dX8_taken_12 : decode cX8_taken 12 = .ok (.aload_n 0, 1) := by decide +kernel
theorem dX8_taken_13 : decode cX8_taken 13 = .ok (.iload_n 1, 1) := by decide +kernel
theorem dX8_taken_14 : decode cX8_taken 14 = .ok (.invokevirtual 152, 3) := by decide +kernel
theorem dX8_taken_17 : decode cX8_taken 17 = .ok (.ifCond .ne 6, 3) := by decide +kernel
theorem dX8_taken_20 : decode cX8_taken 20 = .ok (.bipush (-11), 2) := by decide +kernel
theorem dX8_taken_22 : decode cX8_taken 22 = .ok (.ireturn, 1) := by decide +kernel
theorem dX8_taken_23 : decode cX8_taken 23 = .ok (.aload_n 0, 1) := by decide +kernel
theorem dX8_taken_24 : decode cX8_taken 24 = .ok (.getfield 31, 3) := by decide +kernel
theorem dX8_taken_27 : decode cX8_taken 27 = .ok (.iload_n 1, 1) := by decide +kernel
theorem dX8_taken_28 : decode cX8_taken 28 = .ok (.iaload, 1) := by decide +kernel
theorem dX8_taken_29 : decode cX8_taken 29 = .ok (.iload_n 2, 1) := by decide +kernel
theorem dX8_taken_30 : decode cX8_taken 30 = .ok (.invokestatic 332, 3) := by decide +kernel
theorem dX8_taken_33 : decode cX8_taken 33 = .ok (.ifCond .eq 12, 3) := by decide +kernel
theorem dX8_taken_36 : decode cX8_taken 36 = .ok (.aload_n 0, 1) := by decide +kernel
theorem dX8_taken_37 : decode cX8_taken 37 = .ok (.getfield 37, 3) := by decide +kernel
theorem dX8_taken_40 : decode cX8_taken 40 = .ok (.iload_n 1, 1) := by decide +kernel
theorem dX8_taken_41 : decode cX8_taken 41 = .ok (.iaload, 1) := by decide +kernel
theorem dX8_taken_42 : decode cX8_taken 42 = .ok (.goto 5, 3) := by decide +kernel
theorem dX8_taken_45 : decode cX8_taken 45 = .ok (.bipush (-13), 2) := by decide +kernel
theorem dX8_taken_47 : decode cX8_taken 47 = .ok (.ireturn, 1) := by decide +kernel
end
section
theorem dX0_init_0 : decode cX0_init 0 = .ok (.aload_n 0, 1) := by decide +kernel
theorem dX0_init_1 : decode cX0_init 1 = .ok (.invokespecial 3, 3) := by decide +kernel
theorem dX0_init_4 : decode cX0_init 4 = .ok (.aload_n 0, 1) := by decide +kernel
theorem dX0_init_5 : decode cX0_init 5 = .ok (.iconst 0, 1) := by decide +kernel
theorem dX0_init_6 : decode cX0_init 6 = .ok (.putfield 9, 3) := by decide +kernel
theorem dX0_init_9 : decode cX0_init 9 = .ok (.aload_n 0, 1) := by decide +kernel
theorem dX0_init_10 : decode cX0_init 10 = .ok (.iconst 4, 1) := by decide +kernel
theorem dX0_init_11 : decode cX0_init 11 = .ok (.newarray .int, 2) := by decide +kernel
theorem dX0_init_13 : decode cX0_init 13 = .ok (.putfield 15, 3) := by decide +kernel
theorem dX0_init_16 : decode cX0_init 16 = .ok (.aload_n 0, 1) := by decide +kernel
theorem dX0_init_17 : decode cX0_init 17 = .ok (.iconst 4, 1) := by decide +kernel
theorem dX0_init_18 : decode cX0_init 18 = .ok (.newarray .int, 2) := by decide +kernel
theorem dX0_init_20 : decode cX0_init 20 = .ok (.putfield 19, 3) := by decide +kernel
theorem dX0_init_23 : decode cX0_init 23 = .ok (.aload_n 0, 1) := by decide +kernel
theorem dX0_init_24 : decode cX0_init 24 = .ok (.iconst 4, 1) := by decide +kernel
theorem dX0_init_25 : decode cX0_init 25 = .ok (.newarray .int, 2) := by decide +kernel
theorem dX0_init_27 : decode cX0_init 27 = .ok (.putfield 22, 3) := by decide +kernel
theorem dX0_init_30 : decode cX0_init 30 = .ok (.return_, 1) := by decide +kernel
theorem dX0_add_0 : decode cX0_add 0 = .ok (.aload_n 0, 1) := by decide +kernel
theorem dX0_add_1 : decode cX0_add 1 = .ok (.getfield 9, 3) := by decide +kernel
theorem dX0_add_4 : decode cX0_add 4 = .ok (.iconst 4, 1) := by decide +kernel
theorem dX0_add_5 : decode cX0_add 5 = .ok (.if_icmp .lt 6, 3) := by decide +kernel
theorem dX0_add_8 : decode cX0_add 8 = .ok (.bipush (-4), 2) := by decide +kernel
theorem dX0_add_10 : decode cX0_add 10 = .ok (.ireturn, 1) := by decide +kernel
theorem dX0_add_11 : decode cX0_add 11 = .ok (.aload_n 0, 1) := by decide +kernel
theorem dX0_add_12 : decode cX0_add 12 = .ok (.getfield 15, 3) := by decide +kernel
theorem dX0_add_15 : decode cX0_add 15 = .ok (.aload_n 0, 1) := by decide +kernel
theorem dX0_add_16 : decode cX0_add 16 = .ok (.getfield 9, 3) := by decide +kernel
theorem dX0_add_19 : decode cX0_add 19 = .ok (.iload_n 1, 1) := by decide +kernel
theorem dX0_add_20 : decode cX0_add 20 = .ok (.iastore, 1) := by decide +kernel
theorem dX0_add_21 : decode cX0_add 21 = .ok (.aload_n 0, 1) := by decide +kernel
theorem dX0_add_22 : decode cX0_add 22 = .ok (.getfield 19, 3) := by decide +kernel
theorem dX0_add_25 : decode cX0_add 25 = .ok (.aload_n 0, 1) := by decide +kernel
theorem dX0_add_26 : decode cX0_add 26 = .ok (.getfield 9, 3) := by decide +kernel
theorem dX0_add_29 : decode cX0_add 29 = .ok (.iload_n 2, 1) := by decide +kernel
theorem dX0_add_30 : decode cX0_add 30 = .ok (.iastore, 1) := by decide +kernel
theorem dX0_add_31 : decode cX0_add 31 = .ok (.aload_n 0, 1) := by decide +kernel
theorem dX0_add_32 : decode cX0_add 32 = .ok (.getfield 22, 3) := by decide +kernel
theorem dX0_add_35 : decode cX0_add 35 = .ok (.aload_n 0, 1) := by decide +kernel
theorem dX0_add_36 : decode cX0_add 36 = .ok (.getfield 9, 3) := by decide +kernel
theorem dX0_add_39 : decode cX0_add 39 = .ok (.iload_n 3, 1) := by decide +kernel
theorem dX0_add_40 : decode cX0_add 40 = .ok (.iastore, 1) := by decide +kernel
theorem dX0_add_41 : decode cX0_add 41 = .ok (.aload_n 0, 1) := by decide +kernel
theorem dX0_add_42 : decode cX0_add 42 = .ok (.dup, 1) := by decide +kernel
theorem dX0_add_43 : decode cX0_add 43 = .ok (.getfield 9, 3) := by decide +kernel
theorem dX0_add_46 : decode cX0_add 46 = .ok (.dup_x1, 1) := by decide +kernel
theorem dX0_add_47 : decode cX0_add 47 = .ok (.iconst 1, 1) := by decide +kernel
theorem dX0_add_48 : decode cX0_add 48 = .ok (.iadd, 1) := by decide +kernel
theorem dX0_add_49 : decode cX0_add 49 = .ok (.putfield 9, 3) := by decide +kernel
theorem dX0_add_52 : decode cX0_add 52 = .ok (.ireturn, 1) := by decide +kernel
theorem dX0_roomOf_0 : decode cX0_roomOf 0 = .ok (.iload_n 1, 1) := by decide +kernel
theorem dX0_roomOf_1 : decode cX0_roomOf 1 = .ok (.aload_n 0, 1) := by decide +kernel
theorem dX0_roomOf_2 : decode cX0_roomOf 2 = .ok (.getfield 9, 3) := by decide +kernel
theorem dX0_roomOf_5 : decode cX0_roomOf 5 = .ok (.if_icmp .ge 7, 3) := by decide +kernel
theorem dX0_roomOf_8 : decode cX0_roomOf 8 = .ok (.iload_n 1, 1) := by decide +kernel
theorem dX0_roomOf_9 : decode cX0_roomOf 9 = .ok (.goto 4, 3) := by decide +kernel
theorem dX0_roomOf_12 : decode cX0_roomOf 12 = .ok (.iconst 0, 1) := by decide +kernel
theorem dX0_roomOf_13 : decode cX0_roomOf 13 = .ok (.istore_n 3, 1) := by decide +kernel
theorem dX0_roomOf_14 : decode cX0_roomOf 14 = .ok (.iload_n 2, 1) := by decide +kernel
theorem dX0_roomOf_15 : decode cX0_roomOf 15 = .ok (.aload_n 0, 1) := by decide +kernel
theorem dX0_roomOf_16 : decode cX0_roomOf 16 = .ok (.getfield 22, 3) := by decide +kernel
theorem dX0_roomOf_19 : decode cX0_roomOf 19 = .ok (.iload_n 3, 1) := by decide +kernel
theorem dX0_roomOf_20 : decode cX0_roomOf 20 = .ok (.iaload, 1) := by decide +kernel
theorem dX0_roomOf_21 : decode cX0_roomOf 21 = .ok (.isub, 1) := by decide +kernel
theorem dX0_roomOf_22 : decode cX0_roomOf 22 = .ok (.istore 4, 2) := by decide +kernel
theorem dX0_roomOf_24 : decode cX0_roomOf 24 = .ok (.iload 4, 2) := by decide +kernel
theorem dX0_roomOf_26 : decode cX0_roomOf 26 = .ok (.ifCond .lt 25, 3) := by decide +kernel
theorem dX0_roomOf_29 : decode cX0_roomOf 29 = .ok (.aload_n 0, 1) := by decide +kernel
theorem dX0_roomOf_30 : decode cX0_roomOf 30 = .ok (.getfield 19, 3) := by decide +kernel
theorem dX0_roomOf_33 : decode cX0_roomOf 33 = .ok (.iload_n 3, 1) := by decide +kernel
theorem dX0_roomOf_34 : decode cX0_roomOf 34 = .ok (.iaload, 1) := by decide +kernel
theorem dX0_roomOf_35 : decode cX0_roomOf 35 = .ok (.iconst 1, 1) := by decide +kernel
theorem dX0_roomOf_36 : decode cX0_roomOf 36 = .ok (.if_icmp .lt 15, 3) := by decide +kernel
theorem dX0_roomOf_39 : decode cX0_roomOf 39 = .ok (.iload 4, 2) := by decide +kernel
theorem dX0_roomOf_41 : decode cX0_roomOf 41 = .ok (.aload_n 0, 1) := by decide +kernel
theorem dX0_roomOf_42 : decode cX0_roomOf 42 = .ok (.getfield 19, 3) := by decide +kernel
theorem dX0_roomOf_45 : decode cX0_roomOf 45 = .ok (.iload_n 3, 1) := by decide +kernel
theorem dX0_roomOf_46 : decode cX0_roomOf 46 = .ok (.iaload, 1) := by decide +kernel
theorem dX0_roomOf_47 : decode cX0_roomOf 47 = .ok (.irem, 1) := by decide +kernel
theorem dX0_roomOf_48 : decode cX0_roomOf 48 = .ok (.ifCond .eq 5, 3) := by decide +kernel
theorem dX0_roomOf_51 : decode cX0_roomOf 51 = .ok (.iconst 0, 1) := by decide +kernel
theorem dX0_roomOf_52 : decode cX0_roomOf 52 = .ok (.ireturn, 1) := by decide +kernel
theorem dX0_roomOf_53 : decode cX0_roomOf 53 = .ok (.aload_n 0, 1) := by decide +kernel
theorem dX0_roomOf_54 : decode cX0_roomOf 54 = .ok (.getfield 15, 3) := by decide +kernel
theorem dX0_roomOf_57 : decode cX0_roomOf 57 = .ok (.iload_n 3, 1) := by decide +kernel
theorem dX0_roomOf_58 : decode cX0_roomOf 58 = .ok (.iaload, 1) := by decide +kernel
theorem dX0_roomOf_59 : decode cX0_roomOf 59 = .ok (.ireturn, 1) := by decide +kernel
theorem dX0_roomIn_0 : decode cX0_roomIn 0 = .ok (.iconst 0, 1) := by decide +kernel
theorem dX0_roomIn_1 : decode cX0_roomIn 1 = .ok (.istore_n 2, 1) := by decide +kernel
theorem dX0_roomIn_2 : decode cX0_roomIn 2 = .ok (.iconst 0, 1) := by decide +kernel
theorem dX0_roomIn_3 : decode cX0_roomIn 3 = .ok (.istore_n 3, 1) := by decide +kernel
theorem dX0_roomIn_4 : decode cX0_roomIn 4 = .ok (.iload_n 3, 1) := by decide +kernel
theorem dX0_roomIn_5 : decode cX0_roomIn 5 = .ok (.aload_n 0, 1) := by decide +kernel
theorem dX0_roomIn_6 : decode cX0_roomIn 6 = .ok (.getfield 9, 3) := by decide +kernel
theorem dX0_roomIn_9 : decode cX0_roomIn 9 = .ok (.if_icmp .ge 18, 3) := by decide +kernel
theorem dX0_roomIn_12 : decode cX0_roomIn 12 = .ok (.iload_n 2, 1) := by decide +kernel
theorem dX0_roomIn_13 : decode cX0_roomIn 13 = .ok (.aload_n 0, 1) := by decide +kernel
theorem dX0_roomIn_14 : decode cX0_roomIn 14 = .ok (.iload_n 3, 1) := by decide +kernel
theorem dX0_roomIn_15 : decode cX0_roomIn 15 = .ok (.iload_n 1, 1) := by decide +kernel
theorem dX0_roomIn_16 : decode cX0_roomIn 16 = .ok (.invokevirtual 25, 3) := by decide +kernel
theorem dX0_roomIn_19 : decode cX0_roomIn 19 = .ok (.iadd, 1) := by decide +kernel
theorem dX0_roomIn_20 : decode cX0_roomIn 20 = .ok (.istore_n 2, 1) := by decide +kernel
theorem dX0_roomIn_21 : decode cX0_roomIn 21 = .ok (.iinc 3 1, 3) := by decide +kernel
theorem dX0_roomIn_24 : decode cX0_roomIn 24 = .ok (.goto (-20), 3) := by decide +kernel
theorem dX0_roomIn_27 : decode cX0_roomIn 27 = .ok (.iload_n 2, 1) := by decide +kernel
theorem dX0_roomIn_28 : decode cX0_roomIn 28 = .ok (.ireturn, 1) := by decide +kernel
theorem dX1_init_0 : decode cX1_init 0 = .ok (.aload_n 0, 1) := by decide +kernel
theorem dX1_init_1 : decode cX1_init 1 = .ok (.invokespecial 3, 3) := by decide +kernel
theorem dX1_init_4 : decode cX1_init 4 = .ok (.aload_n 0, 1) := by decide +kernel
theorem dX1_init_5 : decode cX1_init 5 = .ok (.bipush 120, 2) := by decide +kernel
theorem dX1_init_7 : decode cX1_init 7 = .ok (.newarray .int, 2) := by decide +kernel
theorem dX1_init_9 : decode cX1_init 9 = .ok (.putfield 9, 3) := by decide +kernel
theorem dX1_init_12 : decode cX1_init 12 = .ok (.aload_n 0, 1) := by decide +kernel
theorem dX1_init_13 : decode cX1_init 13 = .ok (.bipush 120, 2) := by decide +kernel
theorem dX1_init_15 : decode cX1_init 15 = .ok (.newarray .int, 2) := by decide +kernel
theorem dX1_init_17 : decode cX1_init 17 = .ok (.putfield 15, 3) := by decide +kernel
theorem dX1_init_20 : decode cX1_init 20 = .ok (.aload_n 0, 1) := by decide +kernel
theorem dX1_init_21 : decode cX1_init 21 = .ok (.bipush 6, 2) := by decide +kernel
theorem dX1_init_23 : decode cX1_init 23 = .ok (.newarray .int, 2) := by decide +kernel
theorem dX1_init_25 : decode cX1_init 25 = .ok (.putfield 18, 3) := by decide +kernel
theorem dX1_init_28 : decode cX1_init 28 = .ok (.aload_n 0, 1) := by decide +kernel
theorem dX1_init_29 : decode cX1_init 29 = .ok (.bipush 6, 2) := by decide +kernel
theorem dX1_init_31 : decode cX1_init 31 = .ok (.newarray .int, 2) := by decide +kernel
theorem dX1_init_33 : decode cX1_init 33 = .ok (.putfield 21, 3) := by decide +kernel
theorem dX1_init_36 : decode cX1_init 36 = .ok (.aload_n 0, 1) := by decide +kernel
theorem dX1_init_37 : decode cX1_init 37 = .ok (.bipush 6, 2) := by decide +kernel
theorem dX1_init_39 : decode cX1_init 39 = .ok (.newarray .int, 2) := by decide +kernel
theorem dX1_init_41 : decode cX1_init 41 = .ok (.putfield 24, 3) := by decide +kernel
theorem dX1_init_44 : decode cX1_init 44 = .ok (.aload_n 0, 1) := by decide +kernel
theorem dX1_init_45 : decode cX1_init 45 = .ok (.bipush 6, 2) := by decide +kernel
theorem dX1_init_47 : decode cX1_init 47 = .ok (.bipush 120, 2) := by decide +kernel
theorem dX1_init_49 : decode cX1_init 49 = .ok (.multianewarray 27 2, 4) := by decide +kernel
theorem dX1_init_53 : decode cX1_init 53 = .ok (.putfield 29, 3) := by decide +kernel
theorem dX1_init_56 : decode cX1_init 56 = .ok (.aload_n 0, 1) := by decide +kernel
theorem dX1_init_57 : decode cX1_init 57 = .ok (.bipush 6, 2) := by decide +kernel
theorem dX1_init_59 : decode cX1_init 59 = .ok (.newarray .int, 2) := by decide +kernel
theorem dX1_init_61 : decode cX1_init 61 = .ok (.putfield 32, 3) := by decide +kernel
theorem dX1_init_64 : decode cX1_init 64 = .ok (.aload_n 0, 1) := by decide +kernel
theorem dX1_init_65 : decode cX1_init 65 = .ok (.bipush 6, 2) := by decide +kernel
theorem dX1_init_67 : decode cX1_init 67 = .ok (.newarray .int, 2) := by decide +kernel
theorem dX1_init_69 : decode cX1_init 69 = .ok (.putfield 35, 3) := by decide +kernel
theorem dX1_init_72 : decode cX1_init 72 = .ok (.aload_n 0, 1) := by decide +kernel
theorem dX1_init_73 : decode cX1_init 73 = .ok (.bipush 6, 2) := by decide +kernel
theorem dX1_init_75 : decode cX1_init 75 = .ok (.bipush 120, 2) := by decide +kernel
theorem dX1_init_77 : decode cX1_init 77 = .ok (.multianewarray 27 2, 4) := by decide +kernel
theorem dX1_init_81 : decode cX1_init 81 = .ok (.putfield 38, 3) := by decide +kernel
theorem dX1_init_84 : decode cX1_init 84 = .ok (.aload_n 0, 1) := by decide +kernel
theorem dX1_init_85 : decode cX1_init 85 = .ok (.iconst 0, 1) := by decide +kernel
theorem dX1_init_86 : decode cX1_init 86 = .ok (.putfield 41, 3) := by decide +kernel
theorem dX1_init_89 : decode cX1_init 89 = .ok (.aload_n 0, 1) := by decide +kernel
theorem dX1_init_90 : decode cX1_init 90 = .ok (.bipush 24, 2) := by decide +kernel
theorem dX1_init_92 : decode cX1_init 92 = .ok (.newarray .int, 2) := by decide +kernel
theorem dX1_init_94 : decode cX1_init 94 = .ok (.putfield 45, 3) := by decide +kernel
theorem dX1_init_97 : decode cX1_init 97 = .ok (.aload_n 0, 1) := by decide +kernel
theorem dX1_init_98 : decode cX1_init 98 = .ok (.iconst 0, 1) := by decide +kernel
theorem dX1_init_99 : decode cX1_init 99 = .ok (.putfield 48, 3) := by decide +kernel
theorem dX1_init_102 : decode cX1_init 102 = .ok (.aload_n 0, 1) := by decide +kernel
theorem dX1_init_103 : decode cX1_init 103 = .ok (.iconst 0, 1) := by decide +kernel
theorem dX1_init_104 : decode cX1_init 104 = .ok (.putfield 51, 3) := by decide +kernel
theorem dX1_init_107 : decode cX1_init 107 = .ok (.return_, 1) := by decide +kernel
theorem dX1_hearWay_0 : decode cX1_hearWay 0 = .ok (.iconst 0, 1) := by decide +kernel
theorem dX1_hearWay_1 : decode cX1_hearWay 1 = .ok (.istore 4, 2) := by decide +kernel
theorem dX1_hearWay_3 : decode cX1_hearWay 3 = .ok (.iload 4, 2) := by decide +kernel
theorem dX1_hearWay_5 : decode cX1_hearWay 5 = .ok (.aload_n 3, 1) := by decide +kernel
theorem dX1_hearWay_6 : decode cX1_hearWay 6 = .ok (.getfield 54, 3) := by decide +kernel
theorem dX1_hearWay_9 : decode cX1_hearWay 9 = .ok (.if_icmp .ge 37, 3) := by decide +kernel
theorem dX1_hearWay_12 : decode cX1_hearWay 12 = .ok (.aload_n 0, 1) := by decide +kernel
theorem dX1_hearWay_13 : decode cX1_hearWay 13 = .ok (.getfield 9, 3) := by decide +kernel
theorem dX1_hearWay_16 : decode cX1_hearWay 16 = .ok (.iload 4, 2) := by decide +kernel
theorem dX1_hearWay_18 : decode cX1_hearWay 18 = .ok (.aload_n 1, 1) := by decide +kernel
theorem dX1_hearWay_19 : decode cX1_hearWay 19 = .ok (.iload 4, 2) := by decide +kernel
theorem dX1_hearWay_21 : decode cX1_hearWay 21 = .ok (.iload_n 2, 1) := by decide +kernel
theorem dX1_hearWay_22 : decode cX1_hearWay 22 = .ok (.invokevirtual 59, 3) := by decide +kernel
theorem dX1_hearWay_25 : decode cX1_hearWay 25 = .ok (.iastore, 1) := by decide +kernel
theorem dX1_hearWay_26 : decode cX1_hearWay 26 = .ok (.aload_n 0, 1) := by decide +kernel
theorem dX1_hearWay_27 : decode cX1_hearWay 27 = .ok (.getfield 15, 3) := by decide +kernel
theorem dX1_hearWay_30 : decode cX1_hearWay 30 = .ok (.iload 4, 2) := by decide +kernel
theorem dX1_hearWay_32 : decode cX1_hearWay 32 = .ok (.aload_n 1, 1) := by decide +kernel
theorem dX1_hearWay_33 : decode cX1_hearWay 33 = .ok (.iload 4, 2) := by decide +kernel
theorem dX1_hearWay_35 : decode cX1_hearWay 35 = .ok (.iload_n 2, 1) := by decide +kernel
theorem dX1_hearWay_36 : decode cX1_hearWay 36 = .ok (.invokevirtual 65, 3) := by decide +kernel
theorem dX1_hearWay_39 : decode cX1_hearWay 39 = .ok (.iastore, 1) := by decide +kernel
theorem dX1_hearWay_40 : decode cX1_hearWay 40 = .ok (.iinc 4 1, 3) := by decide +kernel
theorem dX1_hearWay_43 : decode cX1_hearWay 43 = .ok (.goto (-40), 3) := by decide +kernel
theorem dX1_hearWay_46 : decode cX1_hearWay 46 = .ok (.iconst 0, 1) := by decide +kernel
theorem dX1_hearWay_47 : decode cX1_hearWay 47 = .ok (.istore 4, 2) := by decide +kernel
theorem dX1_hearWay_49 : decode cX1_hearWay 49 = .ok (.iload 4, 2) := by decide +kernel
theorem dX1_hearWay_51 : decode cX1_hearWay 51 = .ok (.aload_n 3, 1) := by decide +kernel
theorem dX1_hearWay_52 : decode cX1_hearWay 52 = .ok (.getfield 68, 3) := by decide +kernel
theorem dX1_hearWay_55 : decode cX1_hearWay 55 = .ok (.if_icmp .ge 29, 3) := by decide +kernel
theorem dX1_hearWay_58 : decode cX1_hearWay 58 = .ok (.aload_n 0, 1) := by decide +kernel
theorem dX1_hearWay_59 : decode cX1_hearWay 59 = .ok (.getfield 18, 3) := by decide +kernel
theorem dX1_hearWay_62 : decode cX1_hearWay 62 = .ok (.iload 4, 2) := by decide +kernel
theorem dX1_hearWay_64 : decode cX1_hearWay 64 = .ok (.aload_n 1, 1) := by decide +kernel
theorem dX1_hearWay_65 : decode cX1_hearWay 65 = .ok (.iload 4, 2) := by decide +kernel
theorem dX1_hearWay_67 : decode cX1_hearWay 67 = .ok (.aload_n 3, 1) := by decide +kernel
theorem dX1_hearWay_68 : decode cX1_hearWay 68 = .ok (.getfield 71, 3) := by decide +kernel
theorem dX1_hearWay_71 : decode cX1_hearWay 71 = .ok (.iload 4, 2) := by decide +kernel
theorem dX1_hearWay_73 : decode cX1_hearWay 73 = .ok (.iaload, 1) := by decide +kernel
theorem dX1_hearWay_74 : decode cX1_hearWay 74 = .ok (.invokevirtual 74, 3) := by decide +kernel
theorem dX1_hearWay_77 : decode cX1_hearWay 77 = .ok (.iastore, 1) := by decide +kernel
theorem dX1_hearWay_78 : decode cX1_hearWay 78 = .ok (.iinc 4 1, 3) := by decide +kernel
theorem dX1_hearWay_81 : decode cX1_hearWay 81 = .ok (.goto (-32), 3) := by decide +kernel
theorem dX1_hearWay_84 : decode cX1_hearWay 84 = .ok (.return_, 1) := by decide +kernel
theorem dX1_hearSheet_0 : decode cX1_hearSheet 0 = .ok (.aload_n 1, 1) := by decide +kernel
theorem dX1_hearSheet_1 : decode cX1_hearSheet 1 = .ok (.getfield 77, 3) := by decide +kernel
theorem dX1_hearSheet_4 : decode cX1_hearSheet 4 = .ok (.iconst 0, 1) := by decide +kernel
theorem dX1_hearSheet_5 : decode cX1_hearSheet 5 = .ok (.aload_n 0, 1) := by decide +kernel
theorem dX1_hearSheet_6 : decode cX1_hearSheet 6 = .ok (.getfield 9, 3) := by decide +kernel
theorem dX1_hearSheet_9 : decode cX1_hearSheet 9 = .ok (.iconst 0, 1) := by decide +kernel
theorem dX1_hearSheet_10 : decode cX1_hearSheet 10 = .ok (.aload_n 1, 1) := by decide +kernel
theorem dX1_hearSheet_11 : decode cX1_hearSheet 11 = .ok (.getfield 82, 3) := by decide +kernel
theorem dX1_hearSheet_14 : decode cX1_hearSheet 14 = .ok (.invokestatic 85, 3) := by decide +kernel
theorem dX1_hearSheet_17 : decode cX1_hearSheet 17 = .ok (.return_, 1) := by decide +kernel
theorem dX1_run_0 : decode cX1_run 0 = .ok (.aload_n 0, 1) := by decide +kernel
theorem dX1_run_1 : decode cX1_run 1 = .ok (.aload_n 1, 1) := by decide +kernel
theorem dX1_run_2 : decode cX1_run 2 = .ok (.invokevirtual 91, 3) := by decide +kernel
theorem dX1_run_5 : decode cX1_run 5 = .ok (.iconst 0, 1) := by decide +kernel
theorem dX1_run_6 : decode cX1_run 6 = .ok (.istore 5, 2) := by decide +kernel
theorem dX1_run_8 : decode cX1_run 8 = .ok (.iload 5, 2) := by decide +kernel
theorem dX1_run_10 : decode cX1_run 10 = .ok (.aload_n 1, 1) := by decide +kernel
theorem dX1_run_11 : decode cX1_run 11 = .ok (.getfield 54, 3) := by decide +kernel
theorem dX1_run_14 : decode cX1_run 14 = .ok (.if_icmp .ge 45, 3) := by decide +kernel
theorem dX1_run_17 : decode cX1_run 17 = .ok (.aload_n 0, 1) := by decide +kernel
theorem dX1_run_18 : decode cX1_run 18 = .ok (.aload_n 1, 1) := by decide +kernel
theorem dX1_run_19 : decode cX1_run 19 = .ok (.aload 4, 2) := by decide +kernel
theorem dX1_run_21 : decode cX1_run 21 = .ok (.iload 5, 2) := by decide +kernel
theorem dX1_run_23 : decode cX1_run 23 = .ok (.invokevirtual 95, 3) := by decide +kernel
theorem dX1_run_26 : decode cX1_run 26 = .ok (.aload_n 1, 1) := by decide +kernel
theorem dX1_run_27 : decode cX1_run 27 = .ok (.iload 5, 2) := by decide +kernel
theorem dX1_run_29 : decode cX1_run 29 = .ok (.invokevirtual 99, 3) := by decide +kernel
theorem dX1_run_32 : decode cX1_run 32 = .ok (.ifCond .ne 14, 3) := by decide +kernel
theorem dX1_run_35 : decode cX1_run 35 = .ok (.aload_n 0, 1) := by decide +kernel
theorem dX1_run_36 : decode cX1_run 36 = .ok (.aload_n 1, 1) := by decide +kernel
theorem dX1_run_37 : decode cX1_run 37 = .ok (.aload_n 2, 1) := by decide +kernel
theorem dX1_run_38 : decode cX1_run 38 = .ok (.iload_n 3, 1) := by decide +kernel
theorem dX1_run_39 : decode cX1_run 39 = .ok (.aload 4, 2) := by decide +kernel
theorem dX1_run_41 : decode cX1_run 41 = .ok (.iload 5, 2) := by decide +kernel
theorem dX1_run_43 : decode cX1_run 43 = .ok (.invokevirtual 103, 3) := by decide +kernel
theorem dX1_run_46 : decode cX1_run 46 = .ok (.aload_n 0, 1) := by decide +kernel
theorem dX1_run_47 : decode cX1_run 47 = .ok (.aload_n 1, 1) := by decide +kernel
theorem dX1_run_48 : decode cX1_run 48 = .ok (.iload 5, 2) := by decide +kernel
theorem dX1_run_50 : decode cX1_run 50 = .ok (.invokevirtual 107, 3) := by decide +kernel
theorem dX1_run_53 : decode cX1_run 53 = .ok (.iinc 5 1, 3) := by decide +kernel
theorem dX1_run_56 : decode cX1_run 56 = .ok (.goto (-48), 3) := by decide +kernel
theorem dX1_run_59 : decode cX1_run 59 = .ok (.return_, 1) := by decide +kernel
theorem dX1_begin_0 : decode cX1_begin 0 = .ok (.iconst 0, 1) := by decide +kernel
theorem dX1_begin_1 : decode cX1_begin 1 = .ok (.istore_n 2, 1) := by decide +kernel
theorem dX1_begin_2 : decode cX1_begin 2 = .ok (.iload_n 2, 1) := by decide +kernel
theorem dX1_begin_3 : decode cX1_begin 3 = .ok (.aload_n 1, 1) := by decide +kernel
theorem dX1_begin_4 : decode cX1_begin 4 = .ok (.getfield 68, 3) := by decide +kernel
theorem dX1_begin_7 : decode cX1_begin 7 = .ok (.if_icmp .ge 45, 3) := by decide +kernel
theorem dX1_begin_10 : decode cX1_begin 10 = .ok (.aload_n 0, 1) := by decide +kernel
theorem dX1_begin_11 : decode cX1_begin 11 = .ok (.getfield 24, 3) := by decide +kernel
theorem dX1_begin_14 : decode cX1_begin 14 = .ok (.iload_n 2, 1) := by decide +kernel
theorem dX1_begin_15 : decode cX1_begin 15 = .ok (.aload_n 1, 1) := by decide +kernel
theorem dX1_begin_16 : decode cX1_begin 16 = .ok (.getfield 111, 3) := by decide +kernel
theorem dX1_begin_19 : decode cX1_begin 19 = .ok (.iload_n 2, 1) := by decide +kernel
theorem dX1_begin_20 : decode cX1_begin 20 = .ok (.iaload, 1) := by decide +kernel
theorem dX1_begin_21 : decode cX1_begin 21 = .ok (.iastore, 1) := by decide +kernel
theorem dX1_begin_22 : decode cX1_begin 22 = .ok (.aload_n 0, 1) := by decide +kernel
theorem dX1_begin_23 : decode cX1_begin 23 = .ok (.getfield 32, 3) := by decide +kernel
theorem dX1_begin_26 : decode cX1_begin 26 = .ok (.iload_n 2, 1) := by decide +kernel
theorem dX1_begin_27 : decode cX1_begin 27 = .ok (.iconst 0, 1) := by decide +kernel
theorem dX1_begin_28 : decode cX1_begin 28 = .ok (.iastore, 1) := by decide +kernel
theorem dX1_begin_29 : decode cX1_begin 29 = .ok (.aload_n 0, 1) := by decide +kernel
theorem dX1_begin_30 : decode cX1_begin 30 = .ok (.getfield 35, 3) := by decide +kernel
theorem dX1_begin_33 : decode cX1_begin 33 = .ok (.iload_n 2, 1) := by decide +kernel
theorem dX1_begin_34 : decode cX1_begin 34 = .ok (.iconst 0, 1) := by decide +kernel
theorem dX1_begin_35 : decode cX1_begin 35 = .ok (.iastore, 1) := by decide +kernel
theorem dX1_begin_36 : decode cX1_begin 36 = .ok (.aload_n 0, 1) := by decide +kernel
theorem dX1_begin_37 : decode cX1_begin 37 = .ok (.getfield 29, 3) := by decide +kernel
theorem dX1_begin_40 : decode cX1_begin 40 = .ok (.iload_n 2, 1) := by decide +kernel
theorem dX1_begin_41 : decode cX1_begin 41 = .ok (.aaload, 1) := by decide +kernel
theorem dX1_begin_42 : decode cX1_begin 42 = .ok (.iconst 0, 1) := by decide +kernel
theorem dX1_begin_43 : decode cX1_begin 43 = .ok (.invokestatic 112, 3) := by decide +kernel
theorem dX1_begin_46 : decode cX1_begin 46 = .ok (.iinc 2 1, 3) := by decide +kernel
theorem dX1_begin_49 : decode cX1_begin 49 = .ok (.goto (-47), 3) := by decide +kernel
theorem dX1_begin_52 : decode cX1_begin 52 = .ok (.aload_n 0, 1) := by decide +kernel
theorem dX1_begin_53 : decode cX1_begin 53 = .ok (.getfield 45, 3) := by decide +kernel
theorem dX1_begin_56 : decode cX1_begin 56 = .ok (.iconst 0, 1) := by decide +kernel
theorem dX1_begin_57 : decode cX1_begin 57 = .ok (.invokestatic 112, 3) := by decide +kernel
theorem dX1_begin_60 : decode cX1_begin 60 = .ok (.aload_n 0, 1) := by decide +kernel
theorem dX1_begin_61 : decode cX1_begin 61 = .ok (.iconst 0, 1) := by decide +kernel
theorem dX1_begin_62 : decode cX1_begin 62 = .ok (.putfield 41, 3) := by decide +kernel
theorem dX1_begin_65 : decode cX1_begin 65 = .ok (.aload_n 0, 1) := by decide +kernel
theorem dX1_begin_66 : decode cX1_begin 66 = .ok (.iconst 0, 1) := by decide +kernel
theorem dX1_begin_67 : decode cX1_begin 67 = .ok (.putfield 48, 3) := by decide +kernel
theorem dX1_begin_70 : decode cX1_begin 70 = .ok (.aload_n 0, 1) := by decide +kernel
theorem dX1_begin_71 : decode cX1_begin 71 = .ok (.iconst 0, 1) := by decide +kernel
theorem dX1_begin_72 : decode cX1_begin 72 = .ok (.putfield 51, 3) := by decide +kernel
theorem dX1_begin_75 : decode cX1_begin 75 = .ok (.return_, 1) := by decide +kernel
theorem dX1_sendPeople_0 : decode cX1_sendPeople 0 = .ok (.aload_n 0, 1) := by decide +kernel
theorem dX1_sendPeople_1 : decode cX1_sendPeople 1 = .ok (.getfield 41, 3) := by decide +kernel
theorem dX1_sendPeople_4 : decode cX1_sendPeople 4 = .ok (.istore 4, 2) := by decide +kernel
theorem dX1_sendPeople_6 : decode cX1_sendPeople 6 = .ok (.iconst 0, 1) := by decide +kernel
theorem dX1_sendPeople_7 : decode cX1_sendPeople 7 = .ok (.istore 5, 2) := by decide +kernel
theorem dX1_sendPeople_9 : decode cX1_sendPeople 9 = .ok (.iload 5, 2) := by decide +kernel
theorem dX1_sendPeople_11 : decode cX1_sendPeople 11 = .ok (.aload_n 1, 1) := by decide +kernel
theorem dX1_sendPeople_12 : decode cX1_sendPeople 12 = .ok (.getfield 68, 3) := by decide +kernel
theorem dX1_sendPeople_15 : decode cX1_sendPeople 15 = .ok (.if_icmp .ge 96, 3) := by decide +kernel
theorem dX1_sendPeople_18 : decode cX1_sendPeople 18 = .ok (.aload_n 0, 1) := by decide +kernel
theorem dX1_sendPeople_19 : decode cX1_sendPeople 19 = .ok (.getfield 24, 3) := by decide +kernel
theorem dX1_sendPeople_22 : decode cX1_sendPeople 22 = .ok (.iload 5, 2) := by decide +kernel
theorem dX1_sendPeople_24 : decode cX1_sendPeople 24 = .ok (.iaload, 1) := by decide +kernel
theorem dX1_sendPeople_25 : decode cX1_sendPeople 25 = .ok (.ifCond .ne 7, 3) := by decide +kernel
theorem dX1_sendPeople_28 : decode cX1_sendPeople 28 = .ok (.iconst 0, 1) := by decide +kernel
theorem dX1_sendPeople_29 : decode cX1_sendPeople 29 = .ok (.goto 14, 3) := by decide +kernel
theorem dX1_sendPeople_32 : decode cX1_sendPeople 32 = .ok (.aload_n 0, 1) := by decide +kernel
theorem dX1_sendPeople_33 : decode cX1_sendPeople 33 = .ok (.aload_n 1, 1) := by decide +kernel
theorem dX1_sendPeople_34 : decode cX1_sendPeople 34 = .ok (.aload_n 2, 1) := by decide +kernel
theorem dX1_sendPeople_35 : decode cX1_sendPeople 35 = .ok (.iload 5, 2) := by decide +kernel
theorem dX1_sendPeople_37 : decode cX1_sendPeople 37 = .ok (.iload_n 3, 1) := by decide +kernel
theorem dX1_sendPeople_38 : decode cX1_sendPeople 38 = .ok (.iload 4, 2) := by decide +kernel
theorem dX1_sendPeople_40 : decode cX1_sendPeople 40 = .ok (.invokevirtual 118, 3) := by decide +kernel
theorem dX1_sendPeople_43 : decode cX1_sendPeople 43 = .ok (.istore 6, 2) := by decide +kernel
theorem dX1_sendPeople_45 : decode cX1_sendPeople 45 = .ok (.iload_n 3, 1) := by decide +kernel
theorem dX1_sendPeople_46 : decode cX1_sendPeople 46 = .ok (.aload_n 1, 1) := by decide +kernel
theorem dX1_sendPeople_47 : decode cX1_sendPeople 47 = .ok (.getfield 71, 3) := by decide +kernel
theorem dX1_sendPeople_50 : decode cX1_sendPeople 50 = .ok (.iload 5, 2) := by decide +kernel
theorem dX1_sendPeople_52 : decode cX1_sendPeople 52 = .ok (.iaload, 1) := by decide +kernel
theorem dX1_sendPeople_53 : decode cX1_sendPeople 53 = .ok (.iadd, 1) := by decide +kernel
theorem dX1_sendPeople_54 : decode cX1_sendPeople 54 = .ok (.istore 7, 2) := by decide +kernel
theorem dX1_sendPeople_56 : decode cX1_sendPeople 56 = .ok (.aload_n 0, 1) := by decide +kernel
theorem dX1_sendPeople_57 : decode cX1_sendPeople 57 = .ok (.getfield 24, 3) := by decide +kernel
theorem dX1_sendPeople_60 : decode cX1_sendPeople 60 = .ok (.iload 5, 2) := by decide +kernel
theorem dX1_sendPeople_62 : decode cX1_sendPeople 62 = .ok (.dup2, 1) := by decide +kernel
theorem dX1_sendPeople_63 : decode cX1_sendPeople 63 = .ok (.iaload, 1) := by decide +kernel
theorem dX1_sendPeople_64 : decode cX1_sendPeople 64 = .ok (.iload 6, 2) := by decide +kernel
theorem dX1_sendPeople_66 : decode cX1_sendPeople 66 = .ok (.isub, 1) := by decide +kernel
theorem dX1_sendPeople_67 : decode cX1_sendPeople 67 = .ok (.iastore, 1) := by decide +kernel
theorem dX1_sendPeople_68 : decode cX1_sendPeople 68 = .ok (.iload 7, 2) := by decide +kernel
theorem dX1_sendPeople_70 : decode cX1_sendPeople 70 = .ok (.bipush 120, 2) := by decide +kernel
theorem dX1_sendPeople_72 : decode cX1_sendPeople 72 = .ok (.if_icmp .ge 15, 3) := by decide +kernel
theorem dX1_sendPeople_75 : decode cX1_sendPeople 75 = .ok (.aload_n 0, 1) := by decide +kernel
theorem dX1_sendPeople_76 : decode cX1_sendPeople 76 = .ok (.getfield 29, 3) := by decide +kernel
theorem dX1_sendPeople_79 : decode cX1_sendPeople 79 = .ok (.iload 5, 2) := by decide +kernel
theorem dX1_sendPeople_81 : decode cX1_sendPeople 81 = .ok (.aaload, 1) := by decide +kernel
theorem dX1_sendPeople_82 : decode cX1_sendPeople 82 = .ok (.iload 7, 2) := by decide +kernel
theorem dX1_sendPeople_84 : decode cX1_sendPeople 84 = .ok (.iload 6, 2) := by decide +kernel
theorem dX1_sendPeople_86 : decode cX1_sendPeople 86 = .ok (.iastore, 1) := by decide +kernel
theorem dX1_sendPeople_87 : decode cX1_sendPeople 87 = .ok (.aload_n 0, 1) := by decide +kernel
theorem dX1_sendPeople_88 : decode cX1_sendPeople 88 = .ok (.dup, 1) := by decide +kernel
theorem dX1_sendPeople_89 : decode cX1_sendPeople 89 = .ok (.getfield 41, 3) := by decide +kernel
theorem dX1_sendPeople_92 : decode cX1_sendPeople 92 = .ok (.aload_n 0, 1) := by decide +kernel
theorem dX1_sendPeople_93 : decode cX1_sendPeople 93 = .ok (.getfield 29, 3) := by decide +kernel
theorem dX1_sendPeople_96 : decode cX1_sendPeople 96 = .ok (.iload 5, 2) := by decide +kernel
theorem dX1_sendPeople_98 : decode cX1_sendPeople 98 = .ok (.aaload, 1) := by decide +kernel
theorem dX1_sendPeople_99 : decode cX1_sendPeople 99 = .ok (.iload_n 3, 1) := by decide +kernel
theorem dX1_sendPeople_100 : decode cX1_sendPeople 100 = .ok (.iaload, 1) := by decide +kernel
theorem dX1_sendPeople_101 : decode cX1_sendPeople 101 = .ok (.iadd, 1) := by decide +kernel
theorem dX1_sendPeople_102 : decode cX1_sendPeople 102 = .ok (.putfield 41, 3) := by decide +kernel
theorem dX1_sendPeople_105 : decode cX1_sendPeople 105 = .ok (.iinc 5 1, 3) := by decide +kernel
theorem dX1_sendPeople_108 : decode cX1_sendPeople 108 = .ok (.goto (-99), 3) := by decide +kernel
theorem dX1_sendPeople_111 : decode cX1_sendPeople 111 = .ok (.return_, 1) := by decide +kernel
theorem dX1_goingOf_0 : decode cX1_goingOf 0 = .ok (.aload_n 0, 1) := by decide +kernel
theorem dX1_goingOf_1 : decode cX1_goingOf 1 = .ok (.aload_n 1, 1) := by decide +kernel
theorem dX1_goingOf_2 : decode cX1_goingOf 2 = .ok (.iload_n 3, 1) := by decide +kernel
theorem dX1_goingOf_3 : decode cX1_goingOf 3 = .ok (.iload 4, 2) := by decide +kernel
theorem dX1_goingOf_5 : decode cX1_goingOf 5 = .ok (.iload 5, 2) := by decide +kernel
theorem dX1_goingOf_7 : decode cX1_goingOf 7 = .ok (.invokevirtual 122, 3) := by decide +kernel
theorem dX1_goingOf_10 : decode cX1_goingOf 10 = .ok (.aload_n 2, 1) := by decide +kernel
theorem dX1_goingOf_11 : decode cX1_goingOf 11 = .ok (.iconst 0, 1) := by decide +kernel
theorem dX1_goingOf_12 : decode cX1_goingOf 12 = .ok (.aload_n 0, 1) := by decide +kernel
theorem dX1_goingOf_13 : decode cX1_goingOf 13 = .ok (.getfield 21, 3) := by decide +kernel
theorem dX1_goingOf_16 : decode cX1_goingOf 16 = .ok (.invokevirtual 126, 3) := by decide +kernel
theorem dX1_goingOf_19 : decode cX1_goingOf 19 = .ok (.bipush (-99), 2) := by decide +kernel
theorem dX1_goingOf_21 : decode cX1_goingOf 21 = .ok (.sipush 400, 3) := by decide +kernel
theorem dX1_goingOf_24 : decode cX1_goingOf 24 = .ok (.invokestatic 132, 3) := by decide +kernel
theorem dX1_goingOf_27 : decode cX1_goingOf 27 = .ok (.istore 6, 2) := by decide +kernel
theorem dX1_goingOf_29 : decode cX1_goingOf 29 = .ok (.iconst 1, 1) := by decide +kernel
theorem dX1_goingOf_30 : decode cX1_goingOf 30 = .ok (.aload_n 1, 1) := by decide +kernel
theorem dX1_goingOf_31 : decode cX1_goingOf 31 = .ok (.getfield 136, 3) := by decide +kernel
theorem dX1_goingOf_34 : decode cX1_goingOf 34 = .ok (.iload_n 3, 1) := by decide +kernel
theorem dX1_goingOf_35 : decode cX1_goingOf 35 = .ok (.iaload, 1) := by decide +kernel
theorem dX1_goingOf_36 : decode cX1_goingOf 36 = .ok (.invokestatic 139, 3) := by decide +kernel
theorem dX1_goingOf_39 : decode cX1_goingOf 39 = .ok (.istore 7, 2) := by decide +kernel
theorem dX1_goingOf_41 : decode cX1_goingOf 41 = .ok (.aload_n 0, 1) := by decide +kernel
theorem dX1_goingOf_42 : decode cX1_goingOf 42 = .ok (.getfield 24, 3) := by decide +kernel
theorem dX1_goingOf_45 : decode cX1_goingOf 45 = .ok (.iload_n 3, 1) := by decide +kernel
theorem dX1_goingOf_46 : decode cX1_goingOf 46 = .ok (.iaload, 1) := by decide +kernel
theorem dX1_goingOf_47 : decode cX1_goingOf 47 = .ok (.iload 7, 2) := by decide +kernel
theorem dX1_goingOf_49 : decode cX1_goingOf 49 = .ok (.idiv, 1) := by decide +kernel
theorem dX1_goingOf_50 : decode cX1_goingOf 50 = .ok (.iload 6, 2) := by decide +kernel
theorem dX1_goingOf_52 : decode cX1_goingOf 52 = .ok (.iadd, 1) := by decide +kernel
theorem dX1_goingOf_53 : decode cX1_goingOf 53 = .ok (.iconst 0, 1) := by decide +kernel
theorem dX1_goingOf_54 : decode cX1_goingOf 54 = .ok (.aload_n 0, 1) := by decide +kernel
theorem dX1_goingOf_55 : decode cX1_goingOf 55 = .ok (.getfield 24, 3) := by decide +kernel
theorem dX1_goingOf_58 : decode cX1_goingOf 58 = .ok (.iload_n 3, 1) := by decide +kernel
theorem dX1_goingOf_59 : decode cX1_goingOf 59 = .ok (.iaload, 1) := by decide +kernel
theorem dX1_goingOf_60 : decode cX1_goingOf 60 = .ok (.invokestatic 132, 3) := by decide +kernel
theorem dX1_goingOf_63 : decode cX1_goingOf 63 = .ok (.ireturn, 1) := by decide +kernel
theorem dX1_setNames_0 : decode cX1_setNames 0 = .ok (.aload_n 0, 1) := by decide +kernel
theorem dX1_setNames_1 : decode cX1_setNames 1 = .ok (.getfield 21, 3) := by decide +kernel
theorem dX1_setNames_4 : decode cX1_setNames 4 = .ok (.iconst 0, 1) := by decide +kernel
theorem dX1_setNames_5 : decode cX1_setNames 5 = .ok (.aload_n 0, 1) := by decide +kernel
theorem dX1_setNames_6 : decode cX1_setNames 6 = .ok (.getfield 24, 3) := by decide +kernel
theorem dX1_setNames_9 : decode cX1_setNames 9 = .ok (.iload_n 2, 1) := by decide +kernel
theorem dX1_setNames_10 : decode cX1_setNames 10 = .ok (.iaload, 1) := by decide +kernel
theorem dX1_setNames_11 : decode cX1_setNames 11 = .ok (.iastore, 1) := by decide +kernel
theorem dX1_setNames_12 : decode cX1_setNames 12 = .ok (.aload_n 0, 1) := by decide +kernel
theorem dX1_setNames_13 : decode cX1_setNames 13 = .ok (.getfield 21, 3) := by decide +kernel
theorem dX1_setNames_16 : decode cX1_setNames 16 = .ok (.iconst 1, 1) := by decide +kernel
theorem dX1_setNames_17 : decode cX1_setNames 17 = .ok (.iload 4, 2) := by decide +kernel
theorem dX1_setNames_19 : decode cX1_setNames 19 = .ok (.iastore, 1) := by decide +kernel
theorem dX1_setNames_20 : decode cX1_setNames 20 = .ok (.aload_n 0, 1) := by decide +kernel
theorem dX1_setNames_21 : decode cX1_setNames 21 = .ok (.getfield 21, 3) := by decide +kernel
theorem dX1_setNames_24 : decode cX1_setNames 24 = .ok (.iconst 2, 1) := by decide +kernel
theorem dX1_setNames_25 : decode cX1_setNames 25 = .ok (.aload_n 1, 1) := by decide +kernel
theorem dX1_setNames_26 : decode cX1_setNames 26 = .ok (.getfield 54, 3) := by decide +kernel
theorem dX1_setNames_29 : decode cX1_setNames 29 = .ok (.iload_n 3, 1) := by decide +kernel
theorem dX1_setNames_30 : decode cX1_setNames 30 = .ok (.isub, 1) := by decide +kernel
theorem dX1_setNames_31 : decode cX1_setNames 31 = .ok (.iastore, 1) := by decide +kernel
theorem dX1_setNames_32 : decode cX1_setNames 32 = .ok (.aload_n 0, 1) := by decide +kernel
theorem dX1_setNames_33 : decode cX1_setNames 33 = .ok (.getfield 21, 3) := by decide +kernel
theorem dX1_setNames_36 : decode cX1_setNames 36 = .ok (.iconst 3, 1) := by decide +kernel
theorem dX1_setNames_37 : decode cX1_setNames 37 = .ok (.aload_n 0, 1) := by decide +kernel
theorem dX1_setNames_38 : decode cX1_setNames 38 = .ok (.getfield 15, 3) := by decide +kernel
theorem dX1_setNames_41 : decode cX1_setNames 41 = .ok (.iload_n 3, 1) := by decide +kernel
theorem dX1_setNames_42 : decode cX1_setNames 42 = .ok (.iaload, 1) := by decide +kernel
theorem dX1_setNames_43 : decode cX1_setNames 43 = .ok (.iastore, 1) := by decide +kernel
theorem dX1_setNames_44 : decode cX1_setNames 44 = .ok (.aload_n 0, 1) := by decide +kernel
theorem dX1_setNames_45 : decode cX1_setNames 45 = .ok (.getfield 21, 3) := by decide +kernel
theorem dX1_setNames_48 : decode cX1_setNames 48 = .ok (.iconst 4, 1) := by decide +kernel
theorem dX1_setNames_49 : decode cX1_setNames 49 = .ok (.aload_n 1, 1) := by decide +kernel
theorem dX1_setNames_50 : decode cX1_setNames 50 = .ok (.getfield 144, 3) := by decide +kernel
theorem dX1_setNames_53 : decode cX1_setNames 53 = .ok (.iload_n 2, 1) := by decide +kernel
theorem dX1_setNames_54 : decode cX1_setNames 54 = .ok (.iaload, 1) := by decide +kernel
theorem dX1_setNames_55 : decode cX1_setNames 55 = .ok (.aload_n 0, 1) := by decide +kernel
theorem dX1_setNames_56 : decode cX1_setNames 56 = .ok (.getfield 9, 3) := by decide +kernel
theorem dX1_setNames_59 : decode cX1_setNames 59 = .ok (.iload_n 3, 1) := by decide +kernel
theorem dX1_setNames_60 : decode cX1_setNames 60 = .ok (.iaload, 1) := by decide +kernel
theorem dX1_setNames_61 : decode cX1_setNames 61 = .ok (.imul, 1) := by decide +kernel
theorem dX1_setNames_62 : decode cX1_setNames 62 = .ok (.bipush 10, 2) := by decide +kernel
theorem dX1_setNames_64 : decode cX1_setNames 64 = .ok (.idiv, 1) := by decide +kernel
theorem dX1_setNames_65 : decode cX1_setNames 65 = .ok (.iastore, 1) := by decide +kernel
theorem dX1_setNames_66 : decode cX1_setNames 66 = .ok (.aload_n 0, 1) := by decide +kernel
theorem dX1_setNames_67 : decode cX1_setNames 67 = .ok (.getfield 21, 3) := by decide +kernel
theorem dX1_setNames_70 : decode cX1_setNames 70 = .ok (.iconst 5, 1) := by decide +kernel
theorem dX1_setNames_71 : decode cX1_setNames 71 = .ok (.aload_n 1, 1) := by decide +kernel
theorem dX1_setNames_72 : decode cX1_setNames 72 = .ok (.getfield 147, 3) := by decide +kernel
theorem dX1_setNames_75 : decode cX1_setNames 75 = .ok (.iload_n 3, 1) := by decide +kernel
theorem dX1_setNames_76 : decode cX1_setNames 76 = .ok (.iaload, 1) := by decide +kernel
theorem dX1_setNames_77 : decode cX1_setNames 77 = .ok (.iastore, 1) := by decide +kernel
theorem dX1_setNames_78 : decode cX1_setNames 78 = .ok (.return_, 1) := by decide +kernel
theorem dX1_sendCars_0 : decode cX1_sendCars 0 = .ok (.iconst 0, 1) := by decide +kernel
theorem dX1_sendCars_1 : decode cX1_sendCars 1 = .ok (.istore 6, 2) := by decide +kernel
theorem dX1_sendCars_3 : decode cX1_sendCars 3 = .ok (.iload 6, 2) := by decide +kernel
theorem dX1_sendCars_5 : decode cX1_sendCars 5 = .ok (.iload_n 3, 1) := by decide +kernel
theorem dX1_sendCars_6 : decode cX1_sendCars 6 = .ok (.if_icmp .ge 88, 3) := by decide +kernel
theorem dX1_sendCars_9 : decode cX1_sendCars 9 = .ok (.aload_n 0, 1) := by decide +kernel
theorem dX1_sendCars_10 : decode cX1_sendCars 10 = .ok (.getfield 41, 3) := by decide +kernel
theorem dX1_sendCars_13 : decode cX1_sendCars 13 = .ok (.ifCond .le 81, 3) := by decide +kernel
theorem dX1_sendCars_16 : decode cX1_sendCars 16 = .ok (.aload_n 2, 1) := by decide +kernel
theorem dX1_sendCars_17 : decode cX1_sendCars 17 = .ok (.iload 6, 2) := by decide +kernel
theorem dX1_sendCars_19 : decode cX1_sendCars 19 = .ok (.iload 5, 2) := by decide +kernel
theorem dX1_sendCars_21 : decode cX1_sendCars 21 = .ok (.invokevirtual 150, 3) := by decide +kernel
theorem dX1_sendCars_24 : decode cX1_sendCars 24 = .ok (.istore 7, 2) := by decide +kernel
theorem dX1_sendCars_26 : decode cX1_sendCars 26 = .ok (.iload 7, 2) := by decide +kernel
theorem dX1_sendCars_28 : decode cX1_sendCars 28 = .ok (.ifCond .ne 6, 3) := by decide +kernel
theorem dX1_sendCars_31 : decode cX1_sendCars 31 = .ok (.goto 57, 3) := by decide +kernel
theorem dX1_sendCars_34 : decode cX1_sendCars 34 = .ok (.aload_n 0, 1) := by decide +kernel
theorem dX1_sendCars_35 : decode cX1_sendCars 35 = .ok (.aload_n 1, 1) := by decide +kernel
theorem dX1_sendCars_36 : decode cX1_sendCars 36 = .ok (.iconst 0, 1) := by decide +kernel
theorem dX1_sendCars_37 : decode cX1_sendCars 37 = .ok (.iload 5, 2) := by decide +kernel
theorem dX1_sendCars_39 : decode cX1_sendCars 39 = .ok (.aload_n 0, 1) := by decide +kernel
theorem dX1_sendCars_40 : decode cX1_sendCars 40 = .ok (.getfield 41, 3) := by decide +kernel
theorem dX1_sendCars_43 : decode cX1_sendCars 43 = .ok (.invokevirtual 122, 3) := by decide +kernel
theorem dX1_sendCars_46 : decode cX1_sendCars 46 = .ok (.aload 4, 2) := by decide +kernel
theorem dX1_sendCars_48 : decode cX1_sendCars 48 = .ok (.iconst 1, 1) := by decide +kernel
theorem dX1_sendCars_49 : decode cX1_sendCars 49 = .ok (.aload_n 0, 1) := by decide +kernel
theorem dX1_sendCars_50 : decode cX1_sendCars 50 = .ok (.getfield 21, 3) := by decide +kernel
theorem dX1_sendCars_53 : decode cX1_sendCars 53 = .ok (.invokevirtual 126, 3) := by decide +kernel
theorem dX1_sendCars_56 : decode cX1_sendCars 56 = .ok (.iconst 0, 1) := by decide +kernel
theorem dX1_sendCars_57 : decode cX1_sendCars 57 = .ok (.bipush 60, 2) := by decide +kernel
theorem dX1_sendCars_59 : decode cX1_sendCars 59 = .ok (.invokestatic 132, 3) := by decide +kernel
theorem dX1_sendCars_62 : decode cX1_sendCars 62 = .ok (.istore 8, 2) := by decide +kernel
theorem dX1_sendCars_64 : decode cX1_sendCars 64 = .ok (.aload_n 0, 1) := by decide +kernel
theorem dX1_sendCars_65 : decode cX1_sendCars 65 = .ok (.iload 6, 2) := by decide +kernel
theorem dX1_sendCars_67 : decode cX1_sendCars 67 = .ok (.iload 7, 2) := by decide +kernel
theorem dX1_sendCars_69 : decode cX1_sendCars 69 = .ok (.iload 8, 2) := by decide +kernel
theorem dX1_sendCars_71 : decode cX1_sendCars 71 = .ok (.isub, 1) := by decide +kernel
theorem dX1_sendCars_72 : decode cX1_sendCars 72 = .ok (.aload_n 0, 1) := by decide +kernel
theorem dX1_sendCars_73 : decode cX1_sendCars 73 = .ok (.getfield 41, 3) := by decide +kernel
theorem dX1_sendCars_76 : decode cX1_sendCars 76 = .ok (.invokestatic 155, 3) := by decide +kernel
theorem dX1_sendCars_79 : decode cX1_sendCars 79 = .ok (.aload_n 1, 1) := by decide +kernel
theorem dX1_sendCars_80 : decode cX1_sendCars 80 = .ok (.getfield 68, 3) := by decide +kernel
theorem dX1_sendCars_83 : decode cX1_sendCars 83 = .ok (.iload 5, 2) := by decide +kernel
theorem dX1_sendCars_85 : decode cX1_sendCars 85 = .ok (.invokevirtual 158, 3) := by decide +kernel
theorem dX1_sendCars_88 : decode cX1_sendCars 88 = .ok (.iinc 6 1, 3) := by decide +kernel
theorem dX1_sendCars_91 : decode cX1_sendCars 91 = .ok (.goto (-88), 3) := by decide +kernel
theorem dX1_sendCars_94 : decode cX1_sendCars 94 = .ok (.return_, 1) := by decide +kernel
theorem dX1_board_0 : decode cX1_board 0 = .ok (.iload_n 2, 1) := by decide +kernel
theorem dX1_board_1 : decode cX1_board 1 = .ok (.istore 5, 2) := by decide +kernel
theorem dX1_board_3 : decode cX1_board 3 = .ok (.iconst 0, 1) := by decide +kernel
theorem dX1_board_4 : decode cX1_board 4 = .ok (.istore 6, 2) := by decide +kernel
theorem dX1_board_6 : decode cX1_board 6 = .ok (.iload 6, 2) := by decide +kernel
theorem dX1_board_8 : decode cX1_board 8 = .ok (.bipush 60, 2) := by decide +kernel
theorem dX1_board_10 : decode cX1_board 10 = .ok (.if_icmp .ge 113, 3) := by decide +kernel
theorem dX1_board_13 : decode cX1_board 13 = .ok (.iload 5, 2) := by decide +kernel
theorem dX1_board_15 : decode cX1_board 15 = .ok (.ifCond .le 108, 3) := by decide +kernel
theorem dX1_board_18 : decode cX1_board 18 = .ok (.aload_n 0, 1) := by decide +kernel
theorem dX1_board_19 : decode cX1_board 19 = .ok (.iload_n 3, 1) := by decide +kernel
theorem dX1_board_20 : decode cX1_board 20 = .ok (.iload 4, 2) := by decide +kernel
theorem dX1_board_22 : decode cX1_board 22 = .ok (.invokevirtual 162, 3) := by decide +kernel
theorem dX1_board_25 : decode cX1_board 25 = .ok (.istore 7, 2) := by decide +kernel
theorem dX1_board_27 : decode cX1_board 27 = .ok (.iload 7, 2) := by decide +kernel
theorem dX1_board_29 : decode cX1_board 29 = .ok (.iconst (-1), 1) := by decide +kernel
theorem dX1_board_30 : decode cX1_board 30 = .ok (.if_icmp .ne 4, 3) := by decide +kernel
theorem dX1_board_33 : decode cX1_board 33 = .ok (.return_, 1) := by decide +kernel
theorem dX1_board_34 : decode cX1_board 34 = .ok (.iload 5, 2) := by decide +kernel
theorem dX1_board_36 : decode cX1_board 36 = .ok (.aload_n 0, 1) := by decide +kernel
theorem dX1_board_37 : decode cX1_board 37 = .ok (.getfield 29, 3) := by decide +kernel
theorem dX1_board_40 : decode cX1_board 40 = .ok (.iload 7, 2) := by decide +kernel
theorem dX1_board_42 : decode cX1_board 42 = .ok (.aaload, 1) := by decide +kernel
theorem dX1_board_43 : decode cX1_board 43 = .ok (.aload_n 0, 1) := by decide +kernel
theorem dX1_board_44 : decode cX1_board 44 = .ok (.getfield 32, 3) := by decide +kernel
theorem dX1_board_47 : decode cX1_board 47 = .ok (.iload 7, 2) := by decide +kernel
theorem dX1_board_49 : decode cX1_board 49 = .ok (.iaload, 1) := by decide +kernel
theorem dX1_board_50 : decode cX1_board 50 = .ok (.iaload, 1) := by decide +kernel
theorem dX1_board_51 : decode cX1_board 51 = .ok (.invokestatic 155, 3) := by decide +kernel
theorem dX1_board_54 : decode cX1_board 54 = .ok (.istore 8, 2) := by decide +kernel
theorem dX1_board_56 : decode cX1_board 56 = .ok (.aload_n 0, 1) := by decide +kernel
theorem dX1_board_57 : decode cX1_board 57 = .ok (.getfield 29, 3) := by decide +kernel
theorem dX1_board_60 : decode cX1_board 60 = .ok (.iload 7, 2) := by decide +kernel
theorem dX1_board_62 : decode cX1_board 62 = .ok (.aaload, 1) := by decide +kernel
theorem dX1_board_63 : decode cX1_board 63 = .ok (.aload_n 0, 1) := by decide +kernel
theorem dX1_board_64 : decode cX1_board 64 = .ok (.getfield 32, 3) := by decide +kernel
theorem dX1_board_67 : decode cX1_board 67 = .ok (.iload 7, 2) := by decide +kernel
theorem dX1_board_69 : decode cX1_board 69 = .ok (.iaload, 1) := by decide +kernel
theorem dX1_board_70 : decode cX1_board 70 = .ok (.dup2, 1) := by decide +kernel
theorem dX1_board_71 : decode cX1_board 71 = .ok (.iaload, 1) := by decide +kernel
theorem dX1_board_72 : decode cX1_board 72 = .ok (.iload 8, 2) := by decide +kernel
theorem dX1_board_74 : decode cX1_board 74 = .ok (.isub, 1) := by decide +kernel
theorem dX1_board_75 : decode cX1_board 75 = .ok (.iastore, 1) := by decide +kernel
theorem dX1_board_76 : decode cX1_board 76 = .ok (.aload_n 0, 1) := by decide +kernel
theorem dX1_board_77 : decode cX1_board 77 = .ok (.getfield 35, 3) := by decide +kernel
theorem dX1_board_80 : decode cX1_board 80 = .ok (.iload 7, 2) := by decide +kernel
theorem dX1_board_82 : decode cX1_board 82 = .ok (.dup2, 1) := by decide +kernel
theorem dX1_board_83 : decode cX1_board 83 = .ok (.iaload, 1) := by decide +kernel
theorem dX1_board_84 : decode cX1_board 84 = .ok (.iload 8, 2) := by decide +kernel
theorem dX1_board_86 : decode cX1_board 86 = .ok (.iadd, 1) := by decide +kernel
theorem dX1_board_87 : decode cX1_board 87 = .ok (.iastore, 1) := by decide +kernel
theorem dX1_board_88 : decode cX1_board 88 = .ok (.aload_n 0, 1) := by decide +kernel
theorem dX1_board_89 : decode cX1_board 89 = .ok (.getfield 45, 3) := by decide +kernel
theorem dX1_board_92 : decode cX1_board 92 = .ok (.iload_n 1, 1) := by decide +kernel
theorem dX1_board_93 : decode cX1_board 93 = .ok (.dup2, 1) := by decide +kernel
theorem dX1_board_94 : decode cX1_board 94 = .ok (.iaload, 1) := by decide +kernel
theorem dX1_board_95 : decode cX1_board 95 = .ok (.iload 8, 2) := by decide +kernel
theorem dX1_board_97 : decode cX1_board 97 = .ok (.iadd, 1) := by decide +kernel
theorem dX1_board_98 : decode cX1_board 98 = .ok (.iastore, 1) := by decide +kernel
theorem dX1_board_99 : decode cX1_board 99 = .ok (.aload_n 0, 1) := by decide +kernel
theorem dX1_board_100 : decode cX1_board 100 = .ok (.dup, 1) := by decide +kernel
theorem dX1_board_101 : decode cX1_board 101 = .ok (.getfield 41, 3) := by decide +kernel
theorem dX1_board_104 : decode cX1_board 104 = .ok (.iload 8, 2) := by decide +kernel
theorem dX1_board_106 : decode cX1_board 106 = .ok (.isub, 1) := by decide +kernel
theorem dX1_board_107 : decode cX1_board 107 = .ok (.putfield 41, 3) := by decide +kernel
theorem dX1_board_110 : decode cX1_board 110 = .ok (.iload 5, 2) := by decide +kernel
theorem dX1_board_112 : decode cX1_board 112 = .ok (.iload 8, 2) := by decide +kernel
theorem dX1_board_114 : decode cX1_board 114 = .ok (.isub, 1) := by decide +kernel
theorem dX1_board_115 : decode cX1_board 115 = .ok (.istore 5, 2) := by decide +kernel
theorem dX1_board_117 : decode cX1_board 117 = .ok (.iinc 6 1, 3) := by decide +kernel
theorem dX1_board_120 : decode cX1_board 120 = .ok (.goto (-114), 3) := by decide +kernel
theorem dX1_board_123 : decode cX1_board 123 = .ok (.return_, 1) := by decide +kernel
theorem dX1_firstOnes_0 : decode cX1_firstOnes 0 = .ok (.iconst (-1), 1) := by decide +kernel
theorem dX1_firstOnes_1 : decode cX1_firstOnes 1 = .ok (.istore_n 3, 1) := by decide +kernel
theorem dX1_firstOnes_2 : decode cX1_firstOnes 2 = .ok (.iconst 0, 1) := by decide +kernel
theorem dX1_firstOnes_3 : decode cX1_firstOnes 3 = .ok (.istore 4, 2) := by decide +kernel
theorem dX1_firstOnes_5 : decode cX1_firstOnes 5 = .ok (.iload 4, 2) := by decide +kernel
theorem dX1_firstOnes_7 : decode cX1_firstOnes 7 = .ok (.iload_n 1, 1) := by decide +kernel
theorem dX1_firstOnes_8 : decode cX1_firstOnes 8 = .ok (.if_icmp .ge 81, 3) := by decide +kernel
theorem dX1_firstOnes_11 : decode cX1_firstOnes 11 = .ok (.aload_n 0, 1) := by decide +kernel
theorem dX1_firstOnes_12 : decode cX1_firstOnes 12 = .ok (.getfield 32, 3) := by decide +kernel
theorem dX1_firstOnes_15 : decode cX1_firstOnes 15 = .ok (.iload 4, 2) := by decide +kernel
theorem dX1_firstOnes_17 : decode cX1_firstOnes 17 = .ok (.iaload, 1) := by decide +kernel
theorem dX1_firstOnes_18 : decode cX1_firstOnes 18 = .ok (.iload_n 2, 1) := by decide +kernel
theorem dX1_firstOnes_19 : decode cX1_firstOnes 19 = .ok (.if_icmp .gt 35, 3) := by decide +kernel
theorem dX1_firstOnes_22 : decode cX1_firstOnes 22 = .ok (.aload_n 0, 1) := by decide +kernel
theorem dX1_firstOnes_23 : decode cX1_firstOnes 23 = .ok (.getfield 29, 3) := by decide +kernel
theorem dX1_firstOnes_26 : decode cX1_firstOnes 26 = .ok (.iload 4, 2) := by decide +kernel
theorem dX1_firstOnes_28 : decode cX1_firstOnes 28 = .ok (.aaload, 1) := by decide +kernel
theorem dX1_firstOnes_29 : decode cX1_firstOnes 29 = .ok (.aload_n 0, 1) := by decide +kernel
theorem dX1_firstOnes_30 : decode cX1_firstOnes 30 = .ok (.getfield 32, 3) := by decide +kernel
theorem dX1_firstOnes_33 : decode cX1_firstOnes 33 = .ok (.iload 4, 2) := by decide +kernel
theorem dX1_firstOnes_35 : decode cX1_firstOnes 35 = .ok (.iaload, 1) := by decide +kernel
theorem dX1_firstOnes_36 : decode cX1_firstOnes 36 = .ok (.iaload, 1) := by decide +kernel
theorem dX1_firstOnes_37 : decode cX1_firstOnes 37 = .ok (.ifCond .ne 17, 3) := by decide +kernel
theorem dX1_firstOnes_40 : decode cX1_firstOnes 40 = .ok (.aload_n 0, 1) := by decide +kernel
theorem dX1_firstOnes_41 : decode cX1_firstOnes 41 = .ok (.getfield 32, 3) := by decide +kernel
theorem dX1_firstOnes_44 : decode cX1_firstOnes 44 = .ok (.iload 4, 2) := by decide +kernel
theorem dX1_firstOnes_46 : decode cX1_firstOnes 46 = .ok (.dup2, 1) := by decide +kernel
theorem dX1_firstOnes_47 : decode cX1_firstOnes 47 = .ok (.iaload, 1) := by decide +kernel
theorem dX1_firstOnes_48 : decode cX1_firstOnes 48 = .ok (.iconst 1, 1) := by decide +kernel
theorem dX1_firstOnes_49 : decode cX1_firstOnes 49 = .ok (.iadd, 1) := by decide +kernel
theorem dX1_firstOnes_50 : decode cX1_firstOnes 50 = .ok (.iastore, 1) := by decide +kernel
theorem dX1_firstOnes_51 : decode cX1_firstOnes 51 = .ok (.goto (-40), 3) := by decide +kernel
theorem dX1_firstOnes_54 : decode cX1_firstOnes 54 = .ok (.aload_n 0, 1) := by decide +kernel
theorem dX1_firstOnes_55 : decode cX1_firstOnes 55 = .ok (.getfield 32, 3) := by decide +kernel
theorem dX1_firstOnes_58 : decode cX1_firstOnes 58 = .ok (.iload 4, 2) := by decide +kernel
theorem dX1_firstOnes_60 : decode cX1_firstOnes 60 = .ok (.iaload, 1) := by decide +kernel
theorem dX1_firstOnes_61 : decode cX1_firstOnes 61 = .ok (.iload_n 2, 1) := by decide +kernel
theorem dX1_firstOnes_62 : decode cX1_firstOnes 62 = .ok (.if_icmp .gt 21, 3) := by decide +kernel
theorem dX1_firstOnes_65 : decode cX1_firstOnes 65 = .ok (.iload_n 3, 1) := by decide +kernel
theorem dX1_firstOnes_66 : decode cX1_firstOnes 66 = .ok (.iconst (-1), 1) := by decide +kernel
theorem dX1_firstOnes_67 : decode cX1_firstOnes 67 = .ok (.if_icmp .eq 13, 3) := by decide +kernel
theorem dX1_firstOnes_70 : decode cX1_firstOnes 70 = .ok (.aload_n 0, 1) := by decide +kernel
theorem dX1_firstOnes_71 : decode cX1_firstOnes 71 = .ok (.iload 4, 2) := by decide +kernel
theorem dX1_firstOnes_73 : decode cX1_firstOnes 73 = .ok (.iload_n 3, 1) := by decide +kernel
theorem dX1_firstOnes_74 : decode cX1_firstOnes 74 = .ok (.invokevirtual 165, 3) := by decide +kernel
theorem dX1_firstOnes_77 : decode cX1_firstOnes 77 = .ok (.ifCond .eq 6, 3) := by decide +kernel
theorem dX1_firstOnes_80 : decode cX1_firstOnes 80 = .ok (.iload 4, 2) := by decide +kernel
theorem dX1_firstOnes_82 : decode cX1_firstOnes 82 = .ok (.istore_n 3, 1) := by decide +kernel
theorem dX1_firstOnes_83 : decode cX1_firstOnes 83 = .ok (.iinc 4 1, 3) := by decide +kernel
theorem dX1_firstOnes_86 : decode cX1_firstOnes 86 = .ok (.goto (-81), 3) := by decide +kernel
theorem dX1_firstOnes_89 : decode cX1_firstOnes 89 = .ok (.iload_n 3, 1) := by decide +kernel
theorem dX1_firstOnes_90 : decode cX1_firstOnes 90 = .ok (.ireturn, 1) := by decide +kernel
theorem dX1_isAhead_0 : decode cX1_isAhead 0 = .ok (.aload_n 0, 1) := by decide +kernel
theorem dX1_isAhead_1 : decode cX1_isAhead 1 = .ok (.getfield 18, 3) := by decide +kernel
theorem dX1_isAhead_4 : decode cX1_isAhead 4 = .ok (.iload_n 1, 1) := by decide +kernel
theorem dX1_isAhead_5 : decode cX1_isAhead 5 = .ok (.iaload, 1) := by decide +kernel
theorem dX1_isAhead_6 : decode cX1_isAhead 6 = .ok (.aload_n 0, 1) := by decide +kernel
theorem dX1_isAhead_7 : decode cX1_isAhead 7 = .ok (.getfield 18, 3) := by decide +kernel
theorem dX1_isAhead_10 : decode cX1_isAhead 10 = .ok (.iload_n 2, 1) := by decide +kernel
theorem dX1_isAhead_11 : decode cX1_isAhead 11 = .ok (.iaload, 1) := by decide +kernel
theorem dX1_isAhead_12 : decode cX1_isAhead 12 = .ok (.if_icmp .eq 24, 3) := by decide +kernel
theorem dX1_isAhead_15 : decode cX1_isAhead 15 = .ok (.aload_n 0, 1) := by decide +kernel
theorem dX1_isAhead_16 : decode cX1_isAhead 16 = .ok (.getfield 18, 3) := by decide +kernel
theorem dX1_isAhead_19 : decode cX1_isAhead 19 = .ok (.iload_n 1, 1) := by decide +kernel
theorem dX1_isAhead_20 : decode cX1_isAhead 20 = .ok (.iaload, 1) := by decide +kernel
theorem dX1_isAhead_21 : decode cX1_isAhead 21 = .ok (.aload_n 0, 1) := by decide +kernel
theorem dX1_isAhead_22 : decode cX1_isAhead 22 = .ok (.getfield 18, 3) := by decide +kernel
theorem dX1_isAhead_25 : decode cX1_isAhead 25 = .ok (.iload_n 2, 1) := by decide +kernel
theorem dX1_isAhead_26 : decode cX1_isAhead 26 = .ok (.iaload, 1) := by decide +kernel
theorem dX1_isAhead_27 : decode cX1_isAhead 27 = .ok (.if_icmp .ge 7, 3) := by decide +kernel
theorem dX1_isAhead_30 : decode cX1_isAhead 30 = .ok (.iconst 1, 1) := by decide +kernel
theorem dX1_isAhead_31 : decode cX1_isAhead 31 = .ok (.goto 4, 3) := by decide +kernel
theorem dX1_isAhead_34 : decode cX1_isAhead 34 = .ok (.iconst 0, 1) := by decide +kernel
theorem dX1_isAhead_35 : decode cX1_isAhead 35 = .ok (.ireturn, 1) := by decide +kernel
theorem dX1_isAhead_36 : decode cX1_isAhead 36 = .ok (.aload_n 0, 1) := by decide +kernel
theorem dX1_isAhead_37 : decode cX1_isAhead 37 = .ok (.getfield 32, 3) := by decide +kernel
theorem dX1_isAhead_40 : decode cX1_isAhead 40 = .ok (.iload_n 1, 1) := by decide +kernel
theorem dX1_isAhead_41 : decode cX1_isAhead 41 = .ok (.iaload, 1) := by decide +kernel
theorem dX1_isAhead_42 : decode cX1_isAhead 42 = .ok (.aload_n 0, 1) := by decide +kernel
theorem dX1_isAhead_43 : decode cX1_isAhead 43 = .ok (.getfield 32, 3) := by decide +kernel
theorem dX1_isAhead_46 : decode cX1_isAhead 46 = .ok (.iload_n 2, 1) := by decide +kernel
theorem dX1_isAhead_47 : decode cX1_isAhead 47 = .ok (.iaload, 1) := by decide +kernel
theorem dX1_isAhead_48 : decode cX1_isAhead 48 = .ok (.if_icmp .ge 7, 3) := by decide +kernel
theorem dX1_isAhead_51 : decode cX1_isAhead 51 = .ok (.iconst 1, 1) := by decide +kernel
theorem dX1_isAhead_52 : decode cX1_isAhead 52 = .ok (.goto 4, 3) := by decide +kernel
theorem dX1_isAhead_55 : decode cX1_isAhead 55 = .ok (.iconst 0, 1) := by decide +kernel
theorem dX1_isAhead_56 : decode cX1_isAhead 56 = .ok (.ireturn, 1) := by decide +kernel
theorem dX1_endMinute_0 : decode cX1_endMinute 0 = .ok (.iconst 0, 1) := by decide +kernel
theorem dX1_endMinute_1 : decode cX1_endMinute 1 = .ok (.istore_n 3, 1) := by decide +kernel
theorem dX1_endMinute_2 : decode cX1_endMinute 2 = .ok (.iload_n 3, 1) := by decide +kernel
theorem dX1_endMinute_3 : decode cX1_endMinute 3 = .ok (.aload_n 1, 1) := by decide +kernel
theorem dX1_endMinute_4 : decode cX1_endMinute 4 = .ok (.getfield 68, 3) := by decide +kernel
theorem dX1_endMinute_7 : decode cX1_endMinute 7 = .ok (.if_icmp .ge 23, 3) := by decide +kernel
theorem dX1_endMinute_10 : decode cX1_endMinute 10 = .ok (.aload_n 0, 1) := by decide +kernel
theorem dX1_endMinute_11 : decode cX1_endMinute 11 = .ok (.getfield 38, 3) := by decide +kernel
theorem dX1_endMinute_14 : decode cX1_endMinute 14 = .ok (.iload_n 3, 1) := by decide +kernel
theorem dX1_endMinute_15 : decode cX1_endMinute 15 = .ok (.aaload, 1) := by decide +kernel
theorem dX1_endMinute_16 : decode cX1_endMinute 16 = .ok (.iload_n 2, 1) := by decide +kernel
theorem dX1_endMinute_17 : decode cX1_endMinute 17 = .ok (.aload_n 0, 1) := by decide +kernel
theorem dX1_endMinute_18 : decode cX1_endMinute 18 = .ok (.getfield 35, 3) := by decide +kernel
theorem dX1_endMinute_21 : decode cX1_endMinute 21 = .ok (.iload_n 3, 1) := by decide +kernel
theorem dX1_endMinute_22 : decode cX1_endMinute 22 = .ok (.iaload, 1) := by decide +kernel
theorem dX1_endMinute_23 : decode cX1_endMinute 23 = .ok (.iastore, 1) := by decide +kernel
theorem dX1_endMinute_24 : decode cX1_endMinute 24 = .ok (.iinc 3 1, 3) := by decide +kernel
theorem dX1_endMinute_27 : decode cX1_endMinute 27 = .ok (.goto (-25), 3) := by decide +kernel
theorem dX1_endMinute_30 : decode cX1_endMinute 30 = .ok (.aload_n 0, 1) := by decide +kernel
theorem dX1_endMinute_31 : decode cX1_endMinute 31 = .ok (.getfield 41, 3) := by decide +kernel
theorem dX1_endMinute_34 : decode cX1_endMinute 34 = .ok (.aload_n 0, 1) := by decide +kernel
theorem dX1_endMinute_35 : decode cX1_endMinute 35 = .ok (.getfield 48, 3) := by decide +kernel
theorem dX1_endMinute_38 : decode cX1_endMinute 38 = .ok (.if_icmp .le 16, 3) := by decide +kernel
theorem dX1_endMinute_41 : decode cX1_endMinute 41 = .ok (.aload_n 0, 1) := by decide +kernel
theorem dX1_endMinute_42 : decode cX1_endMinute 42 = .ok (.aload_n 0, 1) := by decide +kernel
theorem dX1_endMinute_43 : decode cX1_endMinute 43 = .ok (.getfield 41, 3) := by decide +kernel
theorem dX1_endMinute_46 : decode cX1_endMinute 46 = .ok (.putfield 48, 3) := by decide +kernel
theorem dX1_endMinute_49 : decode cX1_endMinute 49 = .ok (.aload_n 0, 1) := by decide +kernel
theorem dX1_endMinute_50 : decode cX1_endMinute 50 = .ok (.iload_n 2, 1) := by decide +kernel
theorem dX1_endMinute_51 : decode cX1_endMinute 51 = .ok (.putfield 51, 3) := by decide +kernel
theorem dX1_endMinute_54 : decode cX1_endMinute 54 = .ok (.return_, 1) := by decide +kernel
theorem dX1_rodeInAll_0 : decode cX1_rodeInAll 0 = .ok (.iconst 0, 1) := by decide +kernel
theorem dX1_rodeInAll_1 : decode cX1_rodeInAll 1 = .ok (.istore_n 2, 1) := by decide +kernel
theorem dX1_rodeInAll_2 : decode cX1_rodeInAll 2 = .ok (.iconst 0, 1) := by decide +kernel
theorem dX1_rodeInAll_3 : decode cX1_rodeInAll 3 = .ok (.istore_n 3, 1) := by decide +kernel
theorem dX1_rodeInAll_4 : decode cX1_rodeInAll 4 = .ok (.iload_n 3, 1) := by decide +kernel
theorem dX1_rodeInAll_5 : decode cX1_rodeInAll 5 = .ok (.aload_n 1, 1) := by decide +kernel
theorem dX1_rodeInAll_6 : decode cX1_rodeInAll 6 = .ok (.getfield 68, 3) := by decide +kernel
theorem dX1_rodeInAll_9 : decode cX1_rodeInAll 9 = .ok (.if_icmp .ge 18, 3) := by decide +kernel
theorem dX1_rodeInAll_12 : decode cX1_rodeInAll 12 = .ok (.iload_n 2, 1) := by decide +kernel
theorem dX1_rodeInAll_13 : decode cX1_rodeInAll 13 = .ok (.aload_n 0, 1) := by decide +kernel
theorem dX1_rodeInAll_14 : decode cX1_rodeInAll 14 = .ok (.getfield 35, 3) := by decide +kernel
theorem dX1_rodeInAll_17 : decode cX1_rodeInAll 17 = .ok (.iload_n 3, 1) := by decide +kernel
theorem dX1_rodeInAll_18 : decode cX1_rodeInAll 18 = .ok (.iaload, 1) := by decide +kernel
theorem dX1_rodeInAll_19 : decode cX1_rodeInAll 19 = .ok (.iadd, 1) := by decide +kernel
theorem dX1_rodeInAll_20 : decode cX1_rodeInAll 20 = .ok (.istore_n 2, 1) := by decide +kernel
theorem dX1_rodeInAll_21 : decode cX1_rodeInAll 21 = .ok (.iinc 3 1, 3) := by decide +kernel
theorem dX1_rodeInAll_24 : decode cX1_rodeInAll 24 = .ok (.goto (-20), 3) := by decide +kernel
theorem dX1_rodeInAll_27 : decode cX1_rodeInAll 27 = .ok (.iload_n 2, 1) := by decide +kernel
theorem dX1_rodeInAll_28 : decode cX1_rodeInAll 28 = .ok (.ireturn, 1) := by decide +kernel
theorem dX1_leftOf_0 : decode cX1_leftOf 0 = .ok (.iload_n 2, 1) := by decide +kernel
theorem dX1_leftOf_1 : decode cX1_leftOf 1 = .ok (.iconst (-1), 1) := by decide +kernel
theorem dX1_leftOf_2 : decode cX1_leftOf 2 = .ok (.if_icmp .ne 16, 3) := by decide +kernel
theorem dX1_leftOf_5 : decode cX1_leftOf 5 = .ok (.aload_n 1, 1) := by decide +kernel
theorem dX1_leftOf_6 : decode cX1_leftOf 6 = .ok (.invokevirtual 169, 3) := by decide +kernel
theorem dX1_leftOf_9 : decode cX1_leftOf 9 = .ok (.aload_n 0, 1) := by decide +kernel
theorem dX1_leftOf_10 : decode cX1_leftOf 10 = .ok (.aload_n 1, 1) := by decide +kernel
theorem dX1_leftOf_11 : decode cX1_leftOf 11 = .ok (.invokevirtual 173, 3) := by decide +kernel
theorem dX1_leftOf_14 : decode cX1_leftOf 14 = .ok (.isub, 1) := by decide +kernel
theorem dX1_leftOf_15 : decode cX1_leftOf 15 = .ok (.goto 16, 3) := by decide +kernel
theorem dX1_leftOf_18 : decode cX1_leftOf 18 = .ok (.aload_n 1, 1) := by decide +kernel
theorem dX1_leftOf_19 : decode cX1_leftOf 19 = .ok (.getfield 111, 3) := by decide +kernel
theorem dX1_leftOf_22 : decode cX1_leftOf 22 = .ok (.iload_n 2, 1) := by decide +kernel
theorem dX1_leftOf_23 : decode cX1_leftOf 23 = .ok (.iaload, 1) := by decide +kernel
theorem dX1_leftOf_24 : decode cX1_leftOf 24 = .ok (.aload_n 0, 1) := by decide +kernel
theorem dX1_leftOf_25 : decode cX1_leftOf 25 = .ok (.getfield 35, 3) := by decide +kernel
theorem dX1_leftOf_28 : decode cX1_leftOf 28 = .ok (.iload_n 2, 1) := by decide +kernel
theorem dX1_leftOf_29 : decode cX1_leftOf 29 = .ok (.iaload, 1) := by decide +kernel
theorem dX1_leftOf_30 : decode cX1_leftOf 30 = .ok (.isub, 1) := by decide +kernel
theorem dX1_leftOf_31 : decode cX1_leftOf 31 = .ok (.ireturn, 1) := by decide +kernel
theorem dX1_downBehind_0 : decode cX1_downBehind 0 = .ok (.iload_n 2, 1) := by decide +kernel
theorem dX1_downBehind_1 : decode cX1_downBehind 1 = .ok (.iconst (-1), 1) := by decide +kernel
theorem dX1_downBehind_2 : decode cX1_downBehind 2 = .ok (.if_icmp .eq 12, 3) := by decide +kernel
theorem dX1_downBehind_5 : decode cX1_downBehind 5 = .ok (.aload_n 0, 1) := by decide +kernel
theorem dX1_downBehind_6 : decode cX1_downBehind 6 = .ok (.getfield 38, 3) := by decide +kernel
theorem dX1_downBehind_9 : decode cX1_downBehind 9 = .ok (.iload_n 2, 1) := by decide +kernel
theorem dX1_downBehind_10 : decode cX1_downBehind 10 = .ok (.aaload, 1) := by decide +kernel
theorem dX1_downBehind_11 : decode cX1_downBehind 11 = .ok (.iload_n 3, 1) := by decide +kernel
theorem dX1_downBehind_12 : decode cX1_downBehind 12 = .ok (.iaload, 1) := by decide +kernel
theorem dX1_downBehind_13 : decode cX1_downBehind 13 = .ok (.ireturn, 1) := by decide +kernel
theorem dX1_downBehind_14 : decode cX1_downBehind 14 = .ok (.iconst 0, 1) := by decide +kernel
theorem dX1_downBehind_15 : decode cX1_downBehind 15 = .ok (.istore 4, 2) := by decide +kernel
theorem dX1_downBehind_17 : decode cX1_downBehind 17 = .ok (.iconst 0, 1) := by decide +kernel
theorem dX1_downBehind_18 : decode cX1_downBehind 18 = .ok (.istore 5, 2) := by decide +kernel
theorem dX1_downBehind_20 : decode cX1_downBehind 20 = .ok (.iload 5, 2) := by decide +kernel
theorem dX1_downBehind_22 : decode cX1_downBehind 22 = .ok (.aload_n 1, 1) := by decide +kernel
theorem dX1_downBehind_23 : decode cX1_downBehind 23 = .ok (.getfield 68, 3) := by decide +kernel
theorem dX1_downBehind_26 : decode cX1_downBehind 26 = .ok (.if_icmp .ge 23, 3) := by decide +kernel
theorem dX1_downBehind_29 : decode cX1_downBehind 29 = .ok (.iload 4, 2) := by decide +kernel
theorem dX1_downBehind_31 : decode cX1_downBehind 31 = .ok (.aload_n 0, 1) := by decide +kernel
theorem dX1_downBehind_32 : decode cX1_downBehind 32 = .ok (.getfield 38, 3) := by decide +kernel
theorem dX1_downBehind_35 : decode cX1_downBehind 35 = .ok (.iload 5, 2) := by decide +kernel
theorem dX1_downBehind_37 : decode cX1_downBehind 37 = .ok (.aaload, 1) := by decide +kernel
theorem dX1_downBehind_38 : decode cX1_downBehind 38 = .ok (.iload_n 3, 1) := by decide +kernel
theorem dX1_downBehind_39 : decode cX1_downBehind 39 = .ok (.iaload, 1) := by decide +kernel
theorem dX1_downBehind_40 : decode cX1_downBehind 40 = .ok (.iadd, 1) := by decide +kernel
theorem dX1_downBehind_41 : decode cX1_downBehind 41 = .ok (.istore 4, 2) := by decide +kernel
theorem dX1_downBehind_43 : decode cX1_downBehind 43 = .ok (.iinc 5 1, 3) := by decide +kernel
theorem dX1_downBehind_46 : decode cX1_downBehind 46 = .ok (.goto (-26), 3) := by decide +kernel
theorem dX1_downBehind_49 : decode cX1_downBehind 49 = .ok (.iload 4, 2) := by decide +kernel
theorem dX1_downBehind_51 : decode cX1_downBehind 51 = .ok (.ireturn, 1) := by decide +kernel
theorem dX1_harmDone_0 : decode cX1_harmDone 0 = .ok (.lconst 0, 1) := by decide +kernel
theorem dX1_harmDone_1 : decode cX1_harmDone 1 = .ok (.lstore_n 3, 1) := by decide +kernel
theorem dX1_harmDone_2 : decode cX1_harmDone 2 = .ok (.aload_n 0, 1) := by decide +kernel
theorem dX1_harmDone_3 : decode cX1_harmDone 3 = .ok (.getfield 21, 3) := by decide +kernel
theorem dX1_harmDone_6 : decode cX1_harmDone 6 = .ok (.iconst 0, 1) := by decide +kernel
theorem dX1_harmDone_7 : decode cX1_harmDone 7 = .ok (.invokestatic 112, 3) := by decide +kernel
theorem dX1_harmDone_10 : decode cX1_harmDone 10 = .ok (.aload_n 0, 1) := by decide +kernel
theorem dX1_harmDone_11 : decode cX1_harmDone 11 = .ok (.getfield 21, 3) := by decide +kernel
theorem dX1_harmDone_14 : decode cX1_harmDone 14 = .ok (.iconst 1, 1) := by decide +kernel
theorem dX1_harmDone_15 : decode cX1_harmDone 15 = .ok (.aload_n 0, 1) := by decide +kernel
theorem dX1_harmDone_16 : decode cX1_harmDone 16 = .ok (.getfield 41, 3) := by decide +kernel
theorem dX1_harmDone_19 : decode cX1_harmDone 19 = .ok (.iastore, 1) := by decide +kernel
theorem dX1_harmDone_20 : decode cX1_harmDone 20 = .ok (.iconst 0, 1) := by decide +kernel
theorem dX1_harmDone_21 : decode cX1_harmDone 21 = .ok (.istore 5, 2) := by decide +kernel
theorem dX1_harmDone_23 : decode cX1_harmDone 23 = .ok (.iload 5, 2) := by decide +kernel
theorem dX1_harmDone_25 : decode cX1_harmDone 25 = .ok (.aload_n 1, 1) := by decide +kernel
theorem dX1_harmDone_26 : decode cX1_harmDone 26 = .ok (.getfield 68, 3) := by decide +kernel
theorem dX1_harmDone_29 : decode cX1_harmDone 29 = .ok (.if_icmp .ge 50, 3) := by decide +kernel
theorem dX1_harmDone_32 : decode cX1_harmDone 32 = .ok (.aload_n 0, 1) := by decide +kernel
theorem dX1_harmDone_33 : decode cX1_harmDone 33 = .ok (.getfield 21, 3) := by decide +kernel
theorem dX1_harmDone_36 : decode cX1_harmDone 36 = .ok (.iconst 0, 1) := by decide +kernel
theorem dX1_harmDone_37 : decode cX1_harmDone 37 = .ok (.aload_n 0, 1) := by decide +kernel
theorem dX1_harmDone_38 : decode cX1_harmDone 38 = .ok (.getfield 24, 3) := by decide +kernel
theorem dX1_harmDone_41 : decode cX1_harmDone 41 = .ok (.iload 5, 2) := by decide +kernel
theorem dX1_harmDone_43 : decode cX1_harmDone 43 = .ok (.iaload, 1) := by decide +kernel
theorem dX1_harmDone_44 : decode cX1_harmDone 44 = .ok (.iastore, 1) := by decide +kernel
theorem dX1_harmDone_45 : decode cX1_harmDone 45 = .ok (.lload_n 3, 1) := by decide +kernel
theorem dX1_harmDone_46 : decode cX1_harmDone 46 = .ok (.aload_n 2, 1) := by decide +kernel
theorem dX1_harmDone_47 : decode cX1_harmDone 47 = .ok (.iconst 2, 1) := by decide +kernel
theorem dX1_harmDone_48 : decode cX1_harmDone 48 = .ok (.aload_n 0, 1) := by decide +kernel
theorem dX1_harmDone_49 : decode cX1_harmDone 49 = .ok (.getfield 21, 3) := by decide +kernel
theorem dX1_harmDone_52 : decode cX1_harmDone 52 = .ok (.invokevirtual 126, 3) := by decide +kernel
theorem dX1_harmDone_55 : decode cX1_harmDone 55 = .ok (.iconst 0, 1) := by decide +kernel
theorem dX1_harmDone_56 : decode cX1_harmDone 56 = .ok (.bipush 99, 2) := by decide +kernel
theorem dX1_harmDone_58 : decode cX1_harmDone 58 = .ok (.invokestatic 132, 3) := by decide +kernel
theorem dX1_harmDone_61 : decode cX1_harmDone 61 = .ok (.i2l, 1) := by decide +kernel
theorem dX1_harmDone_62 : decode cX1_harmDone 62 = .ok (.aload_n 0, 1) := by decide +kernel
theorem dX1_harmDone_63 : decode cX1_harmDone 63 = .ok (.aload_n 1, 1) := by decide +kernel
theorem dX1_harmDone_64 : decode cX1_harmDone 64 = .ok (.iload 5, 2) := by decide +kernel
theorem dX1_harmDone_66 : decode cX1_harmDone 66 = .ok (.invokevirtual 177, 3) := by decide +kernel
theorem dX1_harmDone_69 : decode cX1_harmDone 69 = .ok (.i2l, 1) := by decide +kernel
theorem dX1_harmDone_70 : decode cX1_harmDone 70 = .ok (.lmul, 1) := by decide +kernel
theorem dX1_harmDone_71 : decode cX1_harmDone 71 = .ok (.ladd, 1) := by decide +kernel
theorem dX1_harmDone_72 : decode cX1_harmDone 72 = .ok (.lstore_n 3, 1) := by decide +kernel
theorem dX1_harmDone_73 : decode cX1_harmDone 73 = .ok (.iinc 5 1, 3) := by decide +kernel
theorem dX1_harmDone_76 : decode cX1_harmDone 76 = .ok (.goto (-53), 3) := by decide +kernel
theorem dX1_harmDone_79 : decode cX1_harmDone 79 = .ok (.lload_n 3, 1) := by decide +kernel
theorem dX1_harmDone_80 : decode cX1_harmDone 80 = .ok (.lreturn, 1) := by decide +kernel
theorem dX2_init_0 : decode cX2_init 0 = .ok (.aload_n 0, 1) := by decide +kernel
theorem dX2_init_1 : decode cX2_init 1 = .ok (.invokespecial 3, 3) := by decide +kernel
theorem dX2_init_4 : decode cX2_init 4 = .ok (.aload_n 0, 1) := by decide +kernel
theorem dX2_init_5 : decode cX2_init 5 = .ok (.iconst 0, 1) := by decide +kernel
theorem dX2_init_6 : decode cX2_init 6 = .ok (.putfield 9, 3) := by decide +kernel
theorem dX2_init_9 : decode cX2_init 9 = .ok (.aload_n 0, 1) := by decide +kernel
theorem dX2_init_10 : decode cX2_init 10 = .ok (.bipush 6, 2) := by decide +kernel
theorem dX2_init_12 : decode cX2_init 12 = .ok (.newarray .int, 2) := by decide +kernel
theorem dX2_init_14 : decode cX2_init 14 = .ok (.putfield 15, 3) := by decide +kernel
theorem dX2_init_17 : decode cX2_init 17 = .ok (.aload_n 0, 1) := by decide +kernel
theorem dX2_init_18 : decode cX2_init 18 = .ok (.bipush 6, 2) := by decide +kernel
theorem dX2_init_20 : decode cX2_init 20 = .ok (.newarray .int, 2) := by decide +kernel
theorem dX2_init_22 : decode cX2_init 22 = .ok (.putfield 19, 3) := by decide +kernel
theorem dX2_init_25 : decode cX2_init 25 = .ok (.aload_n 0, 1) := by decide +kernel
theorem dX2_init_26 : decode cX2_init 26 = .ok (.bipush 6, 2) := by decide +kernel
theorem dX2_init_28 : decode cX2_init 28 = .ok (.newarray .int, 2) := by decide +kernel
theorem dX2_init_30 : decode cX2_init 30 = .ok (.putfield 22, 3) := by decide +kernel
theorem dX2_init_33 : decode cX2_init 33 = .ok (.aload_n 0, 1) := by decide +kernel
theorem dX2_init_34 : decode cX2_init 34 = .ok (.bipush 6, 2) := by decide +kernel
theorem dX2_init_36 : decode cX2_init 36 = .ok (.newarray .int, 2) := by decide +kernel
theorem dX2_init_38 : decode cX2_init 38 = .ok (.putfield 25, 3) := by decide +kernel
theorem dX2_init_41 : decode cX2_init 41 = .ok (.aload_n 0, 1) := by decide +kernel
theorem dX2_init_42 : decode cX2_init 42 = .ok (.bipush 120, 2) := by decide +kernel
theorem dX2_init_44 : decode cX2_init 44 = .ok (.newarray .int, 2) := by decide +kernel
theorem dX2_init_46 : decode cX2_init 46 = .ok (.putfield 28, 3) := by decide +kernel
theorem dX2_init_49 : decode cX2_init 49 = .ok (.aload_n 0, 1) := by decide +kernel
theorem dX2_init_50 : decode cX2_init 50 = .ok (.bipush 90, 2) := by decide +kernel
theorem dX2_init_52 : decode cX2_init 52 = .ok (.putfield 31, 3) := by decide +kernel
theorem dX2_init_55 : decode cX2_init 55 = .ok (.aload_n 0, 1) := by decide +kernel
theorem dX2_init_56 : decode cX2_init 56 = .ok (.iconst (-1), 1) := by decide +kernel
theorem dX2_init_57 : decode cX2_init 57 = .ok (.putfield 34, 3) := by decide +kernel
theorem dX2_init_60 : decode cX2_init 60 = .ok (.aload_n 0, 1) := by decide +kernel
theorem dX2_init_61 : decode cX2_init 61 = .ok (.iconst (-1), 1) := by decide +kernel
theorem dX2_init_62 : decode cX2_init 62 = .ok (.putfield 37, 3) := by decide +kernel
theorem dX2_init_65 : decode cX2_init 65 = .ok (.aload_n 0, 1) := by decide +kernel
theorem dX2_init_66 : decode cX2_init 66 = .ok (.iconst 0, 1) := by decide +kernel
theorem dX2_init_67 : decode cX2_init 67 = .ok (.putfield 40, 3) := by decide +kernel
theorem dX2_init_70 : decode cX2_init 70 = .ok (.aload_n 0, 1) := by decide +kernel
theorem dX2_init_71 : decode cX2_init 71 = .ok (.getfield 28, 3) := by decide +kernel
theorem dX2_init_74 : decode cX2_init 74 = .ok (.iconst 5, 1) := by decide +kernel
theorem dX2_init_75 : decode cX2_init 75 = .ok (.invokestatic 43, 3) := by decide +kernel
theorem dX2_init_78 : decode cX2_init 78 = .ok (.return_, 1) := by decide +kernel
theorem dX2_addSort_0 : decode cX2_addSort 0 = .ok (.iload_n 2, 1) := by decide +kernel
theorem dX2_addSort_1 : decode cX2_addSort 1 = .ok (.ifCond .ge 6, 3) := by decide +kernel
theorem dX2_addSort_4 : decode cX2_addSort 4 = .ok (.bipush (-2), 2) := by decide +kernel
theorem dX2_addSort_6 : decode cX2_addSort 6 = .ok (.ireturn, 1) := by decide +kernel
theorem dX2_addSort_7 : decode cX2_addSort 7 = .ok (.iload_n 2, 1) := by decide +kernel
theorem dX2_addSort_8 : decode cX2_addSort 8 = .ok (.sipush 1000, 3) := by decide +kernel
theorem dX2_addSort_11 : decode cX2_addSort 11 = .ok (.idiv, 1) := by decide +kernel
theorem dX2_addSort_12 : decode cX2_addSort 12 = .ok (.istore_n 3, 1) := by decide +kernel
theorem dX2_addSort_13 : decode cX2_addSort 13 = .ok (.iload_n 2, 1) := by decide +kernel
theorem dX2_addSort_14 : decode cX2_addSort 14 = .ok (.bipush 10, 2) := by decide +kernel
theorem dX2_addSort_16 : decode cX2_addSort 16 = .ok (.idiv, 1) := by decide +kernel
theorem dX2_addSort_17 : decode cX2_addSort 17 = .ok (.bipush 100, 2) := by decide +kernel
theorem dX2_addSort_19 : decode cX2_addSort 19 = .ok (.irem, 1) := by decide +kernel
theorem dX2_addSort_20 : decode cX2_addSort 20 = .ok (.istore 4, 2) := by decide +kernel
theorem dX2_addSort_22 : decode cX2_addSort 22 = .ok (.iload_n 2, 1) := by decide +kernel
theorem dX2_addSort_23 : decode cX2_addSort 23 = .ok (.bipush 10, 2) := by decide +kernel
theorem dX2_addSort_25 : decode cX2_addSort 25 = .ok (.irem, 1) := by decide +kernel
theorem dX2_addSort_26 : decode cX2_addSort 26 = .ok (.istore 5, 2) := by decide +kernel
theorem dX2_addSort_28 : decode cX2_addSort 28 = .ok (.iconst 0, 1) := by decide +kernel
theorem dX2_addSort_29 : decode cX2_addSort 29 = .ok (.iload_n 1, 1) := by decide +kernel
theorem dX2_addSort_30 : decode cX2_addSort 30 = .ok (.invokestatic 49, 3) := by decide +kernel
theorem dX2_addSort_33 : decode cX2_addSort 33 = .ok (.ifCond .eq 20, 3) := by decide +kernel
theorem dX2_addSort_36 : decode cX2_addSort 36 = .ok (.iconst 1, 1) := by decide +kernel
theorem dX2_addSort_37 : decode cX2_addSort 37 = .ok (.iload_n 3, 1) := by decide +kernel
theorem dX2_addSort_38 : decode cX2_addSort 38 = .ok (.invokestatic 49, 3) := by decide +kernel
theorem dX2_addSort_41 : decode cX2_addSort 41 = .ok (.ifCond .eq 12, 3) := by decide +kernel
theorem dX2_addSort_44 : decode cX2_addSort 44 = .ok (.iconst 2, 1) := by decide +kernel
theorem dX2_addSort_45 : decode cX2_addSort 45 = .ok (.iload 4, 2) := by decide +kernel
theorem dX2_addSort_47 : decode cX2_addSort 47 = .ok (.invokestatic 49, 3) := by decide +kernel
theorem dX2_addSort_50 : decode cX2_addSort 50 = .ok (.ifCond .ne 6, 3) := by decide +kernel
theorem dX2_addSort_53 : decode cX2_addSort 53 = .ok (.bipush (-2), 2) := by decide +kernel
theorem dX2_addSort_55 : decode cX2_addSort 55 = .ok (.ireturn, 1) := by decide +kernel
theorem dX2_addSort_56 : decode cX2_addSort 56 = .ok (.aload_n 0, 1) := by decide +kernel
theorem dX2_addSort_57 : decode cX2_addSort 57 = .ok (.getfield 9, 3) := by decide +kernel
theorem dX2_addSort_60 : decode cX2_addSort 60 = .ok (.bipush 6, 2) := by decide +kernel
theorem dX2_addSort_62 : decode cX2_addSort 62 = .ok (.if_icmp .lt 6, 3) := by decide +kernel
theorem dX2_addSort_65 : decode cX2_addSort 65 = .ok (.bipush (-4), 2) := by decide +kernel
theorem dX2_addSort_67 : decode cX2_addSort 67 = .ok (.ireturn, 1) := by decide +kernel
theorem dX2_addSort_68 : decode cX2_addSort 68 = .ok (.aload_n 0, 1) := by decide +kernel
theorem dX2_addSort_69 : decode cX2_addSort 69 = .ok (.getfield 15, 3) := by decide +kernel
theorem dX2_addSort_72 : decode cX2_addSort 72 = .ok (.aload_n 0, 1) := by decide +kernel
theorem dX2_addSort_73 : decode cX2_addSort 73 = .ok (.getfield 9, 3) := by decide +kernel
theorem dX2_addSort_76 : decode cX2_addSort 76 = .ok (.iload_n 1, 1) := by decide +kernel
theorem dX2_addSort_77 : decode cX2_addSort 77 = .ok (.iastore, 1) := by decide +kernel
theorem dX2_addSort_78 : decode cX2_addSort 78 = .ok (.aload_n 0, 1) := by decide +kernel
theorem dX2_addSort_79 : decode cX2_addSort 79 = .ok (.getfield 19, 3) := by decide +kernel
theorem dX2_addSort_82 : decode cX2_addSort 82 = .ok (.aload_n 0, 1) := by decide +kernel
theorem dX2_addSort_83 : decode cX2_addSort 83 = .ok (.getfield 9, 3) := by decide +kernel
theorem dX2_addSort_86 : decode cX2_addSort 86 = .ok (.iload_n 3, 1) := by decide +kernel
theorem dX2_addSort_87 : decode cX2_addSort 87 = .ok (.iastore, 1) := by decide +kernel
theorem dX2_addSort_88 : decode cX2_addSort 88 = .ok (.aload_n 0, 1) := by decide +kernel
theorem dX2_addSort_89 : decode cX2_addSort 89 = .ok (.getfield 22, 3) := by decide +kernel
theorem dX2_addSort_92 : decode cX2_addSort 92 = .ok (.aload_n 0, 1) := by decide +kernel
theorem dX2_addSort_93 : decode cX2_addSort 93 = .ok (.getfield 9, 3) := by decide +kernel
theorem dX2_addSort_96 : decode cX2_addSort 96 = .ok (.iload 4, 2) := by decide +kernel
theorem dX2_addSort_98 : decode cX2_addSort 98 = .ok (.iastore, 1) := by decide +kernel
theorem dX2_addSort_99 : decode cX2_addSort 99 = .ok (.aload_n 0, 1) := by decide +kernel
theorem dX2_addSort_100 : decode cX2_addSort 100 = .ok (.getfield 25, 3) := by decide +kernel
theorem dX2_addSort_103 : decode cX2_addSort 103 = .ok (.aload_n 0, 1) := by decide +kernel
theorem dX2_addSort_104 : decode cX2_addSort 104 = .ok (.getfield 9, 3) := by decide +kernel
theorem dX2_addSort_107 : decode cX2_addSort 107 = .ok (.iload 5, 2) := by decide +kernel
theorem dX2_addSort_109 : decode cX2_addSort 109 = .ok (.iastore, 1) := by decide +kernel
theorem dX2_addSort_110 : decode cX2_addSort 110 = .ok (.aload_n 0, 1) := by decide +kernel
theorem dX2_addSort_111 : decode cX2_addSort 111 = .ok (.dup, 1) := by decide +kernel
theorem dX2_addSort_112 : decode cX2_addSort 112 = .ok (.getfield 9, 3) := by decide +kernel
theorem dX2_addSort_115 : decode cX2_addSort 115 = .ok (.dup_x1, 1) := by decide +kernel
theorem dX2_addSort_116 : decode cX2_addSort 116 = .ok (.iconst 1, 1) := by decide +kernel
theorem dX2_addSort_117 : decode cX2_addSort 117 = .ok (.iadd, 1) := by decide +kernel
theorem dX2_addSort_118 : decode cX2_addSort 118 = .ok (.putfield 9, 3) := by decide +kernel
theorem dX2_addSort_121 : decode cX2_addSort 121 = .ok (.ireturn, 1) := by decide +kernel
theorem dX2_rowOf_0 : decode cX2_rowOf 0 = .ok (.iload_n 1, 1) := by decide +kernel
theorem dX2_rowOf_1 : decode cX2_rowOf 1 = .ok (.tableswitch 60 0 4 #[35, 40, 45, 50, 55], 35) := by decide +kernel
theorem dX2_rowOf_36 : decode cX2_rowOf 36 = .ok (.aload_n 0, 1) := by decide +kernel
theorem dX2_rowOf_37 : decode cX2_rowOf 37 = .ok (.getfield 15, 3) := by decide +kernel
theorem dX2_rowOf_40 : decode cX2_rowOf 40 = .ok (.areturn, 1) := by decide +kernel
theorem dX2_rowOf_41 : decode cX2_rowOf 41 = .ok (.aload_n 0, 1) := by decide +kernel
theorem dX2_rowOf_42 : decode cX2_rowOf 42 = .ok (.getfield 19, 3) := by decide +kernel
theorem dX2_rowOf_45 : decode cX2_rowOf 45 = .ok (.areturn, 1) := by decide +kernel
theorem dX2_rowOf_46 : decode cX2_rowOf 46 = .ok (.aload_n 0, 1) := by decide +kernel
theorem dX2_rowOf_47 : decode cX2_rowOf 47 = .ok (.getfield 22, 3) := by decide +kernel
theorem dX2_rowOf_50 : decode cX2_rowOf 50 = .ok (.areturn, 1) := by decide +kernel
theorem dX2_rowOf_51 : decode cX2_rowOf 51 = .ok (.aload_n 0, 1) := by decide +kernel
theorem dX2_rowOf_52 : decode cX2_rowOf 52 = .ok (.getfield 25, 3) := by decide +kernel
theorem dX2_rowOf_55 : decode cX2_rowOf 55 = .ok (.areturn, 1) := by decide +kernel
theorem dX2_rowOf_56 : decode cX2_rowOf 56 = .ok (.aload_n 0, 1) := by decide +kernel
theorem dX2_rowOf_57 : decode cX2_rowOf 57 = .ok (.getfield 28, 3) := by decide +kernel
theorem dX2_rowOf_60 : decode cX2_rowOf 60 = .ok (.areturn, 1) := by decide +kernel
theorem dX2_rowOf_61 : decode cX2_rowOf 61 = .ok (.aconst_null, 1) := by decide +kernel
theorem dX2_rowOf_62 : decode cX2_rowOf 62 = .ok (.areturn, 1) := by decide +kernel
theorem dX2_sizeOf_0 : decode cX2_sizeOf 0 = .ok (.iload_n 1, 1) := by decide +kernel
theorem dX2_sizeOf_1 : decode cX2_sizeOf 1 = .ok (.iconst 4, 1) := by decide +kernel
theorem dX2_sizeOf_2 : decode cX2_sizeOf 2 = .ok (.if_icmp .ne 8, 3) := by decide +kernel
theorem dX2_sizeOf_5 : decode cX2_sizeOf 5 = .ok (.bipush 120, 2) := by decide +kernel
theorem dX2_sizeOf_7 : decode cX2_sizeOf 7 = .ok (.goto 7, 3) := by decide +kernel
theorem dX2_sizeOf_10 : decode cX2_sizeOf 10 = .ok (.aload_n 0, 1) := by decide +kernel
theorem dX2_sizeOf_11 : decode cX2_sizeOf 11 = .ok (.getfield 9, 3) := by decide +kernel
theorem dX2_sizeOf_14 : decode cX2_sizeOf 14 = .ok (.ireturn, 1) := by decide +kernel
theorem dX2_isShutIn_0 : decode cX2_isShutIn 0 = .ok (.aload_n 0, 1) := by decide +kernel
theorem dX2_isShutIn_1 : decode cX2_isShutIn 1 = .ok (.getfield 34, 3) := by decide +kernel
theorem dX2_isShutIn_4 : decode cX2_isShutIn 4 = .ok (.iconst (-1), 1) := by decide +kernel
theorem dX2_isShutIn_5 : decode cX2_isShutIn 5 = .ok (.if_icmp .eq 22, 3) := by decide +kernel
theorem dX2_isShutIn_8 : decode cX2_isShutIn 8 = .ok (.iload_n 1, 1) := by decide +kernel
theorem dX2_isShutIn_9 : decode cX2_isShutIn 9 = .ok (.aload_n 0, 1) := by decide +kernel
theorem dX2_isShutIn_10 : decode cX2_isShutIn 10 = .ok (.getfield 34, 3) := by decide +kernel
theorem dX2_isShutIn_13 : decode cX2_isShutIn 13 = .ok (.aload_n 0, 1) := by decide +kernel
theorem dX2_isShutIn_14 : decode cX2_isShutIn 14 = .ok (.getfield 37, 3) := by decide +kernel
theorem dX2_isShutIn_17 : decode cX2_isShutIn 17 = .ok (.invokestatic 53, 3) := by decide +kernel
theorem dX2_isShutIn_20 : decode cX2_isShutIn 20 = .ok (.ifCond .eq 7, 3) := by decide +kernel
theorem dX2_isShutIn_23 : decode cX2_isShutIn 23 = .ok (.iconst 1, 1) := by decide +kernel
theorem dX2_isShutIn_24 : decode cX2_isShutIn 24 = .ok (.goto 4, 3) := by decide +kernel
theorem dX2_isShutIn_27 : decode cX2_isShutIn 27 = .ok (.iconst 0, 1) := by decide +kernel
theorem dX2_isShutIn_28 : decode cX2_isShutIn 28 = .ok (.ireturn, 1) := by decide +kernel
theorem dX2_allUp_0 : decode cX2_allUp 0 = .ok (.iconst 0, 1) := by decide +kernel
theorem dX2_allUp_1 : decode cX2_allUp 1 = .ok (.istore_n 1, 1) := by decide +kernel
theorem dX2_allUp_2 : decode cX2_allUp 2 = .ok (.iconst 0, 1) := by decide +kernel
theorem dX2_allUp_3 : decode cX2_allUp 3 = .ok (.istore_n 2, 1) := by decide +kernel
theorem dX2_allUp_4 : decode cX2_allUp 4 = .ok (.iload_n 2, 1) := by decide +kernel
theorem dX2_allUp_5 : decode cX2_allUp 5 = .ok (.aload_n 0, 1) := by decide +kernel
theorem dX2_allUp_6 : decode cX2_allUp 6 = .ok (.getfield 9, 3) := by decide +kernel
theorem dX2_allUp_9 : decode cX2_allUp 9 = .ok (.if_icmp .ge 18, 3) := by decide +kernel
theorem dX2_allUp_12 : decode cX2_allUp 12 = .ok (.iload_n 1, 1) := by decide +kernel
theorem dX2_allUp_13 : decode cX2_allUp 13 = .ok (.aload_n 0, 1) := by decide +kernel
theorem dX2_allUp_14 : decode cX2_allUp 14 = .ok (.getfield 15, 3) := by decide +kernel
theorem dX2_allUp_17 : decode cX2_allUp 17 = .ok (.iload_n 2, 1) := by decide +kernel
theorem dX2_allUp_18 : decode cX2_allUp 18 = .ok (.iaload, 1) := by decide +kernel
theorem dX2_allUp_19 : decode cX2_allUp 19 = .ok (.iadd, 1) := by decide +kernel
theorem dX2_allUp_20 : decode cX2_allUp 20 = .ok (.istore_n 1, 1) := by decide +kernel
theorem dX2_allUp_21 : decode cX2_allUp 21 = .ok (.iinc 2 1, 3) := by decide +kernel
theorem dX2_allUp_24 : decode cX2_allUp 24 = .ok (.goto (-20), 3) := by decide +kernel
theorem dX2_allUp_27 : decode cX2_allUp 27 = .ok (.iload_n 1, 1) := by decide +kernel
theorem dX2_allUp_28 : decode cX2_allUp 28 = .ok (.ireturn, 1) := by decide +kernel
theorem dX2_takeOver_0 : decode cX2_takeOver 0 = .ok (.aload_n 1, 1) := by decide +kernel
theorem dX2_takeOver_1 : decode cX2_takeOver 1 = .ok (.getfield 15, 3) := by decide +kernel
theorem dX2_takeOver_4 : decode cX2_takeOver 4 = .ok (.iconst 0, 1) := by decide +kernel
theorem dX2_takeOver_5 : decode cX2_takeOver 5 = .ok (.aload_n 0, 1) := by decide +kernel
theorem dX2_takeOver_6 : decode cX2_takeOver 6 = .ok (.getfield 15, 3) := by decide +kernel
theorem dX2_takeOver_9 : decode cX2_takeOver 9 = .ok (.iconst 0, 1) := by decide +kernel
theorem dX2_takeOver_10 : decode cX2_takeOver 10 = .ok (.aload_n 1, 1) := by decide +kernel
theorem dX2_takeOver_11 : decode cX2_takeOver 11 = .ok (.getfield 9, 3) := by decide +kernel
theorem dX2_takeOver_14 : decode cX2_takeOver 14 = .ok (.invokestatic 57, 3) := by decide +kernel
theorem dX2_takeOver_17 : decode cX2_takeOver 17 = .ok (.aload_n 1, 1) := by decide +kernel
theorem dX2_takeOver_18 : decode cX2_takeOver 18 = .ok (.getfield 19, 3) := by decide +kernel
theorem dX2_takeOver_21 : decode cX2_takeOver 21 = .ok (.iconst 0, 1) := by decide +kernel
theorem dX2_takeOver_22 : decode cX2_takeOver 22 = .ok (.aload_n 0, 1) := by decide +kernel
theorem dX2_takeOver_23 : decode cX2_takeOver 23 = .ok (.getfield 19, 3) := by decide +kernel
theorem dX2_takeOver_26 : decode cX2_takeOver 26 = .ok (.iconst 0, 1) := by decide +kernel
theorem dX2_takeOver_27 : decode cX2_takeOver 27 = .ok (.aload_n 1, 1) := by decide +kernel
theorem dX2_takeOver_28 : decode cX2_takeOver 28 = .ok (.getfield 9, 3) := by decide +kernel
theorem dX2_takeOver_31 : decode cX2_takeOver 31 = .ok (.invokestatic 57, 3) := by decide +kernel
theorem dX2_takeOver_34 : decode cX2_takeOver 34 = .ok (.aload_n 1, 1) := by decide +kernel
theorem dX2_takeOver_35 : decode cX2_takeOver 35 = .ok (.getfield 22, 3) := by decide +kernel
theorem dX2_takeOver_38 : decode cX2_takeOver 38 = .ok (.iconst 0, 1) := by decide +kernel
theorem dX2_takeOver_39 : decode cX2_takeOver 39 = .ok (.aload_n 0, 1) := by decide +kernel
theorem dX2_takeOver_40 : decode cX2_takeOver 40 = .ok (.getfield 22, 3) := by decide +kernel
theorem dX2_takeOver_43 : decode cX2_takeOver 43 = .ok (.iconst 0, 1) := by decide +kernel
theorem dX2_takeOver_44 : decode cX2_takeOver 44 = .ok (.aload_n 1, 1) := by decide +kernel
theorem dX2_takeOver_45 : decode cX2_takeOver 45 = .ok (.getfield 9, 3) := by decide +kernel
theorem dX2_takeOver_48 : decode cX2_takeOver 48 = .ok (.invokestatic 57, 3) := by decide +kernel
theorem dX2_takeOver_51 : decode cX2_takeOver 51 = .ok (.aload_n 1, 1) := by decide +kernel
theorem dX2_takeOver_52 : decode cX2_takeOver 52 = .ok (.getfield 25, 3) := by decide +kernel
theorem dX2_takeOver_55 : decode cX2_takeOver 55 = .ok (.iconst 0, 1) := by decide +kernel
theorem dX2_takeOver_56 : decode cX2_takeOver 56 = .ok (.aload_n 0, 1) := by decide +kernel
theorem dX2_takeOver_57 : decode cX2_takeOver 57 = .ok (.getfield 25, 3) := by decide +kernel
theorem dX2_takeOver_60 : decode cX2_takeOver 60 = .ok (.iconst 0, 1) := by decide +kernel
theorem dX2_takeOver_61 : decode cX2_takeOver 61 = .ok (.aload_n 1, 1) := by decide +kernel
theorem dX2_takeOver_62 : decode cX2_takeOver 62 = .ok (.getfield 9, 3) := by decide +kernel
theorem dX2_takeOver_65 : decode cX2_takeOver 65 = .ok (.invokestatic 57, 3) := by decide +kernel
theorem dX2_takeOver_68 : decode cX2_takeOver 68 = .ok (.aload_n 1, 1) := by decide +kernel
theorem dX2_takeOver_69 : decode cX2_takeOver 69 = .ok (.getfield 28, 3) := by decide +kernel
theorem dX2_takeOver_72 : decode cX2_takeOver 72 = .ok (.iconst 0, 1) := by decide +kernel
theorem dX2_takeOver_73 : decode cX2_takeOver 73 = .ok (.aload_n 0, 1) := by decide +kernel
theorem dX2_takeOver_74 : decode cX2_takeOver 74 = .ok (.getfield 28, 3) := by decide +kernel
theorem dX2_takeOver_77 : decode cX2_takeOver 77 = .ok (.iconst 0, 1) := by decide +kernel
theorem dX2_takeOver_78 : decode cX2_takeOver 78 = .ok (.bipush 120, 2) := by decide +kernel
theorem dX2_takeOver_80 : decode cX2_takeOver 80 = .ok (.invokestatic 57, 3) := by decide +kernel
theorem dX2_takeOver_83 : decode cX2_takeOver 83 = .ok (.aload_n 0, 1) := by decide +kernel
theorem dX2_takeOver_84 : decode cX2_takeOver 84 = .ok (.aload_n 0, 1) := by decide +kernel
theorem dX2_takeOver_85 : decode cX2_takeOver 85 = .ok (.getfield 9, 3) := by decide +kernel
theorem dX2_takeOver_88 : decode cX2_takeOver 88 = .ok (.aload_n 1, 1) := by decide +kernel
theorem dX2_takeOver_89 : decode cX2_takeOver 89 = .ok (.getfield 9, 3) := by decide +kernel
theorem dX2_takeOver_92 : decode cX2_takeOver 92 = .ok (.invokestatic 63, 3) := by decide +kernel
theorem dX2_takeOver_95 : decode cX2_takeOver 95 = .ok (.putfield 9, 3) := by decide +kernel
theorem dX2_takeOver_98 : decode cX2_takeOver 98 = .ok (.aload_n 0, 1) := by decide +kernel
theorem dX2_takeOver_99 : decode cX2_takeOver 99 = .ok (.aload_n 1, 1) := by decide +kernel
theorem dX2_takeOver_100 : decode cX2_takeOver 100 = .ok (.getfield 31, 3) := by decide +kernel
theorem dX2_takeOver_103 : decode cX2_takeOver 103 = .ok (.putfield 31, 3) := by decide +kernel
theorem dX2_takeOver_106 : decode cX2_takeOver 106 = .ok (.aload_n 0, 1) := by decide +kernel
theorem dX2_takeOver_107 : decode cX2_takeOver 107 = .ok (.aload_n 1, 1) := by decide +kernel
theorem dX2_takeOver_108 : decode cX2_takeOver 108 = .ok (.getfield 34, 3) := by decide +kernel
theorem dX2_takeOver_111 : decode cX2_takeOver 111 = .ok (.putfield 34, 3) := by decide +kernel
theorem dX2_takeOver_114 : decode cX2_takeOver 114 = .ok (.aload_n 0, 1) := by decide +kernel
theorem dX2_takeOver_115 : decode cX2_takeOver 115 = .ok (.aload_n 1, 1) := by decide +kernel
theorem dX2_takeOver_116 : decode cX2_takeOver 116 = .ok (.getfield 37, 3) := by decide +kernel
theorem dX2_takeOver_119 : decode cX2_takeOver 119 = .ok (.putfield 37, 3) := by decide +kernel
theorem dX2_takeOver_122 : decode cX2_takeOver 122 = .ok (.aload_n 0, 1) := by decide +kernel
theorem dX2_takeOver_123 : decode cX2_takeOver 123 = .ok (.aload_n 1, 1) := by decide +kernel
theorem dX2_takeOver_124 : decode cX2_takeOver 124 = .ok (.getfield 40, 3) := by decide +kernel
theorem dX2_takeOver_127 : decode cX2_takeOver 127 = .ok (.putfield 40, 3) := by decide +kernel
theorem dX2_takeOver_130 : decode cX2_takeOver 130 = .ok (.return_, 1) := by decide +kernel
theorem dX3_init_0 : decode cX3_init 0 = .ok (.aload_n 0, 1) := by decide +kernel
theorem dX3_init_1 : decode cX3_init 1 = .ok (.invokespecial 3, 3) := by decide +kernel
theorem dX3_init_4 : decode cX3_init 4 = .ok (.aload_n 0, 1) := by decide +kernel
theorem dX3_init_5 : decode cX3_init 5 = .ok (.iconst (-1), 1) := by decide +kernel
theorem dX3_init_6 : decode cX3_init 6 = .ok (.putfield 9, 3) := by decide +kernel
theorem dX3_init_9 : decode cX3_init 9 = .ok (.aload_n 0, 1) := by decide +kernel
theorem dX3_init_10 : decode cX3_init 10 = .ok (.iconst 0, 1) := by decide +kernel
theorem dX3_init_11 : decode cX3_init 11 = .ok (.putfield 15, 3) := by decide +kernel
theorem dX3_init_14 : decode cX3_init 14 = .ok (.aload_n 0, 1) := by decide +kernel
theorem dX3_init_15 : decode cX3_init 15 = .ok (.bipush 40, 2) := by decide +kernel
theorem dX3_init_17 : decode cX3_init 17 = .ok (.newarray .int, 2) := by decide +kernel
theorem dX3_init_19 : decode cX3_init 19 = .ok (.putfield 18, 3) := by decide +kernel
theorem dX3_init_22 : decode cX3_init 22 = .ok (.return_, 1) := by decide +kernel
theorem dX3_become_0 : decode cX3_become 0 = .ok (.aload_n 0, 1) := by decide +kernel
theorem dX3_become_1 : decode cX3_become 1 = .ok (.iload_n 1, 1) := by decide +kernel
theorem dX3_become_2 : decode cX3_become 2 = .ok (.putfield 9, 3) := by decide +kernel
theorem dX3_become_5 : decode cX3_become 5 = .ok (.aload_n 0, 1) := by decide +kernel
theorem dX3_become_6 : decode cX3_become 6 = .ok (.iload_n 2, 1) := by decide +kernel
theorem dX3_become_7 : decode cX3_become 7 = .ok (.putfield 15, 3) := by decide +kernel
theorem dX3_become_10 : decode cX3_become 10 = .ok (.aload_n 0, 1) := by decide +kernel
theorem dX3_become_11 : decode cX3_become 11 = .ok (.getfield 18, 3) := by decide +kernel
theorem dX3_become_14 : decode cX3_become 14 = .ok (.iconst 0, 1) := by decide +kernel
theorem dX3_become_15 : decode cX3_become 15 = .ok (.invokestatic 22, 3) := by decide +kernel
theorem dX3_become_18 : decode cX3_become 18 = .ok (.return_, 1) := by decide +kernel
theorem dX3_has_0 : decode cX3_has 0 = .ok (.iload_n 1, 1) := by decide +kernel
theorem dX3_has_1 : decode cX3_has 1 = .ok (.iconst 0, 1) := by decide +kernel
theorem dX3_has_2 : decode cX3_has 2 = .ok (.aload_n 0, 1) := by decide +kernel
theorem dX3_has_3 : decode cX3_has 3 = .ok (.getfield 15, 3) := by decide +kernel
theorem dX3_has_6 : decode cX3_has 6 = .ok (.iconst 1, 1) := by decide +kernel
theorem dX3_has_7 : decode cX3_has 7 = .ok (.isub, 1) := by decide +kernel
theorem dX3_has_8 : decode cX3_has 8 = .ok (.invokestatic 28, 3) := by decide +kernel
theorem dX3_has_11 : decode cX3_has 11 = .ok (.ireturn, 1) := by decide +kernel
theorem dX3_hasRow_0 : decode cX3_hasRow 0 = .ok (.iload_n 2, 1) := by decide +kernel
theorem dX3_hasRow_1 : decode cX3_hasRow 1 = .ok (.ifCond .lt 29, 3) := by decide +kernel
theorem dX3_hasRow_4 : decode cX3_hasRow 4 = .ok (.iload_n 1, 1) := by decide +kernel
theorem dX3_hasRow_5 : decode cX3_hasRow 5 = .ok (.iconst 0, 1) := by decide +kernel
theorem dX3_hasRow_6 : decode cX3_hasRow 6 = .ok (.aload_n 0, 1) := by decide +kernel
theorem dX3_hasRow_7 : decode cX3_hasRow 7 = .ok (.getfield 15, 3) := by decide +kernel
theorem dX3_hasRow_10 : decode cX3_hasRow 10 = .ok (.invokestatic 28, 3) := by decide +kernel
theorem dX3_hasRow_13 : decode cX3_hasRow 13 = .ok (.ifCond .eq 17, 3) := by decide +kernel
theorem dX3_hasRow_16 : decode cX3_hasRow 16 = .ok (.iload_n 2, 1) := by decide +kernel
theorem dX3_hasRow_17 : decode cX3_hasRow 17 = .ok (.aload_n 0, 1) := by decide +kernel
theorem dX3_hasRow_18 : decode cX3_hasRow 18 = .ok (.getfield 15, 3) := by decide +kernel
theorem dX3_hasRow_21 : decode cX3_hasRow 21 = .ok (.iload_n 1, 1) := by decide +kernel
theorem dX3_hasRow_22 : decode cX3_hasRow 22 = .ok (.isub, 1) := by decide +kernel
theorem dX3_hasRow_23 : decode cX3_hasRow 23 = .ok (.if_icmp .gt 7, 3) := by decide +kernel
theorem dX3_hasRow_26 : decode cX3_hasRow 26 = .ok (.iconst 1, 1) := by decide +kernel
theorem dX3_hasRow_27 : decode cX3_hasRow 27 = .ok (.goto 4, 3) := by decide +kernel
theorem dX3_hasRow_30 : decode cX3_hasRow 30 = .ok (.iconst 0, 1) := by decide +kernel
theorem dX3_hasRow_31 : decode cX3_hasRow 31 = .ok (.ireturn, 1) := by decide +kernel
theorem dX3_put_0 : decode cX3_put 0 = .ok (.aload_n 0, 1) := by decide +kernel
theorem dX3_put_1 : decode cX3_put 1 = .ok (.getfield 9, 3) := by decide +kernel
theorem dX3_put_4 : decode cX3_put 4 = .ok (.ifCond .ne 14, 3) := by decide +kernel
theorem dX3_put_7 : decode cX3_put 7 = .ok (.aload_n 0, 1) := by decide +kernel
theorem dX3_put_8 : decode cX3_put 8 = .ok (.getfield 18, 3) := by decide +kernel
theorem dX3_put_11 : decode cX3_put 11 = .ok (.iload_n 1, 1) := by decide +kernel
theorem dX3_put_12 : decode cX3_put 12 = .ok (.iload_n 2, 1) := by decide +kernel
theorem dX3_put_13 : decode cX3_put 13 = .ok (.i2b, 1) := by decide +kernel
theorem dX3_put_14 : decode cX3_put 14 = .ok (.iastore, 1) := by decide +kernel
theorem dX3_put_15 : decode cX3_put 15 = .ok (.goto 29, 3) := by decide +kernel
theorem dX3_put_18 : decode cX3_put 18 = .ok (.aload_n 0, 1) := by decide +kernel
theorem dX3_put_19 : decode cX3_put 19 = .ok (.getfield 9, 3) := by decide +kernel
theorem dX3_put_22 : decode cX3_put 22 = .ok (.iconst 1, 1) := by decide +kernel
theorem dX3_put_23 : decode cX3_put 23 = .ok (.if_icmp .ne 14, 3) := by decide +kernel
theorem dX3_put_26 : decode cX3_put 26 = .ok (.aload_n 0, 1) := by decide +kernel
theorem dX3_put_27 : decode cX3_put 27 = .ok (.getfield 18, 3) := by decide +kernel
theorem dX3_put_30 : decode cX3_put 30 = .ok (.iload_n 1, 1) := by decide +kernel
theorem dX3_put_31 : decode cX3_put 31 = .ok (.iload_n 2, 1) := by decide +kernel
theorem dX3_put_32 : decode cX3_put 32 = .ok (.i2s, 1) := by decide +kernel
theorem dX3_put_33 : decode cX3_put 33 = .ok (.iastore, 1) := by decide +kernel
theorem dX3_put_34 : decode cX3_put 34 = .ok (.goto 10, 3) := by decide +kernel
theorem dX3_put_37 : decode cX3_put 37 = .ok (.aload_n 0, 1) := by decide +kernel
theorem dX3_put_38 : decode cX3_put 38 = .ok (.getfield 18, 3) := by decide +kernel
theorem dX3_put_41 : decode cX3_put 41 = .ok (.iload_n 1, 1) := by decide +kernel
theorem dX3_put_42 : decode cX3_put 42 = .ok (.iload_n 2, 1) := by decide +kernel
theorem dX3_put_43 : decode cX3_put 43 = .ok (.iastore, 1) := by decide +kernel
theorem dX3_put_44 : decode cX3_put 44 = .ok (.return_, 1) := by decide +kernel
theorem dX3_allBetween_0 : decode cX3_allBetween 0 = .ok (.iconst 0, 1) := by decide +kernel
theorem dX3_allBetween_1 : decode cX3_allBetween 1 = .ok (.istore_n 3, 1) := by decide +kernel
theorem dX3_allBetween_2 : decode cX3_allBetween 2 = .ok (.iload_n 3, 1) := by decide +kernel
theorem dX3_allBetween_3 : decode cX3_allBetween 3 = .ok (.aload_n 0, 1) := by decide +kernel
theorem dX3_allBetween_4 : decode cX3_allBetween 4 = .ok (.getfield 15, 3) := by decide +kernel
theorem dX3_allBetween_7 : decode cX3_allBetween 7 = .ok (.if_icmp .ge 25, 3) := by decide +kernel
theorem dX3_allBetween_10 : decode cX3_allBetween 10 = .ok (.aload_n 0, 1) := by decide +kernel
theorem dX3_allBetween_11 : decode cX3_allBetween 11 = .ok (.getfield 18, 3) := by decide +kernel
theorem dX3_allBetween_14 : decode cX3_allBetween 14 = .ok (.iload_n 3, 1) := by decide +kernel
theorem dX3_allBetween_15 : decode cX3_allBetween 15 = .ok (.iaload, 1) := by decide +kernel
theorem dX3_allBetween_16 : decode cX3_allBetween 16 = .ok (.iload_n 1, 1) := by decide +kernel
theorem dX3_allBetween_17 : decode cX3_allBetween 17 = .ok (.iload_n 2, 1) := by decide +kernel
theorem dX3_allBetween_18 : decode cX3_allBetween 18 = .ok (.invokestatic 28, 3) := by decide +kernel
theorem dX3_allBetween_21 : decode cX3_allBetween 21 = .ok (.ifCond .ne 5, 3) := by decide +kernel
theorem dX3_allBetween_24 : decode cX3_allBetween 24 = .ok (.iconst 0, 1) := by decide +kernel
theorem dX3_allBetween_25 : decode cX3_allBetween 25 = .ok (.ireturn, 1) := by decide +kernel
theorem dX3_allBetween_26 : decode cX3_allBetween 26 = .ok (.iinc 3 1, 3) := by decide +kernel
theorem dX3_allBetween_29 : decode cX3_allBetween 29 = .ok (.goto (-27), 3) := by decide +kernel
theorem dX3_allBetween_32 : decode cX3_allBetween 32 = .ok (.iconst 1, 1) := by decide +kernel
theorem dX3_allBetween_33 : decode cX3_allBetween 33 = .ok (.ireturn, 1) := by decide +kernel
theorem dX4_init_0 : decode cX4_init 0 = .ok (.aload_n 0, 1) := by decide +kernel
theorem dX4_init_1 : decode cX4_init 1 = .ok (.invokespecial 3, 3) := by decide +kernel
theorem dX4_init_4 : decode cX4_init 4 = .ok (.aload_n 0, 1) := by decide +kernel
theorem dX4_init_5 : decode cX4_init 5 = .ok (.sipush 160, 3) := by decide +kernel
theorem dX4_init_8 : decode cX4_init 8 = .ok (.newarray .int, 2) := by decide +kernel
theorem dX4_init_10 : decode cX4_init 10 = .ok (.putfield 9, 3) := by decide +kernel
theorem dX4_init_13 : decode cX4_init 13 = .ok (.aload_n 0, 1) := by decide +kernel
theorem dX4_init_14 : decode cX4_init 14 = .ok (.iconst 0, 1) := by decide +kernel
theorem dX4_init_15 : decode cX4_init 15 = .ok (.putfield 15, 3) := by decide +kernel
theorem dX4_init_18 : decode cX4_init 18 = .ok (.aload_n 0, 1) := by decide +kernel
theorem dX4_init_19 : decode cX4_init 19 = .ok (.iconst 0, 1) := by decide +kernel
theorem dX4_init_20 : decode cX4_init 20 = .ok (.putfield 19, 3) := by decide +kernel
theorem dX4_init_23 : decode cX4_init 23 = .ok (.aload_n 0, 1) := by decide +kernel
theorem dX4_init_24 : decode cX4_init 24 = .ok (.iconst 0, 1) := by decide +kernel
theorem dX4_init_25 : decode cX4_init 25 = .ok (.putfield 22, 3) := by decide +kernel
theorem dX4_init_28 : decode cX4_init 28 = .ok (.aload_n 0, 1) := by decide +kernel
theorem dX4_init_29 : decode cX4_init 29 = .ok (.iconst 0, 1) := by decide +kernel
theorem dX4_init_30 : decode cX4_init 30 = .ok (.putfield 25, 3) := by decide +kernel
theorem dX4_init_33 : decode cX4_init 33 = .ok (.aload_n 0, 1) := by decide +kernel
theorem dX4_init_34 : decode cX4_init 34 = .ok (.iconst (-1), 1) := by decide +kernel
theorem dX4_init_35 : decode cX4_init 35 = .ok (.putfield 28, 3) := by decide +kernel
theorem dX4_init_38 : decode cX4_init 38 = .ok (.return_, 1) := by decide +kernel
theorem dX4_append_0 : decode cX4_append 0 = .ok (.aload_n 0, 1) := by decide +kernel
theorem dX4_append_1 : decode cX4_append 1 = .ok (.getfield 15, 3) := by decide +kernel
theorem dX4_append_4 : decode cX4_append 4 = .ok (.sipush 160, 3) := by decide +kernel
theorem dX4_append_7 : decode cX4_append 7 = .ok (.if_icmp .lt 4, 3) := by decide +kernel
theorem dX4_append_10 : decode cX4_append 10 = .ok (.return_, 1) := by decide +kernel
theorem dX4_append_11 : decode cX4_append 11 = .ok (.aload_n 0, 1) := by decide +kernel
theorem dX4_append_12 : decode cX4_append 12 = .ok (.getfield 9, 3) := by decide +kernel
theorem dX4_append_15 : decode cX4_append 15 = .ok (.aload_n 0, 1) := by decide +kernel
theorem dX4_append_16 : decode cX4_append 16 = .ok (.getfield 15, 3) := by decide +kernel
theorem dX4_append_19 : decode cX4_append 19 = .ok (.iload_n 1, 1) := by decide +kernel
theorem dX4_append_20 : decode cX4_append 20 = .ok (.iastore, 1) := by decide +kernel
theorem dX4_append_21 : decode cX4_append 21 = .ok (.aload_n 0, 1) := by decide +kernel
theorem dX4_append_22 : decode cX4_append 22 = .ok (.dup, 1) := by decide +kernel
theorem dX4_append_23 : decode cX4_append 23 = .ok (.getfield 15, 3) := by decide +kernel
theorem dX4_append_26 : decode cX4_append 26 = .ok (.iconst 1, 1) := by decide +kernel
theorem dX4_append_27 : decode cX4_append 27 = .ok (.iadd, 1) := by decide +kernel
theorem dX4_append_28 : decode cX4_append 28 = .ok (.putfield 15, 3) := by decide +kernel
theorem dX4_append_31 : decode cX4_append 31 = .ok (.return_, 1) := by decide +kernel
theorem dX4_empty_0 : decode cX4_empty 0 = .ok (.aload_n 0, 1) := by decide +kernel
theorem dX4_empty_1 : decode cX4_empty 1 = .ok (.iconst 0, 1) := by decide +kernel
theorem dX4_empty_2 : decode cX4_empty 2 = .ok (.putfield 15, 3) := by decide +kernel
theorem dX4_empty_5 : decode cX4_empty 5 = .ok (.return_, 1) := by decide +kernel
theorem dX4_read_0 : decode cX4_read 0 = .ok (.aload_n 0, 1) := by decide +kernel
theorem dX4_read_1 : decode cX4_read 1 = .ok (.iconst 0, 1) := by decide +kernel
theorem dX4_read_2 : decode cX4_read 2 = .ok (.putfield 19, 3) := by decide +kernel
theorem dX4_read_5 : decode cX4_read 5 = .ok (.aload_n 0, 1) := by decide +kernel
theorem dX4_read_6 : decode cX4_read 6 = .ok (.iconst (-1), 1) := by decide +kernel
theorem dX4_read_7 : decode cX4_read 7 = .ok (.putfield 28, 3) := by decide +kernel
theorem dX4_read_10 : decode cX4_read 10 = .ok (.aload_n 1, 1) := by decide +kernel
theorem dX4_read_11 : decode cX4_read 11 = .ok (.invokevirtual 31, 3) := by decide +kernel
theorem dX4_read_14 : decode cX4_read 14 = .ok (.aload_n 0, 1) := by decide +kernel
theorem dX4_read_15 : decode cX4_read 15 = .ok (.invokevirtual 36, 3) := by decide +kernel
theorem dX4_read_18 : decode cX4_read 18 = .ok (.iconst 0, 1) := by decide +kernel
theorem dX4_read_19 : decode cX4_read 19 = .ok (.istore_n 2, 1) := by decide +kernel
theorem dX4_read_20 : decode cX4_read 20 = .ok (.iload_n 2, 1) := by decide +kernel
theorem dX4_read_21 : decode cX4_read 21 = .ok (.iconst 3, 1) := by decide +kernel
theorem dX4_read_22 : decode cX4_read 22 = .ok (.if_icmp .ge 35, 3) := by decide +kernel
theorem dX4_read_25 : decode cX4_read 25 = .ok (.aload_n 0, 1) := by decide +kernel
theorem dX4_read_26 : decode cX4_read 26 = .ok (.sipush 270, 3) := by decide +kernel
theorem dX4_read_29 : decode cX4_read 29 = .ok (.iload_n 2, 1) := by decide +kernel
theorem dX4_read_30 : decode cX4_read 30 = .ok (.iadd, 1) := by decide +kernel
theorem dX4_read_31 : decode cX4_read 31 = .ok (.invokevirtual 39, 3) := by decide +kernel
theorem dX4_read_34 : decode cX4_read 34 = .ok (.aload_n 1, 1) := by decide +kernel
theorem dX4_read_35 : decode cX4_read 35 = .ok (.iload_n 2, 1) := by decide +kernel
theorem dX4_read_36 : decode cX4_read 36 = .ok (.invokevirtual 43, 3) := by decide +kernel
theorem dX4_read_39 : decode cX4_read 39 = .ok (.aload_n 0, 1) := by decide +kernel
theorem dX4_read_40 : decode cX4_read 40 = .ok (.aload_n 1, 1) := by decide +kernel
theorem dX4_read_41 : decode cX4_read 41 = .ok (.iconst 0, 1) := by decide +kernel
theorem dX4_read_42 : decode cX4_read 42 = .ok (.invokevirtual 46, 3) := by decide +kernel
theorem dX4_read_45 : decode cX4_read 45 = .ok (.aload_n 0, 1) := by decide +kernel
theorem dX4_read_46 : decode cX4_read 46 = .ok (.bipush 59, 2) := by decide +kernel
theorem dX4_read_48 : decode cX4_read 48 = .ok (.invokevirtual 39, 3) := by decide +kernel
theorem dX4_read_51 : decode cX4_read 51 = .ok (.iinc 2 1, 3) := by decide +kernel
theorem dX4_read_54 : decode cX4_read 54 = .ok (.goto (-34), 3) := by decide +kernel
theorem dX4_read_57 : decode cX4_read 57 = .ok (.aload_n 1, 1) := by decide +kernel
theorem dX4_read_58 : decode cX4_read 58 = .ok (.invokevirtual 50, 3) := by decide +kernel
theorem dX4_read_61 : decode cX4_read 61 = .ok (.aload_n 0, 1) := by decide +kernel
theorem dX4_read_62 : decode cX4_read 62 = .ok (.iconst 1, 1) := by decide +kernel
theorem dX4_read_63 : decode cX4_read 63 = .ok (.invokevirtual 39, 3) := by decide +kernel
theorem dX4_read_66 : decode cX4_read 66 = .ok (.aload_n 0, 1) := by decide +kernel
theorem dX4_read_67 : decode cX4_read 67 = .ok (.getfield 28, 3) := by decide +kernel
theorem dX4_read_70 : decode cX4_read 70 = .ok (.ireturn, 1) := by decide +kernel
theorem dX4_expect_0 : decode cX4_expect 0 = .ok (.aload_n 0, 1) := by decide +kernel
theorem dX4_expect_1 : decode cX4_expect 1 = .ok (.getfield 22, 3) := by decide +kernel
theorem dX4_expect_4 : decode cX4_expect 4 = .ok (.iload_n 1, 1) := by decide +kernel
theorem dX4_expect_5 : decode cX4_expect 5 = .ok (.if_icmp .ne 10, 3) := by decide +kernel
theorem dX4_expect_8 : decode cX4_expect 8 = .ok (.aload_n 0, 1) := by decide +kernel
theorem dX4_expect_9 : decode cX4_expect 9 = .ok (.invokevirtual 36, 3) := by decide +kernel
theorem dX4_expect_12 : decode cX4_expect 12 = .ok (.goto 7, 3) := by decide +kernel
theorem dX4_expect_15 : decode cX4_expect 15 = .ok (.aload_n 0, 1) := by decide +kernel
theorem dX4_expect_16 : decode cX4_expect 16 = .ok (.invokevirtual 53, 3) := by decide +kernel
theorem dX4_expect_19 : decode cX4_expect 19 = .ok (.return_, 1) := by decide +kernel
theorem dX4_refuse_0 : decode cX4_refuse 0 = .ok (.aload_n 0, 1) := by decide +kernel
theorem dX4_refuse_1 : decode cX4_refuse 1 = .ok (.getfield 28, 3) := by decide +kernel
theorem dX4_refuse_4 : decode cX4_refuse 4 = .ok (.iconst (-1), 1) := by decide +kernel
theorem dX4_refuse_5 : decode cX4_refuse 5 = .ok (.if_icmp .ne 11, 3) := by decide +kernel
theorem dX4_refuse_8 : decode cX4_refuse 8 = .ok (.aload_n 0, 1) := by decide +kernel
theorem dX4_refuse_9 : decode cX4_refuse 9 = .ok (.aload_n 0, 1) := by decide +kernel
theorem dX4_refuse_10 : decode cX4_refuse 10 = .ok (.getfield 25, 3) := by decide +kernel
theorem dX4_refuse_13 : decode cX4_refuse 13 = .ok (.putfield 28, 3) := by decide +kernel
theorem dX4_refuse_16 : decode cX4_refuse 16 = .ok (.aload_n 0, 1) := by decide +kernel
theorem dX4_refuse_17 : decode cX4_refuse 17 = .ok (.iconst 0, 1) := by decide +kernel
theorem dX4_refuse_18 : decode cX4_refuse 18 = .ok (.putfield 22, 3) := by decide +kernel
theorem dX4_refuse_21 : decode cX4_refuse 21 = .ok (.return_, 1) := by decide +kernel
theorem dX4_readOr_0 : decode cX4_readOr 0 = .ok (.aload_n 0, 1) := by decide +kernel
theorem dX4_readOr_1 : decode cX4_readOr 1 = .ok (.aload_n 1, 1) := by decide +kernel
theorem dX4_readOr_2 : decode cX4_readOr 2 = .ok (.iload_n 2, 1) := by decide +kernel
theorem dX4_readOr_3 : decode cX4_readOr 3 = .ok (.invokevirtual 56, 3) := by decide +kernel
theorem dX4_readOr_6 : decode cX4_readOr 6 = .ok (.iconst 0, 1) := by decide +kernel
theorem dX4_readOr_7 : decode cX4_readOr 7 = .ok (.istore_n 3, 1) := by decide +kernel
theorem dX4_readOr_8 : decode cX4_readOr 8 = .ok (.iload_n 3, 1) := by decide +kernel
theorem dX4_readOr_9 : decode cX4_readOr 9 = .ok (.sipush 160, 3) := by decide +kernel
theorem dX4_readOr_12 : decode cX4_readOr 12 = .ok (.if_icmp .ge 36, 3) := by decide +kernel
theorem dX4_readOr_15 : decode cX4_readOr 15 = .ok (.aload_n 0, 1) := by decide +kernel
theorem dX4_readOr_16 : decode cX4_readOr 16 = .ok (.getfield 22, 3) := by decide +kernel
theorem dX4_readOr_19 : decode cX4_readOr 19 = .ok (.sipush 256, 3) := by decide +kernel
theorem dX4_readOr_22 : decode cX4_readOr 22 = .ok (.if_icmp .ne 26, 3) := by decide +kernel
theorem dX4_readOr_25 : decode cX4_readOr 25 = .ok (.aload_n 0, 1) := by decide +kernel
theorem dX4_readOr_26 : decode cX4_readOr 26 = .ok (.invokevirtual 36, 3) := by decide +kernel
theorem dX4_readOr_29 : decode cX4_readOr 29 = .ok (.aload_n 0, 1) := by decide +kernel
theorem dX4_readOr_30 : decode cX4_readOr 30 = .ok (.aload_n 1, 1) := by decide +kernel
theorem dX4_readOr_31 : decode cX4_readOr 31 = .ok (.iload_n 2, 1) := by decide +kernel
theorem dX4_readOr_32 : decode cX4_readOr 32 = .ok (.invokevirtual 56, 3) := by decide +kernel
theorem dX4_readOr_35 : decode cX4_readOr 35 = .ok (.aload_n 1, 1) := by decide +kernel
theorem dX4_readOr_36 : decode cX4_readOr 36 = .ok (.sipush 256, 3) := by decide +kernel
theorem dX4_readOr_39 : decode cX4_readOr 39 = .ok (.invokevirtual 59, 3) := by decide +kernel
theorem dX4_readOr_42 : decode cX4_readOr 42 = .ok (.iinc 3 1, 3) := by decide +kernel
theorem dX4_readOr_45 : decode cX4_readOr 45 = .ok (.goto (-37), 3) := by decide +kernel
theorem dX4_readOr_48 : decode cX4_readOr 48 = .ok (.return_, 1) := by decide +kernel
theorem dX4_readAnd_0 : decode cX4_readAnd 0 = .ok (.aload_n 0, 1) := by decide +kernel
theorem dX4_readAnd_1 : decode cX4_readAnd 1 = .ok (.aload_n 1, 1) := by decide +kernel
theorem dX4_readAnd_2 : decode cX4_readAnd 2 = .ok (.iload_n 2, 1) := by decide +kernel
theorem dX4_readAnd_3 : decode cX4_readAnd 3 = .ok (.invokevirtual 62, 3) := by decide +kernel
theorem dX4_readAnd_6 : decode cX4_readAnd 6 = .ok (.iconst 0, 1) := by decide +kernel
theorem dX4_readAnd_7 : decode cX4_readAnd 7 = .ok (.istore_n 3, 1) := by decide +kernel
theorem dX4_readAnd_8 : decode cX4_readAnd 8 = .ok (.iload_n 3, 1) := by decide +kernel
theorem dX4_readAnd_9 : decode cX4_readAnd 9 = .ok (.sipush 160, 3) := by decide +kernel
theorem dX4_readAnd_12 : decode cX4_readAnd 12 = .ok (.if_icmp .ge 36, 3) := by decide +kernel
theorem dX4_readAnd_15 : decode cX4_readAnd 15 = .ok (.aload_n 0, 1) := by decide +kernel
theorem dX4_readAnd_16 : decode cX4_readAnd 16 = .ok (.getfield 22, 3) := by decide +kernel
theorem dX4_readAnd_19 : decode cX4_readAnd 19 = .ok (.sipush 257, 3) := by decide +kernel
theorem dX4_readAnd_22 : decode cX4_readAnd 22 = .ok (.if_icmp .ne 26, 3) := by decide +kernel
theorem dX4_readAnd_25 : decode cX4_readAnd 25 = .ok (.aload_n 0, 1) := by decide +kernel
theorem dX4_readAnd_26 : decode cX4_readAnd 26 = .ok (.invokevirtual 36, 3) := by decide +kernel
theorem dX4_readAnd_29 : decode cX4_readAnd 29 = .ok (.aload_n 0, 1) := by decide +kernel
theorem dX4_readAnd_30 : decode cX4_readAnd 30 = .ok (.aload_n 1, 1) := by decide +kernel
theorem dX4_readAnd_31 : decode cX4_readAnd 31 = .ok (.iload_n 2, 1) := by decide +kernel
theorem dX4_readAnd_32 : decode cX4_readAnd 32 = .ok (.invokevirtual 62, 3) := by decide +kernel
theorem dX4_readAnd_35 : decode cX4_readAnd 35 = .ok (.aload_n 1, 1) := by decide +kernel
theorem dX4_readAnd_36 : decode cX4_readAnd 36 = .ok (.sipush 257, 3) := by decide +kernel
theorem dX4_readAnd_39 : decode cX4_readAnd 39 = .ok (.invokevirtual 59, 3) := by decide +kernel
theorem dX4_readAnd_42 : decode cX4_readAnd 42 = .ok (.iinc 3 1, 3) := by decide +kernel
theorem dX4_readAnd_45 : decode cX4_readAnd 45 = .ok (.goto (-37), 3) := by decide +kernel
theorem dX4_readAnd_48 : decode cX4_readAnd 48 = .ok (.return_, 1) := by decide +kernel
theorem dX4_readNot_0 : decode cX4_readNot 0 = .ok (.aload_n 0, 1) := by decide +kernel
theorem dX4_readNot_1 : decode cX4_readNot 1 = .ok (.getfield 22, 3) := by decide +kernel
theorem dX4_readNot_4 : decode cX4_readNot 4 = .ok (.sipush 258, 3) := by decide +kernel
theorem dX4_readNot_7 : decode cX4_readNot 7 = .ok (.if_icmp .ne 32, 3) := by decide +kernel
theorem dX4_readNot_10 : decode cX4_readNot 10 = .ok (.aload_n 0, 1) := by decide +kernel
theorem dX4_readNot_11 : decode cX4_readNot 11 = .ok (.iload_n 2, 1) := by decide +kernel
theorem dX4_readNot_12 : decode cX4_readNot 12 = .ok (.invokevirtual 65, 3) := by decide +kernel
theorem dX4_readNot_15 : decode cX4_readNot 15 = .ok (.ifCond .ne 4, 3) := by decide +kernel
theorem dX4_readNot_18 : decode cX4_readNot 18 = .ok (.return_, 1) := by decide +kernel
theorem dX4_readNot_19 : decode cX4_readNot 19 = .ok (.aload_n 0, 1) := by decide +kernel
theorem dX4_readNot_20 : decode cX4_readNot 20 = .ok (.invokevirtual 36, 3) := by decide +kernel
theorem dX4_readNot_23 : decode cX4_readNot 23 = .ok (.aload_n 0, 1) := by decide +kernel
theorem dX4_readNot_24 : decode cX4_readNot 24 = .ok (.aload_n 1, 1) := by decide +kernel
theorem dX4_readNot_25 : decode cX4_readNot 25 = .ok (.iload_n 2, 1) := by decide +kernel
theorem dX4_readNot_26 : decode cX4_readNot 26 = .ok (.iconst 1, 1) := by decide +kernel
theorem dX4_readNot_27 : decode cX4_readNot 27 = .ok (.iadd, 1) := by decide +kernel
theorem dX4_readNot_28 : decode cX4_readNot 28 = .ok (.invokevirtual 62, 3) := by decide +kernel
theorem dX4_readNot_31 : decode cX4_readNot 31 = .ok (.aload_n 1, 1) := by decide +kernel
theorem dX4_readNot_32 : decode cX4_readNot 32 = .ok (.sipush 258, 3) := by decide +kernel
theorem dX4_readNot_35 : decode cX4_readNot 35 = .ok (.invokevirtual 59, 3) := by decide +kernel
theorem dX4_readNot_38 : decode cX4_readNot 38 = .ok (.return_, 1) := by decide +kernel
theorem dX4_readNot_39 : decode cX4_readNot 39 = .ok (.aload_n 0, 1) := by decide +kernel
theorem dX4_readNot_40 : decode cX4_readNot 40 = .ok (.aload_n 1, 1) := by decide +kernel
theorem dX4_readNot_41 : decode cX4_readNot 41 = .ok (.iload_n 2, 1) := by decide +kernel
theorem dX4_readNot_42 : decode cX4_readNot 42 = .ok (.invokevirtual 69, 3) := by decide +kernel
theorem dX4_readNot_45 : decode cX4_readNot 45 = .ok (.aload_n 0, 1) := by decide +kernel
theorem dX4_readNot_46 : decode cX4_readNot 46 = .ok (.getfield 22, 3) := by decide +kernel
theorem dX4_readNot_49 : decode cX4_readNot 49 = .ok (.bipush 60, 2) := by decide +kernel
theorem dX4_readNot_51 : decode cX4_readNot 51 = .ok (.if_icmp .eq 12, 3) := by decide +kernel
theorem dX4_readNot_54 : decode cX4_readNot 54 = .ok (.aload_n 0, 1) := by decide +kernel
theorem dX4_readNot_55 : decode cX4_readNot 55 = .ok (.getfield 22, 3) := by decide +kernel
theorem dX4_readNot_58 : decode cX4_readNot 58 = .ok (.bipush 61, 2) := by decide +kernel
theorem dX4_readNot_60 : decode cX4_readNot 60 = .ok (.if_icmp .ne 23, 3) := by decide +kernel
theorem dX4_readNot_63 : decode cX4_readNot 63 = .ok (.aload_n 0, 1) := by decide +kernel
theorem dX4_readNot_64 : decode cX4_readNot 64 = .ok (.getfield 22, 3) := by decide +kernel
theorem dX4_readNot_67 : decode cX4_readNot 67 = .ok (.istore_n 3, 1) := by decide +kernel
theorem dX4_readNot_68 : decode cX4_readNot 68 = .ok (.aload_n 0, 1) := by decide +kernel
theorem dX4_readNot_69 : decode cX4_readNot 69 = .ok (.invokevirtual 36, 3) := by decide +kernel
theorem dX4_readNot_72 : decode cX4_readNot 72 = .ok (.aload_n 0, 1) := by decide +kernel
theorem dX4_readNot_73 : decode cX4_readNot 73 = .ok (.aload_n 1, 1) := by decide +kernel
theorem dX4_readNot_74 : decode cX4_readNot 74 = .ok (.iload_n 2, 1) := by decide +kernel
theorem dX4_readNot_75 : decode cX4_readNot 75 = .ok (.invokevirtual 69, 3) := by decide +kernel
theorem dX4_readNot_78 : decode cX4_readNot 78 = .ok (.aload_n 1, 1) := by decide +kernel
theorem dX4_readNot_79 : decode cX4_readNot 79 = .ok (.iload_n 3, 1) := by decide +kernel
theorem dX4_readNot_80 : decode cX4_readNot 80 = .ok (.invokevirtual 59, 3) := by decide +kernel
theorem dX4_readNot_83 : decode cX4_readNot 83 = .ok (.return_, 1) := by decide +kernel
theorem dX4_readSum_0 : decode cX4_readSum 0 = .ok (.aload_n 0, 1) := by decide +kernel
theorem dX4_readSum_1 : decode cX4_readSum 1 = .ok (.aload_n 1, 1) := by decide +kernel
theorem dX4_readSum_2 : decode cX4_readSum 2 = .ok (.iload_n 2, 1) := by decide +kernel
theorem dX4_readSum_3 : decode cX4_readSum 3 = .ok (.invokevirtual 72, 3) := by decide +kernel
theorem dX4_readSum_6 : decode cX4_readSum 6 = .ok (.iconst 0, 1) := by decide +kernel
theorem dX4_readSum_7 : decode cX4_readSum 7 = .ok (.istore_n 3, 1) := by decide +kernel
theorem dX4_readSum_8 : decode cX4_readSum 8 = .ok (.iload_n 3, 1) := by decide +kernel
theorem dX4_readSum_9 : decode cX4_readSum 9 = .ok (.sipush 160, 3) := by decide +kernel
theorem dX4_readSum_12 : decode cX4_readSum 12 = .ok (.if_icmp .ge 49, 3) := by decide +kernel
theorem dX4_readSum_15 : decode cX4_readSum 15 = .ok (.aload_n 0, 1) := by decide +kernel
theorem dX4_readSum_16 : decode cX4_readSum 16 = .ok (.getfield 22, 3) := by decide +kernel
theorem dX4_readSum_19 : decode cX4_readSum 19 = .ok (.bipush 43, 2) := by decide +kernel
theorem dX4_readSum_21 : decode cX4_readSum 21 = .ok (.if_icmp .eq 12, 3) := by decide +kernel
theorem dX4_readSum_24 : decode cX4_readSum 24 = .ok (.aload_n 0, 1) := by decide +kernel
theorem dX4_readSum_25 : decode cX4_readSum 25 = .ok (.getfield 22, 3) := by decide +kernel
theorem dX4_readSum_28 : decode cX4_readSum 28 = .ok (.bipush 45, 2) := by decide +kernel
theorem dX4_readSum_30 : decode cX4_readSum 30 = .ok (.if_icmp .ne 31, 3) := by decide +kernel
theorem dX4_readSum_33 : decode cX4_readSum 33 = .ok (.aload_n 0, 1) := by decide +kernel
theorem dX4_readSum_34 : decode cX4_readSum 34 = .ok (.getfield 22, 3) := by decide +kernel
theorem dX4_readSum_37 : decode cX4_readSum 37 = .ok (.istore 4, 2) := by decide +kernel
theorem dX4_readSum_39 : decode cX4_readSum 39 = .ok (.aload_n 0, 1) := by decide +kernel
theorem dX4_readSum_40 : decode cX4_readSum 40 = .ok (.invokevirtual 36, 3) := by decide +kernel
theorem dX4_readSum_43 : decode cX4_readSum 43 = .ok (.aload_n 0, 1) := by decide +kernel
theorem dX4_readSum_44 : decode cX4_readSum 44 = .ok (.aload_n 1, 1) := by decide +kernel
theorem dX4_readSum_45 : decode cX4_readSum 45 = .ok (.iload_n 2, 1) := by decide +kernel
theorem dX4_readSum_46 : decode cX4_readSum 46 = .ok (.invokevirtual 72, 3) := by decide +kernel
theorem dX4_readSum_49 : decode cX4_readSum 49 = .ok (.aload_n 1, 1) := by decide +kernel
theorem dX4_readSum_50 : decode cX4_readSum 50 = .ok (.iload 4, 2) := by decide +kernel
theorem dX4_readSum_52 : decode cX4_readSum 52 = .ok (.invokevirtual 59, 3) := by decide +kernel
theorem dX4_readSum_55 : decode cX4_readSum 55 = .ok (.iinc 3 1, 3) := by decide +kernel
theorem dX4_readSum_58 : decode cX4_readSum 58 = .ok (.goto (-50), 3) := by decide +kernel
theorem dX4_readSum_61 : decode cX4_readSum 61 = .ok (.return_, 1) := by decide +kernel
theorem dX4_readTerm_0 : decode cX4_readTerm 0 = .ok (.aload_n 0, 1) := by decide +kernel
theorem dX4_readTerm_1 : decode cX4_readTerm 1 = .ok (.aload_n 1, 1) := by decide +kernel
theorem dX4_readTerm_2 : decode cX4_readTerm 2 = .ok (.iload_n 2, 1) := by decide +kernel
theorem dX4_readTerm_3 : decode cX4_readTerm 3 = .ok (.invokevirtual 75, 3) := by decide +kernel
theorem dX4_readTerm_6 : decode cX4_readTerm 6 = .ok (.iconst 0, 1) := by decide +kernel
theorem dX4_readTerm_7 : decode cX4_readTerm 7 = .ok (.istore_n 3, 1) := by decide +kernel
theorem dX4_readTerm_8 : decode cX4_readTerm 8 = .ok (.iload_n 3, 1) := by decide +kernel
theorem dX4_readTerm_9 : decode cX4_readTerm 9 = .ok (.sipush 160, 3) := by decide +kernel
theorem dX4_readTerm_12 : decode cX4_readTerm 12 = .ok (.if_icmp .ge 34, 3) := by decide +kernel
theorem dX4_readTerm_15 : decode cX4_readTerm 15 = .ok (.aload_n 0, 1) := by decide +kernel
theorem dX4_readTerm_16 : decode cX4_readTerm 16 = .ok (.getfield 22, 3) := by decide +kernel
theorem dX4_readTerm_19 : decode cX4_readTerm 19 = .ok (.bipush 42, 2) := by decide +kernel
theorem dX4_readTerm_21 : decode cX4_readTerm 21 = .ok (.if_icmp .ne 25, 3) := by decide +kernel
theorem dX4_readTerm_24 : decode cX4_readTerm 24 = .ok (.aload_n 0, 1) := by decide +kernel
theorem dX4_readTerm_25 : decode cX4_readTerm 25 = .ok (.invokevirtual 36, 3) := by decide +kernel
theorem dX4_readTerm_28 : decode cX4_readTerm 28 = .ok (.aload_n 0, 1) := by decide +kernel
theorem dX4_readTerm_29 : decode cX4_readTerm 29 = .ok (.aload_n 1, 1) := by decide +kernel
theorem dX4_readTerm_30 : decode cX4_readTerm 30 = .ok (.iload_n 2, 1) := by decide +kernel
theorem dX4_readTerm_31 : decode cX4_readTerm 31 = .ok (.invokevirtual 75, 3) := by decide +kernel
theorem dX4_readTerm_34 : decode cX4_readTerm 34 = .ok (.aload_n 1, 1) := by decide +kernel
theorem dX4_readTerm_35 : decode cX4_readTerm 35 = .ok (.bipush 42, 2) := by decide +kernel
theorem dX4_readTerm_37 : decode cX4_readTerm 37 = .ok (.invokevirtual 59, 3) := by decide +kernel
theorem dX4_readTerm_40 : decode cX4_readTerm 40 = .ok (.iinc 3 1, 3) := by decide +kernel
theorem dX4_readTerm_43 : decode cX4_readTerm 43 = .ok (.goto (-35), 3) := by decide +kernel
theorem dX4_readTerm_46 : decode cX4_readTerm 46 = .ok (.return_, 1) := by decide +kernel
theorem dX4_readOne_0 : decode cX4_readOne 0 = .ok (.aload_n 0, 1) := by decide +kernel
theorem dX4_readOne_1 : decode cX4_readOne 1 = .ok (.getfield 22, 3) := by decide +kernel
theorem dX4_readOne_4 : decode cX4_readOne 4 = .ok (.sipush 300, 3) := by decide +kernel
theorem dX4_readOne_7 : decode cX4_readOne 7 = .ok (.if_icmp .lt 18, 3) := by decide +kernel
theorem dX4_readOne_10 : decode cX4_readOne 10 = .ok (.aload_n 1, 1) := by decide +kernel
theorem dX4_readOne_11 : decode cX4_readOne 11 = .ok (.aload_n 0, 1) := by decide +kernel
theorem dX4_readOne_12 : decode cX4_readOne 12 = .ok (.getfield 22, 3) := by decide +kernel
theorem dX4_readOne_15 : decode cX4_readOne 15 = .ok (.invokevirtual 59, 3) := by decide +kernel
theorem dX4_readOne_18 : decode cX4_readOne 18 = .ok (.aload_n 0, 1) := by decide +kernel
theorem dX4_readOne_19 : decode cX4_readOne 19 = .ok (.invokevirtual 36, 3) := by decide +kernel
theorem dX4_readOne_22 : decode cX4_readOne 22 = .ok (.goto 86, 3) := by decide +kernel
theorem dX4_readOne_25 : decode cX4_readOne 25 = .ok (.aload_n 0, 1) := by decide +kernel
theorem dX4_readOne_26 : decode cX4_readOne 26 = .ok (.getfield 22, 3) := by decide +kernel
theorem dX4_readOne_29 : decode cX4_readOne 29 = .ok (.bipush 45, 2) := by decide +kernel
theorem dX4_readOne_31 : decode cX4_readOne 31 = .ok (.if_icmp .ne 34, 3) := by decide +kernel
theorem dX4_readOne_34 : decode cX4_readOne 34 = .ok (.aload_n 0, 1) := by decide +kernel
theorem dX4_readOne_35 : decode cX4_readOne 35 = .ok (.iload_n 2, 1) := by decide +kernel
theorem dX4_readOne_36 : decode cX4_readOne 36 = .ok (.invokevirtual 65, 3) := by decide +kernel
theorem dX4_readOne_39 : decode cX4_readOne 39 = .ok (.ifCond .ne 4, 3) := by decide +kernel
theorem dX4_readOne_42 : decode cX4_readOne 42 = .ok (.return_, 1) := by decide +kernel
theorem dX4_readOne_43 : decode cX4_readOne 43 = .ok (.aload_n 0, 1) := by decide +kernel
theorem dX4_readOne_44 : decode cX4_readOne 44 = .ok (.invokevirtual 36, 3) := by decide +kernel
theorem dX4_readOne_47 : decode cX4_readOne 47 = .ok (.aload_n 0, 1) := by decide +kernel
theorem dX4_readOne_48 : decode cX4_readOne 48 = .ok (.aload_n 1, 1) := by decide +kernel
theorem dX4_readOne_49 : decode cX4_readOne 49 = .ok (.iload_n 2, 1) := by decide +kernel
theorem dX4_readOne_50 : decode cX4_readOne 50 = .ok (.iconst 1, 1) := by decide +kernel
theorem dX4_readOne_51 : decode cX4_readOne 51 = .ok (.iadd, 1) := by decide +kernel
theorem dX4_readOne_52 : decode cX4_readOne 52 = .ok (.invokevirtual 75, 3) := by decide +kernel
theorem dX4_readOne_55 : decode cX4_readOne 55 = .ok (.aload_n 1, 1) := by decide +kernel
theorem dX4_readOne_56 : decode cX4_readOne 56 = .ok (.sipush 259, 3) := by decide +kernel
theorem dX4_readOne_59 : decode cX4_readOne 59 = .ok (.invokevirtual 59, 3) := by decide +kernel
theorem dX4_readOne_62 : decode cX4_readOne 62 = .ok (.goto 46, 3) := by decide +kernel
theorem dX4_readOne_65 : decode cX4_readOne 65 = .ok (.aload_n 0, 1) := by decide +kernel
theorem dX4_readOne_66 : decode cX4_readOne 66 = .ok (.getfield 22, 3) := by decide +kernel
theorem dX4_readOne_69 : decode cX4_readOne 69 = .ok (.bipush 40, 2) := by decide +kernel
theorem dX4_readOne_71 : decode cX4_readOne 71 = .ok (.if_icmp .ne 33, 3) := by decide +kernel
theorem dX4_readOne_74 : decode cX4_readOne 74 = .ok (.aload_n 0, 1) := by decide +kernel
theorem dX4_readOne_75 : decode cX4_readOne 75 = .ok (.iload_n 2, 1) := by decide +kernel
theorem dX4_readOne_76 : decode cX4_readOne 76 = .ok (.invokevirtual 65, 3) := by decide +kernel
theorem dX4_readOne_79 : decode cX4_readOne 79 = .ok (.ifCond .ne 4, 3) := by decide +kernel
theorem dX4_readOne_82 : decode cX4_readOne 82 = .ok (.return_, 1) := by decide +kernel
theorem dX4_readOne_83 : decode cX4_readOne 83 = .ok (.aload_n 0, 1) := by decide +kernel
theorem dX4_readOne_84 : decode cX4_readOne 84 = .ok (.invokevirtual 36, 3) := by decide +kernel
theorem dX4_readOne_87 : decode cX4_readOne 87 = .ok (.aload_n 0, 1) := by decide +kernel
theorem dX4_readOne_88 : decode cX4_readOne 88 = .ok (.aload_n 1, 1) := by decide +kernel
theorem dX4_readOne_89 : decode cX4_readOne 89 = .ok (.iload_n 2, 1) := by decide +kernel
theorem dX4_readOne_90 : decode cX4_readOne 90 = .ok (.iconst 1, 1) := by decide +kernel
theorem dX4_readOne_91 : decode cX4_readOne 91 = .ok (.iadd, 1) := by decide +kernel
theorem dX4_readOne_92 : decode cX4_readOne 92 = .ok (.invokevirtual 46, 3) := by decide +kernel
theorem dX4_readOne_95 : decode cX4_readOne 95 = .ok (.aload_n 0, 1) := by decide +kernel
theorem dX4_readOne_96 : decode cX4_readOne 96 = .ok (.bipush 41, 2) := by decide +kernel
theorem dX4_readOne_98 : decode cX4_readOne 98 = .ok (.invokevirtual 39, 3) := by decide +kernel
theorem dX4_readOne_101 : decode cX4_readOne 101 = .ok (.goto 7, 3) := by decide +kernel
theorem dX4_readOne_104 : decode cX4_readOne 104 = .ok (.aload_n 0, 1) := by decide +kernel
theorem dX4_readOne_105 : decode cX4_readOne 105 = .ok (.invokevirtual 53, 3) := by decide +kernel
theorem dX4_readOne_108 : decode cX4_readOne 108 = .ok (.return_, 1) := by decide +kernel
theorem dX4_mayOpen_0 : decode cX4_mayOpen 0 = .ok (.iload_n 1, 1) := by decide +kernel
theorem dX4_mayOpen_1 : decode cX4_mayOpen 1 = .ok (.iconst 5, 1) := by decide +kernel
theorem dX4_mayOpen_2 : decode cX4_mayOpen 2 = .ok (.if_icmp .ge 5, 3) := by decide +kernel
theorem dX4_mayOpen_5 : decode cX4_mayOpen 5 = .ok (.iconst 1, 1) := by decide +kernel
theorem dX4_mayOpen_6 : decode cX4_mayOpen 6 = .ok (.ireturn, 1) := by decide +kernel
theorem dX4_mayOpen_7 : decode cX4_mayOpen 7 = .ok (.aload_n 0, 1) := by decide +kernel
theorem dX4_mayOpen_8 : decode cX4_mayOpen 8 = .ok (.invokevirtual 53, 3) := by decide +kernel
theorem dX4_mayOpen_11 : decode cX4_mayOpen 11 = .ok (.iconst 0, 1) := by decide +kernel
theorem dX4_mayOpen_12 : decode cX4_mayOpen 12 = .ok (.ireturn, 1) := by decide +kernel
theorem dX4_next_0 : decode cX4_next 0 = .ok (.aload_n 0, 1) := by decide +kernel
theorem dX4_next_1 : decode cX4_next 1 = .ok (.getfield 19, 3) := by decide +kernel
theorem dX4_next_4 : decode cX4_next 4 = .ok (.aload_n 0, 1) := by decide +kernel
theorem dX4_next_5 : decode cX4_next 5 = .ok (.getfield 15, 3) := by decide +kernel
theorem dX4_next_8 : decode cX4_next 8 = .ok (.if_icmp .ge 44, 3) := by decide +kernel
theorem dX4_next_11 : decode cX4_next 11 = .ok (.aload_n 0, 1) := by decide +kernel
theorem dX4_next_12 : decode cX4_next 12 = .ok (.getfield 9, 3) := by decide +kernel
theorem dX4_next_15 : decode cX4_next 15 = .ok (.aload_n 0, 1) := by decide +kernel
theorem dX4_next_16 : decode cX4_next 16 = .ok (.getfield 19, 3) := by decide +kernel
theorem dX4_next_19 : decode cX4_next 19 = .ok (.iaload, 1) := by decide +kernel
theorem dX4_next_20 : decode cX4_next 20 = .ok (.bipush 32, 2) := by decide +kernel
theorem dX4_next_22 : decode cX4_next 22 = .ok (.if_icmp .eq 17, 3) := by decide +kernel
theorem dX4_next_25 : decode cX4_next 25 = .ok (.aload_n 0, 1) := by decide +kernel
theorem dX4_next_26 : decode cX4_next 26 = .ok (.getfield 9, 3) := by decide +kernel
theorem dX4_next_29 : decode cX4_next 29 = .ok (.aload_n 0, 1) := by decide +kernel
theorem dX4_next_30 : decode cX4_next 30 = .ok (.getfield 19, 3) := by decide +kernel
theorem dX4_next_33 : decode cX4_next 33 = .ok (.iaload, 1) := by decide +kernel
theorem dX4_next_34 : decode cX4_next 34 = .ok (.bipush 10, 2) := by decide +kernel
theorem dX4_next_36 : decode cX4_next 36 = .ok (.if_icmp .ne 16, 3) := by decide +kernel
theorem dX4_next_39 : decode cX4_next 39 = .ok (.aload_n 0, 1) := by decide +kernel
theorem dX4_next_40 : decode cX4_next 40 = .ok (.dup, 1) := by decide +kernel
theorem dX4_next_41 : decode cX4_next 41 = .ok (.getfield 19, 3) := by decide +kernel
theorem dX4_next_44 : decode cX4_next 44 = .ok (.iconst 1, 1) := by decide +kernel
theorem dX4_next_45 : decode cX4_next 45 = .ok (.iadd, 1) := by decide +kernel
theorem dX4_next_46 : decode cX4_next 46 = .ok (.putfield 19, 3) := by decide +kernel
theorem dX4_next_49 : decode cX4_next 49 = .ok (.goto (-49), 3) := by decide +kernel
theorem dX4_next_52 : decode cX4_next 52 = .ok (.aload_n 0, 1) := by decide +kernel
theorem dX4_next_53 : decode cX4_next 53 = .ok (.aload_n 0, 1) := by decide +kernel
theorem dX4_next_54 : decode cX4_next 54 = .ok (.getfield 19, 3) := by decide +kernel
theorem dX4_next_57 : decode cX4_next 57 = .ok (.putfield 25, 3) := by decide +kernel
theorem dX4_next_60 : decode cX4_next 60 = .ok (.aload_n 0, 1) := by decide +kernel
theorem dX4_next_61 : decode cX4_next 61 = .ok (.getfield 19, 3) := by decide +kernel
theorem dX4_next_64 : decode cX4_next 64 = .ok (.aload_n 0, 1) := by decide +kernel
theorem dX4_next_65 : decode cX4_next 65 = .ok (.getfield 15, 3) := by decide +kernel
theorem dX4_next_68 : decode cX4_next 68 = .ok (.if_icmp .lt 11, 3) := by decide +kernel
theorem dX4_next_71 : decode cX4_next 71 = .ok (.aload_n 0, 1) := by decide +kernel
theorem dX4_next_72 : decode cX4_next 72 = .ok (.iconst 1, 1) := by decide +kernel
theorem dX4_next_73 : decode cX4_next 73 = .ok (.putfield 22, 3) := by decide +kernel
theorem dX4_next_76 : decode cX4_next 76 = .ok (.goto 159, 3) := by decide +kernel
theorem dX4_next_79 : decode cX4_next 79 = .ok (.aload_n 0, 1) := by decide +kernel
theorem dX4_next_80 : decode cX4_next 80 = .ok (.getfield 9, 3) := by decide +kernel
theorem dX4_next_83 : decode cX4_next 83 = .ok (.aload_n 0, 1) := by decide +kernel
theorem dX4_next_84 : decode cX4_next 84 = .ok (.getfield 19, 3) := by decide +kernel
theorem dX4_next_87 : decode cX4_next 87 = .ok (.iaload, 1) := by decide +kernel
theorem dX4_next_88 : decode cX4_next 88 = .ok (.invokestatic 78, 3) := by decide +kernel
theorem dX4_next_91 : decode cX4_next 91 = .ok (.ifCond .eq 53, 3) := by decide +kernel
theorem dX4_next_94 : decode cX4_next 94 = .ok (.aload_n 0, 1) := by decide +kernel
theorem dX4_next_95 : decode cX4_next 95 = .ok (.getfield 19, 3) := by decide +kernel
theorem dX4_next_98 : decode cX4_next 98 = .ok (.aload_n 0, 1) := by decide +kernel
theorem dX4_next_99 : decode cX4_next 99 = .ok (.getfield 15, 3) := by decide +kernel
theorem dX4_next_102 : decode cX4_next 102 = .ok (.if_icmp .ge 31, 3) := by decide +kernel
theorem dX4_next_105 : decode cX4_next 105 = .ok (.aload_n 0, 1) := by decide +kernel
theorem dX4_next_106 : decode cX4_next 106 = .ok (.getfield 9, 3) := by decide +kernel
theorem dX4_next_109 : decode cX4_next 109 = .ok (.aload_n 0, 1) := by decide +kernel
theorem dX4_next_110 : decode cX4_next 110 = .ok (.getfield 19, 3) := by decide +kernel
theorem dX4_next_113 : decode cX4_next 113 = .ok (.iaload, 1) := by decide +kernel
theorem dX4_next_114 : decode cX4_next 114 = .ok (.invokestatic 78, 3) := by decide +kernel
theorem dX4_next_117 : decode cX4_next 117 = .ok (.ifCond .eq 16, 3) := by decide +kernel
theorem dX4_next_120 : decode cX4_next 120 = .ok (.aload_n 0, 1) := by decide +kernel
theorem dX4_next_121 : decode cX4_next 121 = .ok (.dup, 1) := by decide +kernel
theorem dX4_next_122 : decode cX4_next 122 = .ok (.getfield 19, 3) := by decide +kernel
theorem dX4_next_125 : decode cX4_next 125 = .ok (.iconst 1, 1) := by decide +kernel
theorem dX4_next_126 : decode cX4_next 126 = .ok (.iadd, 1) := by decide +kernel
theorem dX4_next_127 : decode cX4_next 127 = .ok (.putfield 19, 3) := by decide +kernel
theorem dX4_next_130 : decode cX4_next 130 = .ok (.goto (-36), 3) := by decide +kernel
theorem dX4_next_133 : decode cX4_next 133 = .ok (.aload_n 0, 1) := by decide +kernel
theorem dX4_next_134 : decode cX4_next 134 = .ok (.aload_n 0, 1) := by decide +kernel
theorem dX4_next_135 : decode cX4_next 135 = .ok (.invokevirtual 81, 3) := by decide +kernel
theorem dX4_next_138 : decode cX4_next 138 = .ok (.putfield 22, 3) := by decide +kernel
theorem dX4_next_141 : decode cX4_next 141 = .ok (.goto 94, 3) := by decide +kernel
theorem dX4_next_144 : decode cX4_next 144 = .ok (.aload_n 0, 1) := by decide +kernel
theorem dX4_next_145 : decode cX4_next 145 = .ok (.getfield 9, 3) := by decide +kernel
theorem dX4_next_148 : decode cX4_next 148 = .ok (.aload_n 0, 1) := by decide +kernel
theorem dX4_next_149 : decode cX4_next 149 = .ok (.getfield 19, 3) := by decide +kernel
theorem dX4_next_152 : decode cX4_next 152 = .ok (.iaload, 1) := by decide +kernel
theorem dX4_next_153 : decode cX4_next 153 = .ok (.invokestatic 85, 3) := by decide +kernel
theorem dX4_next_156 : decode cX4_next 156 = .ok (.ifCond .eq 53, 3) := by decide +kernel
theorem dX4_next_159 : decode cX4_next 159 = .ok (.aload_n 0, 1) := by decide +kernel
theorem dX4_next_160 : decode cX4_next 160 = .ok (.getfield 19, 3) := by decide +kernel
theorem dX4_next_163 : decode cX4_next 163 = .ok (.aload_n 0, 1) := by decide +kernel
theorem dX4_next_164 : decode cX4_next 164 = .ok (.getfield 15, 3) := by decide +kernel
theorem dX4_next_167 : decode cX4_next 167 = .ok (.if_icmp .ge 31, 3) := by decide +kernel
theorem dX4_next_170 : decode cX4_next 170 = .ok (.aload_n 0, 1) := by decide +kernel
theorem dX4_next_171 : decode cX4_next 171 = .ok (.getfield 9, 3) := by decide +kernel
theorem dX4_next_174 : decode cX4_next 174 = .ok (.aload_n 0, 1) := by decide +kernel
theorem dX4_next_175 : decode cX4_next 175 = .ok (.getfield 19, 3) := by decide +kernel
theorem dX4_next_178 : decode cX4_next 178 = .ok (.iaload, 1) := by decide +kernel
theorem dX4_next_179 : decode cX4_next 179 = .ok (.invokestatic 85, 3) := by decide +kernel
theorem dX4_next_182 : decode cX4_next 182 = .ok (.ifCond .eq 16, 3) := by decide +kernel
theorem dX4_next_185 : decode cX4_next 185 = .ok (.aload_n 0, 1) := by decide +kernel
theorem dX4_next_186 : decode cX4_next 186 = .ok (.dup, 1) := by decide +kernel
theorem dX4_next_187 : decode cX4_next 187 = .ok (.getfield 19, 3) := by decide +kernel
theorem dX4_next_190 : decode cX4_next 190 = .ok (.iconst 1, 1) := by decide +kernel
theorem dX4_next_191 : decode cX4_next 191 = .ok (.iadd, 1) := by decide +kernel
theorem dX4_next_192 : decode cX4_next 192 = .ok (.putfield 19, 3) := by decide +kernel
theorem dX4_next_195 : decode cX4_next 195 = .ok (.goto (-36), 3) := by decide +kernel
theorem dX4_next_198 : decode cX4_next 198 = .ok (.aload_n 0, 1) := by decide +kernel
theorem dX4_next_199 : decode cX4_next 199 = .ok (.aload_n 0, 1) := by decide +kernel
theorem dX4_next_200 : decode cX4_next 200 = .ok (.invokevirtual 88, 3) := by decide +kernel
theorem dX4_next_203 : decode cX4_next 203 = .ok (.putfield 22, 3) := by decide +kernel
theorem dX4_next_206 : decode cX4_next 206 = .ok (.goto 29, 3) := by decide +kernel
theorem dX4_next_209 : decode cX4_next 209 = .ok (.aload_n 0, 1) := by decide +kernel
theorem dX4_next_210 : decode cX4_next 210 = .ok (.aload_n 0, 1) := by decide +kernel
theorem dX4_next_211 : decode cX4_next 211 = .ok (.getfield 9, 3) := by decide +kernel
theorem dX4_next_214 : decode cX4_next 214 = .ok (.aload_n 0, 1) := by decide +kernel
theorem dX4_next_215 : decode cX4_next 215 = .ok (.getfield 19, 3) := by decide +kernel
theorem dX4_next_218 : decode cX4_next 218 = .ok (.iaload, 1) := by decide +kernel
theorem dX4_next_219 : decode cX4_next 219 = .ok (.invokestatic 91, 3) := by decide +kernel
theorem dX4_next_222 : decode cX4_next 222 = .ok (.putfield 22, 3) := by decide +kernel
theorem dX4_next_225 : decode cX4_next 225 = .ok (.aload_n 0, 1) := by decide +kernel
theorem dX4_next_226 : decode cX4_next 226 = .ok (.dup, 1) := by decide +kernel
theorem dX4_next_227 : decode cX4_next 227 = .ok (.getfield 19, 3) := by decide +kernel
theorem dX4_next_230 : decode cX4_next 230 = .ok (.iconst 1, 1) := by decide +kernel
theorem dX4_next_231 : decode cX4_next 231 = .ok (.iadd, 1) := by decide +kernel
theorem dX4_next_232 : decode cX4_next 232 = .ok (.putfield 19, 3) := by decide +kernel
theorem dX4_next_235 : decode cX4_next 235 = .ok (.return_, 1) := by decide +kernel
theorem dX4_isLetter_0 : decode cX4_isLetter 0 = .ok (.iload_n 0, 1) := by decide +kernel
theorem dX4_isLetter_1 : decode cX4_isLetter 1 = .ok (.bipush 97, 2) := by decide +kernel
theorem dX4_isLetter_3 : decode cX4_isLetter 3 = .ok (.bipush 122, 2) := by decide +kernel
theorem dX4_isLetter_5 : decode cX4_isLetter 5 = .ok (.invokestatic 95, 3) := by decide +kernel
theorem dX4_isLetter_8 : decode cX4_isLetter 8 = .ok (.ireturn, 1) := by decide +kernel
theorem dX4_isDigit_0 : decode cX4_isDigit 0 = .ok (.iload_n 0, 1) := by decide +kernel
theorem dX4_isDigit_1 : decode cX4_isDigit 1 = .ok (.bipush 48, 2) := by decide +kernel
theorem dX4_isDigit_3 : decode cX4_isDigit 3 = .ok (.bipush 57, 2) := by decide +kernel
theorem dX4_isDigit_5 : decode cX4_isDigit 5 = .ok (.invokestatic 95, 3) := by decide +kernel
theorem dX4_isDigit_8 : decode cX4_isDigit 8 = .ok (.ireturn, 1) := by decide +kernel
theorem dX4_signToken_0 : decode cX4_signToken 0 = .ok (.iload_n 0, 1) := by decide +kernel
theorem dX4_signToken_1 : decode cX4_signToken 1 = .ok (.tableswitch 105 40 61 #[103, 103, 103, 103, 105, 103, 105, 105, 105, 105, 105, 105, 105, 105, 105, 105, 105, 105, 105, 103, 103, 103], 103) := by decide +kernel
theorem dX4_signToken_104 : decode cX4_signToken 104 = .ok (.iload_n 0, 1) := by decide +kernel
theorem dX4_signToken_105 : decode cX4_signToken 105 = .ok (.ireturn, 1) := by decide +kernel
theorem dX4_signToken_106 : decode cX4_signToken 106 = .ok (.iconst 0, 1) := by decide +kernel
theorem dX4_signToken_107 : decode cX4_signToken 107 = .ok (.ireturn, 1) := by decide +kernel
theorem dX4_numberToken_0 : decode cX4_numberToken 0 = .ok (.aload_n 0, 1) := by decide +kernel
theorem dX4_numberToken_1 : decode cX4_numberToken 1 = .ok (.getfield 19, 3) := by decide +kernel
theorem dX4_numberToken_4 : decode cX4_numberToken 4 = .ok (.aload_n 0, 1) := by decide +kernel
theorem dX4_numberToken_5 : decode cX4_numberToken 5 = .ok (.getfield 25, 3) := by decide +kernel
theorem dX4_numberToken_8 : decode cX4_numberToken 8 = .ok (.isub, 1) := by decide +kernel
theorem dX4_numberToken_9 : decode cX4_numberToken 9 = .ok (.iconst 4, 1) := by decide +kernel
theorem dX4_numberToken_10 : decode cX4_numberToken 10 = .ok (.if_icmp .le 5, 3) := by decide +kernel
theorem dX4_numberToken_13 : decode cX4_numberToken 13 = .ok (.iconst 0, 1) := by decide +kernel
theorem dX4_numberToken_14 : decode cX4_numberToken 14 = .ok (.ireturn, 1) := by decide +kernel
theorem dX4_numberToken_15 : decode cX4_numberToken 15 = .ok (.iconst 0, 1) := by decide +kernel
theorem dX4_numberToken_16 : decode cX4_numberToken 16 = .ok (.istore_n 1, 1) := by decide +kernel
theorem dX4_numberToken_17 : decode cX4_numberToken 17 = .ok (.aload_n 0, 1) := by decide +kernel
theorem dX4_numberToken_18 : decode cX4_numberToken 18 = .ok (.getfield 25, 3) := by decide +kernel
theorem dX4_numberToken_21 : decode cX4_numberToken 21 = .ok (.istore_n 2, 1) := by decide +kernel
theorem dX4_numberToken_22 : decode cX4_numberToken 22 = .ok (.iload_n 2, 1) := by decide +kernel
theorem dX4_numberToken_23 : decode cX4_numberToken 23 = .ok (.aload_n 0, 1) := by decide +kernel
theorem dX4_numberToken_24 : decode cX4_numberToken 24 = .ok (.getfield 19, 3) := by decide +kernel
theorem dX4_numberToken_27 : decode cX4_numberToken 27 = .ok (.if_icmp .ge 24, 3) := by decide +kernel
theorem dX4_numberToken_30 : decode cX4_numberToken 30 = .ok (.bipush 10, 2) := by decide +kernel
theorem dX4_numberToken_32 : decode cX4_numberToken 32 = .ok (.iload_n 1, 1) := by decide +kernel
theorem dX4_numberToken_33 : decode cX4_numberToken 33 = .ok (.imul, 1) := by decide +kernel
theorem dX4_numberToken_34 : decode cX4_numberToken 34 = .ok (.aload_n 0, 1) := by decide +kernel
theorem dX4_numberToken_35 : decode cX4_numberToken 35 = .ok (.getfield 9, 3) := by decide +kernel
theorem dX4_numberToken_38 : decode cX4_numberToken 38 = .ok (.iload_n 2, 1) := by decide +kernel
theorem dX4_numberToken_39 : decode cX4_numberToken 39 = .ok (.iaload, 1) := by decide +kernel
theorem dX4_numberToken_40 : decode cX4_numberToken 40 = .ok (.iadd, 1) := by decide +kernel
theorem dX4_numberToken_41 : decode cX4_numberToken 41 = .ok (.bipush 48, 2) := by decide +kernel
theorem dX4_numberToken_43 : decode cX4_numberToken 43 = .ok (.isub, 1) := by decide +kernel
theorem dX4_numberToken_44 : decode cX4_numberToken 44 = .ok (.istore_n 1, 1) := by decide +kernel
theorem dX4_numberToken_45 : decode cX4_numberToken 45 = .ok (.iinc 2 1, 3) := by decide +kernel
theorem dX4_numberToken_48 : decode cX4_numberToken 48 = .ok (.goto (-26), 3) := by decide +kernel
theorem dX4_numberToken_51 : decode cX4_numberToken 51 = .ok (.sipush 1000, 3) := by decide +kernel
theorem dX4_numberToken_54 : decode cX4_numberToken 54 = .ok (.iload_n 1, 1) := by decide +kernel
theorem dX4_numberToken_55 : decode cX4_numberToken 55 = .ok (.iadd, 1) := by decide +kernel
theorem dX4_numberToken_56 : decode cX4_numberToken 56 = .ok (.ireturn, 1) := by decide +kernel
theorem dX4_wordToken_0 : decode cX4_wordToken 0 = .ok (.aload_n 0, 1) := by decide +kernel
theorem dX4_wordToken_1 : decode cX4_wordToken 1 = .ok (.ldc 99, 2) := by decide +kernel
theorem dX4_wordToken_3 : decode cX4_wordToken 3 = .ok (.invokevirtual 101, 3) := by decide +kernel
theorem dX4_wordToken_6 : decode cX4_wordToken 6 = .ok (.ifCond .eq 7, 3) := by decide +kernel
theorem dX4_wordToken_9 : decode cX4_wordToken 9 = .ok (.sipush 300, 3) := by decide +kernel
theorem dX4_wordToken_12 : decode cX4_wordToken 12 = .ok (.ireturn, 1) := by decide +kernel
theorem dX4_wordToken_13 : decode cX4_wordToken 13 = .ok (.aload_n 0, 1) := by decide +kernel
theorem dX4_wordToken_14 : decode cX4_wordToken 14 = .ok (.ldc 105, 2) := by decide +kernel
theorem dX4_wordToken_16 : decode cX4_wordToken 16 = .ok (.invokevirtual 101, 3) := by decide +kernel
theorem dX4_wordToken_19 : decode cX4_wordToken 19 = .ok (.ifCond .eq 7, 3) := by decide +kernel
theorem dX4_wordToken_22 : decode cX4_wordToken 22 = .ok (.sipush 301, 3) := by decide +kernel
theorem dX4_wordToken_25 : decode cX4_wordToken 25 = .ok (.ireturn, 1) := by decide +kernel
theorem dX4_wordToken_26 : decode cX4_wordToken 26 = .ok (.aload_n 0, 1) := by decide +kernel
theorem dX4_wordToken_27 : decode cX4_wordToken 27 = .ok (.ldc 107, 2) := by decide +kernel
theorem dX4_wordToken_29 : decode cX4_wordToken 29 = .ok (.invokevirtual 101, 3) := by decide +kernel
theorem dX4_wordToken_32 : decode cX4_wordToken 32 = .ok (.ifCond .eq 7, 3) := by decide +kernel
theorem dX4_wordToken_35 : decode cX4_wordToken 35 = .ok (.sipush 302, 3) := by decide +kernel
theorem dX4_wordToken_38 : decode cX4_wordToken 38 = .ok (.ireturn, 1) := by decide +kernel
theorem dX4_wordToken_39 : decode cX4_wordToken 39 = .ok (.aload_n 0, 1) := by decide +kernel
theorem dX4_wordToken_40 : decode cX4_wordToken 40 = .ok (.ldc 109, 2) := by decide +kernel
theorem dX4_wordToken_42 : decode cX4_wordToken 42 = .ok (.invokevirtual 101, 3) := by decide +kernel
theorem dX4_wordToken_45 : decode cX4_wordToken 45 = .ok (.ifCond .eq 7, 3) := by decide +kernel
theorem dX4_wordToken_48 : decode cX4_wordToken 48 = .ok (.sipush 303, 3) := by decide +kernel
theorem dX4_wordToken_51 : decode cX4_wordToken 51 = .ok (.ireturn, 1) := by decide +kernel
theorem dX4_wordToken_52 : decode cX4_wordToken 52 = .ok (.aload_n 0, 1) := by decide +kernel
theorem dX4_wordToken_53 : decode cX4_wordToken 53 = .ok (.ldc 111, 2) := by decide +kernel
theorem dX4_wordToken_55 : decode cX4_wordToken 55 = .ok (.invokevirtual 101, 3) := by decide +kernel
theorem dX4_wordToken_58 : decode cX4_wordToken 58 = .ok (.ifCond .eq 7, 3) := by decide +kernel
theorem dX4_wordToken_61 : decode cX4_wordToken 61 = .ok (.sipush 304, 3) := by decide +kernel
theorem dX4_wordToken_64 : decode cX4_wordToken 64 = .ok (.ireturn, 1) := by decide +kernel
theorem dX4_wordToken_65 : decode cX4_wordToken 65 = .ok (.aload_n 0, 1) := by decide +kernel
theorem dX4_wordToken_66 : decode cX4_wordToken 66 = .ok (.ldc 113, 2) := by decide +kernel
theorem dX4_wordToken_68 : decode cX4_wordToken 68 = .ok (.invokevirtual 101, 3) := by decide +kernel
theorem dX4_wordToken_71 : decode cX4_wordToken 71 = .ok (.ifCond .eq 7, 3) := by decide +kernel
theorem dX4_wordToken_74 : decode cX4_wordToken 74 = .ok (.sipush 305, 3) := by decide +kernel
theorem dX4_wordToken_77 : decode cX4_wordToken 77 = .ok (.ireturn, 1) := by decide +kernel
theorem dX4_wordToken_78 : decode cX4_wordToken 78 = .ok (.aload_n 0, 1) := by decide +kernel
theorem dX4_wordToken_79 : decode cX4_wordToken 79 = .ok (.ldc 115, 2) := by decide +kernel
theorem dX4_wordToken_81 : decode cX4_wordToken 81 = .ok (.invokevirtual 101, 3) := by decide +kernel
theorem dX4_wordToken_84 : decode cX4_wordToken 84 = .ok (.ifCond .eq 7, 3) := by decide +kernel
theorem dX4_wordToken_87 : decode cX4_wordToken 87 = .ok (.sipush 270, 3) := by decide +kernel
theorem dX4_wordToken_90 : decode cX4_wordToken 90 = .ok (.ireturn, 1) := by decide +kernel
theorem dX4_wordToken_91 : decode cX4_wordToken 91 = .ok (.aload_n 0, 1) := by decide +kernel
theorem dX4_wordToken_92 : decode cX4_wordToken 92 = .ok (.ldc 117, 2) := by decide +kernel
theorem dX4_wordToken_94 : decode cX4_wordToken 94 = .ok (.invokevirtual 101, 3) := by decide +kernel
theorem dX4_wordToken_97 : decode cX4_wordToken 97 = .ok (.ifCond .eq 7, 3) := by decide +kernel
theorem dX4_wordToken_100 : decode cX4_wordToken 100 = .ok (.sipush 271, 3) := by decide +kernel
theorem dX4_wordToken_103 : decode cX4_wordToken 103 = .ok (.ireturn, 1) := by decide +kernel
theorem dX4_wordToken_104 : decode cX4_wordToken 104 = .ok (.aload_n 0, 1) := by decide +kernel
theorem dX4_wordToken_105 : decode cX4_wordToken 105 = .ok (.ldc 119, 2) := by decide +kernel
theorem dX4_wordToken_107 : decode cX4_wordToken 107 = .ok (.invokevirtual 101, 3) := by decide +kernel
theorem dX4_wordToken_110 : decode cX4_wordToken 110 = .ok (.ifCond .eq 7, 3) := by decide +kernel
theorem dX4_wordToken_113 : decode cX4_wordToken 113 = .ok (.sipush 272, 3) := by decide +kernel
theorem dX4_wordToken_116 : decode cX4_wordToken 116 = .ok (.ireturn, 1) := by decide +kernel
theorem dX4_wordToken_117 : decode cX4_wordToken 117 = .ok (.aload_n 0, 1) := by decide +kernel
theorem dX4_wordToken_118 : decode cX4_wordToken 118 = .ok (.ldc 121, 2) := by decide +kernel
theorem dX4_wordToken_120 : decode cX4_wordToken 120 = .ok (.invokevirtual 101, 3) := by decide +kernel
theorem dX4_wordToken_123 : decode cX4_wordToken 123 = .ok (.ifCond .eq 7, 3) := by decide +kernel
theorem dX4_wordToken_126 : decode cX4_wordToken 126 = .ok (.sipush 256, 3) := by decide +kernel
theorem dX4_wordToken_129 : decode cX4_wordToken 129 = .ok (.ireturn, 1) := by decide +kernel
theorem dX4_wordToken_130 : decode cX4_wordToken 130 = .ok (.aload_n 0, 1) := by decide +kernel
theorem dX4_wordToken_131 : decode cX4_wordToken 131 = .ok (.ldc 123, 2) := by decide +kernel
theorem dX4_wordToken_133 : decode cX4_wordToken 133 = .ok (.invokevirtual 101, 3) := by decide +kernel
theorem dX4_wordToken_136 : decode cX4_wordToken 136 = .ok (.ifCond .eq 7, 3) := by decide +kernel
theorem dX4_wordToken_139 : decode cX4_wordToken 139 = .ok (.sipush 257, 3) := by decide +kernel
theorem dX4_wordToken_142 : decode cX4_wordToken 142 = .ok (.ireturn, 1) := by decide +kernel
theorem dX4_wordToken_143 : decode cX4_wordToken 143 = .ok (.aload_n 0, 1) := by decide +kernel
theorem dX4_wordToken_144 : decode cX4_wordToken 144 = .ok (.ldc 125, 2) := by decide +kernel
theorem dX4_wordToken_146 : decode cX4_wordToken 146 = .ok (.invokevirtual 101, 3) := by decide +kernel
theorem dX4_wordToken_149 : decode cX4_wordToken 149 = .ok (.ifCond .eq 9, 3) := by decide +kernel
theorem dX4_wordToken_152 : decode cX4_wordToken 152 = .ok (.sipush 258, 3) := by decide +kernel
theorem dX4_wordToken_155 : decode cX4_wordToken 155 = .ok (.goto 4, 3) := by decide +kernel
theorem dX4_wordToken_158 : decode cX4_wordToken 158 = .ok (.iconst 0, 1) := by decide +kernel
theorem dX4_wordToken_159 : decode cX4_wordToken 159 = .ok (.ireturn, 1) := by decide +kernel
theorem dX4_spells_0 : decode cX4_spells 0 = .ok (.aload_n 0, 1) := by decide +kernel
theorem dX4_spells_1 : decode cX4_spells 1 = .ok (.getfield 19, 3) := by decide +kernel
theorem dX4_spells_4 : decode cX4_spells 4 = .ok (.aload_n 0, 1) := by decide +kernel
theorem dX4_spells_5 : decode cX4_spells 5 = .ok (.getfield 25, 3) := by decide +kernel
theorem dX4_spells_8 : decode cX4_spells 8 = .ok (.isub, 1) := by decide +kernel
theorem dX4_spells_9 : decode cX4_spells 9 = .ok (.aload_n 1, 1) := by decide +kernel
theorem dX4_spells_10 : decode cX4_spells 10 = .ok (.invokevirtual 127, 3) := by decide +kernel
theorem dX4_spells_13 : decode cX4_spells 13 = .ok (.if_icmp .eq 5, 3) := by decide +kernel
theorem dX4_spells_16 : decode cX4_spells 16 = .ok (.iconst 0, 1) := by decide +kernel
theorem dX4_spells_17 : decode cX4_spells 17 = .ok (.ireturn, 1) := by decide +kernel
theorem dX4_spells_18 : decode cX4_spells 18 = .ok (.iconst 0, 1) := by decide +kernel
theorem dX4_spells_19 : decode cX4_spells 19 = .ok (.istore_n 2, 1) := by decide +kernel
theorem dX4_spells_20 : decode cX4_spells 20 = .ok (.iload_n 2, 1) := by decide +kernel
theorem dX4_spells_21 : decode cX4_spells 21 = .ok (.aload_n 1, 1) := by decide +kernel
theorem dX4_spells_22 : decode cX4_spells 22 = .ok (.invokevirtual 127, 3) := by decide +kernel
theorem dX4_spells_25 : decode cX4_spells 25 = .ok (.if_icmp .ge 30, 3) := by decide +kernel
theorem dX4_spells_28 : decode cX4_spells 28 = .ok (.aload_n 0, 1) := by decide +kernel
theorem dX4_spells_29 : decode cX4_spells 29 = .ok (.getfield 9, 3) := by decide +kernel
theorem dX4_spells_32 : decode cX4_spells 32 = .ok (.aload_n 0, 1) := by decide +kernel
theorem dX4_spells_33 : decode cX4_spells 33 = .ok (.getfield 25, 3) := by decide +kernel
theorem dX4_spells_36 : decode cX4_spells 36 = .ok (.iload_n 2, 1) := by decide +kernel
theorem dX4_spells_37 : decode cX4_spells 37 = .ok (.iadd, 1) := by decide +kernel
theorem dX4_spells_38 : decode cX4_spells 38 = .ok (.iaload, 1) := by decide +kernel
theorem dX4_spells_39 : decode cX4_spells 39 = .ok (.aload_n 1, 1) := by decide +kernel
theorem dX4_spells_40 : decode cX4_spells 40 = .ok (.iload_n 2, 1) := by decide +kernel
theorem dX4_spells_41 : decode cX4_spells 41 = .ok (.invokevirtual 132, 3) := by decide +kernel
theorem dX4_spells_44 : decode cX4_spells 44 = .ok (.if_icmp .eq 5, 3) := by decide +kernel
theorem dX4_spells_47 : decode cX4_spells 47 = .ok (.iconst 0, 1) := by decide +kernel
theorem dX4_spells_48 : decode cX4_spells 48 = .ok (.ireturn, 1) := by decide +kernel
theorem dX4_spells_49 : decode cX4_spells 49 = .ok (.iinc 2 1, 3) := by decide +kernel
theorem dX4_spells_52 : decode cX4_spells 52 = .ok (.goto (-32), 3) := by decide +kernel
theorem dX4_spells_55 : decode cX4_spells 55 = .ok (.iconst 1, 1) := by decide +kernel
theorem dX4_spells_56 : decode cX4_spells 56 = .ok (.ireturn, 1) := by decide +kernel
theorem dX5_init_0 : decode cX5_init 0 = .ok (.aload_n 0, 1) := by decide +kernel
theorem dX5_init_1 : decode cX5_init 1 = .ok (.invokespecial 3, 3) := by decide +kernel
theorem dX5_init_4 : decode cX5_init 4 = .ok (.aload_n 0, 1) := by decide +kernel
theorem dX5_init_5 : decode cX5_init 5 = .ok (.sipush 160, 3) := by decide +kernel
theorem dX5_init_8 : decode cX5_init 8 = .ok (.newarray .int, 2) := by decide +kernel
theorem dX5_init_10 : decode cX5_init 10 = .ok (.putfield 9, 3) := by decide +kernel
theorem dX5_init_13 : decode cX5_init 13 = .ok (.aload_n 0, 1) := by decide +kernel
theorem dX5_init_14 : decode cX5_init 14 = .ok (.iconst 4, 1) := by decide +kernel
theorem dX5_init_15 : decode cX5_init 15 = .ok (.newarray .int, 2) := by decide +kernel
theorem dX5_init_17 : decode cX5_init 17 = .ok (.putfield 15, 3) := by decide +kernel
theorem dX5_init_20 : decode cX5_init 20 = .ok (.aload_n 0, 1) := by decide +kernel
theorem dX5_init_21 : decode cX5_init 21 = .ok (.sipush 160, 3) := by decide +kernel
theorem dX5_init_24 : decode cX5_init 24 = .ok (.newarray .int, 2) := by decide +kernel
theorem dX5_init_26 : decode cX5_init 26 = .ok (.putfield 18, 3) := by decide +kernel
theorem dX5_init_29 : decode cX5_init 29 = .ok (.aload_n 0, 1) := by decide +kernel
theorem dX5_init_30 : decode cX5_init 30 = .ok (.iconst 0, 1) := by decide +kernel
theorem dX5_init_31 : decode cX5_init 31 = .ok (.putfield 21, 3) := by decide +kernel
theorem dX5_init_34 : decode cX5_init 34 = .ok (.return_, 1) := by decide +kernel
theorem dX5_clear_0 : decode cX5_clear 0 = .ok (.aload_n 0, 1) := by decide +kernel
theorem dX5_clear_1 : decode cX5_clear 1 = .ok (.iconst 0, 1) := by decide +kernel
theorem dX5_clear_2 : decode cX5_clear 2 = .ok (.putfield 21, 3) := by decide +kernel
theorem dX5_clear_5 : decode cX5_clear 5 = .ok (.return_, 1) := by decide +kernel
theorem dX5_begin_0 : decode cX5_begin 0 = .ok (.aload_n 0, 1) := by decide +kernel
theorem dX5_begin_1 : decode cX5_begin 1 = .ok (.getfield 15, 3) := by decide +kernel
theorem dX5_begin_4 : decode cX5_begin 4 = .ok (.iload_n 1, 1) := by decide +kernel
theorem dX5_begin_5 : decode cX5_begin 5 = .ok (.aload_n 0, 1) := by decide +kernel
theorem dX5_begin_6 : decode cX5_begin 6 = .ok (.getfield 21, 3) := by decide +kernel
theorem dX5_begin_9 : decode cX5_begin 9 = .ok (.iastore, 1) := by decide +kernel
theorem dX5_begin_10 : decode cX5_begin 10 = .ok (.return_, 1) := by decide +kernel
theorem dX5_close_0 : decode cX5_close 0 = .ok (.aload_n 0, 1) := by decide +kernel
theorem dX5_close_1 : decode cX5_close 1 = .ok (.getfield 15, 3) := by decide +kernel
theorem dX5_close_4 : decode cX5_close 4 = .ok (.iconst 3, 1) := by decide +kernel
theorem dX5_close_5 : decode cX5_close 5 = .ok (.aload_n 0, 1) := by decide +kernel
theorem dX5_close_6 : decode cX5_close 6 = .ok (.getfield 21, 3) := by decide +kernel
theorem dX5_close_9 : decode cX5_close 9 = .ok (.iastore, 1) := by decide +kernel
theorem dX5_close_10 : decode cX5_close 10 = .ok (.return_, 1) := by decide +kernel
theorem dX5_add_0 : decode cX5_add 0 = .ok (.aload_n 0, 1) := by decide +kernel
theorem dX5_add_1 : decode cX5_add 1 = .ok (.getfield 21, 3) := by decide +kernel
theorem dX5_add_4 : decode cX5_add 4 = .ok (.sipush 160, 3) := by decide +kernel
theorem dX5_add_7 : decode cX5_add 7 = .ok (.if_icmp .lt 4, 3) := by decide +kernel
theorem dX5_add_10 : decode cX5_add 10 = .ok (.return_, 1) := by decide +kernel
theorem dX5_add_11 : decode cX5_add 11 = .ok (.aload_n 0, 1) := by decide +kernel
theorem dX5_add_12 : decode cX5_add 12 = .ok (.getfield 9, 3) := by decide +kernel
theorem dX5_add_15 : decode cX5_add 15 = .ok (.aload_n 0, 1) := by decide +kernel
theorem dX5_add_16 : decode cX5_add 16 = .ok (.getfield 21, 3) := by decide +kernel
theorem dX5_add_19 : decode cX5_add 19 = .ok (.iload_n 1, 1) := by decide +kernel
theorem dX5_add_20 : decode cX5_add 20 = .ok (.iastore, 1) := by decide +kernel
theorem dX5_add_21 : decode cX5_add 21 = .ok (.aload_n 0, 1) := by decide +kernel
theorem dX5_add_22 : decode cX5_add 22 = .ok (.dup, 1) := by decide +kernel
theorem dX5_add_23 : decode cX5_add 23 = .ok (.getfield 21, 3) := by decide +kernel
theorem dX5_add_26 : decode cX5_add 26 = .ok (.iconst 1, 1) := by decide +kernel
theorem dX5_add_27 : decode cX5_add 27 = .ok (.iadd, 1) := by decide +kernel
theorem dX5_add_28 : decode cX5_add 28 = .ok (.putfield 21, 3) := by decide +kernel
theorem dX5_add_31 : decode cX5_add 31 = .ok (.return_, 1) := by decide +kernel
theorem dX5_value_0 : decode cX5_value 0 = .ok (.iconst 0, 1) := by decide +kernel
theorem dX5_value_1 : decode cX5_value 1 = .ok (.istore_n 3, 1) := by decide +kernel
theorem dX5_value_2 : decode cX5_value 2 = .ok (.aload_n 0, 1) := by decide +kernel
theorem dX5_value_3 : decode cX5_value 3 = .ok (.getfield 15, 3) := by decide +kernel
theorem dX5_value_6 : decode cX5_value 6 = .ok (.iload_n 1, 1) := by decide +kernel
theorem dX5_value_7 : decode cX5_value 7 = .ok (.iaload, 1) := by decide +kernel
theorem dX5_value_8 : decode cX5_value 8 = .ok (.istore 4, 2) := by decide +kernel
theorem dX5_value_10 : decode cX5_value 10 = .ok (.iload 4, 2) := by decide +kernel
theorem dX5_value_12 : decode cX5_value 12 = .ok (.aload_n 0, 1) := by decide +kernel
theorem dX5_value_13 : decode cX5_value 13 = .ok (.getfield 15, 3) := by decide +kernel
theorem dX5_value_16 : decode cX5_value 16 = .ok (.iload_n 1, 1) := by decide +kernel
theorem dX5_value_17 : decode cX5_value 17 = .ok (.iconst 1, 1) := by decide +kernel
theorem dX5_value_18 : decode cX5_value 18 = .ok (.iadd, 1) := by decide +kernel
theorem dX5_value_19 : decode cX5_value 19 = .ok (.iaload, 1) := by decide +kernel
theorem dX5_value_20 : decode cX5_value 20 = .ok (.if_icmp .ge 177, 3) := by decide +kernel
theorem dX5_value_23 : decode cX5_value 23 = .ok (.aload_n 0, 1) := by decide +kernel
theorem dX5_value_24 : decode cX5_value 24 = .ok (.getfield 9, 3) := by decide +kernel
theorem dX5_value_27 : decode cX5_value 27 = .ok (.iload 4, 2) := by decide +kernel
theorem dX5_value_29 : decode cX5_value 29 = .ok (.iaload, 1) := by decide +kernel
theorem dX5_value_30 : decode cX5_value 30 = .ok (.istore 5, 2) := by decide +kernel
theorem dX5_value_32 : decode cX5_value 32 = .ok (.iload 5, 2) := by decide +kernel
theorem dX5_value_34 : decode cX5_value 34 = .ok (.sipush 300, 3) := by decide +kernel
theorem dX5_value_37 : decode cX5_value 37 = .ok (.if_icmp .lt 49, 3) := by decide +kernel
theorem dX5_value_40 : decode cX5_value 40 = .ok (.iload_n 3, 1) := by decide +kernel
theorem dX5_value_41 : decode cX5_value 41 = .ok (.sipush 160, 3) := by decide +kernel
theorem dX5_value_44 : decode cX5_value 44 = .ok (.if_icmp .lt 5, 3) := by decide +kernel
theorem dX5_value_47 : decode cX5_value 47 = .ok (.iconst 0, 1) := by decide +kernel
theorem dX5_value_48 : decode cX5_value 48 = .ok (.ireturn, 1) := by decide +kernel
theorem dX5_value_49 : decode cX5_value 49 = .ok (.aload_n 0, 1) := by decide +kernel
theorem dX5_value_50 : decode cX5_value 50 = .ok (.getfield 18, 3) := by decide +kernel
theorem dX5_value_53 : decode cX5_value 53 = .ok (.iload_n 3, 1) := by decide +kernel
theorem dX5_value_54 : decode cX5_value 54 = .ok (.iload 5, 2) := by decide +kernel
theorem dX5_value_56 : decode cX5_value 56 = .ok (.sipush 1000, 3) := by decide +kernel
theorem dX5_value_59 : decode cX5_value 59 = .ok (.if_icmp .lt 12, 3) := by decide +kernel
theorem dX5_value_62 : decode cX5_value 62 = .ok (.iload 5, 2) := by decide +kernel
theorem dX5_value_64 : decode cX5_value 64 = .ok (.sipush 1000, 3) := by decide +kernel
theorem dX5_value_67 : decode cX5_value 67 = .ok (.isub, 1) := by decide +kernel
theorem dX5_value_68 : decode cX5_value 68 = .ok (.goto 11, 3) := by decide +kernel
theorem dX5_value_71 : decode cX5_value 71 = .ok (.aload_n 2, 1) := by decide +kernel
theorem dX5_value_72 : decode cX5_value 72 = .ok (.iload 5, 2) := by decide +kernel
theorem dX5_value_74 : decode cX5_value 74 = .ok (.sipush 300, 3) := by decide +kernel
theorem dX5_value_77 : decode cX5_value 77 = .ok (.isub, 1) := by decide +kernel
theorem dX5_value_78 : decode cX5_value 78 = .ok (.iaload, 1) := by decide +kernel
theorem dX5_value_79 : decode cX5_value 79 = .ok (.iastore, 1) := by decide +kernel
theorem dX5_value_80 : decode cX5_value 80 = .ok (.iinc 3 1, 3) := by decide +kernel
theorem dX5_value_83 : decode cX5_value 83 = .ok (.goto 108, 3) := by decide +kernel
theorem dX5_value_86 : decode cX5_value 86 = .ok (.iload 5, 2) := by decide +kernel
theorem dX5_value_88 : decode cX5_value 88 = .ok (.sipush 258, 3) := by decide +kernel
theorem dX5_value_91 : decode cX5_value 91 = .ok (.if_icmp .eq 11, 3) := by decide +kernel
theorem dX5_value_94 : decode cX5_value 94 = .ok (.iload 5, 2) := by decide +kernel
theorem dX5_value_96 : decode cX5_value 96 = .ok (.sipush 259, 3) := by decide +kernel
theorem dX5_value_99 : decode cX5_value 99 = .ok (.if_icmp .ne 55, 3) := by decide +kernel
theorem dX5_value_102 : decode cX5_value 102 = .ok (.iload_n 3, 1) := by decide +kernel
theorem dX5_value_103 : decode cX5_value 103 = .ok (.iconst 1, 1) := by decide +kernel
theorem dX5_value_104 : decode cX5_value 104 = .ok (.if_icmp .ge 5, 3) := by decide +kernel
theorem dX5_value_107 : decode cX5_value 107 = .ok (.iconst 0, 1) := by decide +kernel
theorem dX5_value_108 : decode cX5_value 108 = .ok (.ireturn, 1) := by decide +kernel
theorem dX5_value_109 : decode cX5_value 109 = .ok (.aload_n 0, 1) := by decide +kernel
theorem dX5_value_110 : decode cX5_value 110 = .ok (.getfield 18, 3) := by decide +kernel
theorem dX5_value_113 : decode cX5_value 113 = .ok (.iload_n 3, 1) := by decide +kernel
theorem dX5_value_114 : decode cX5_value 114 = .ok (.iconst 1, 1) := by decide +kernel
theorem dX5_value_115 : decode cX5_value 115 = .ok (.isub, 1) := by decide +kernel
theorem dX5_value_116 : decode cX5_value 116 = .ok (.iaload, 1) := by decide +kernel
theorem dX5_value_117 : decode cX5_value 117 = .ok (.istore 6, 2) := by decide +kernel
theorem dX5_value_119 : decode cX5_value 119 = .ok (.aload_n 0, 1) := by decide +kernel
theorem dX5_value_120 : decode cX5_value 120 = .ok (.getfield 18, 3) := by decide +kernel
theorem dX5_value_123 : decode cX5_value 123 = .ok (.iload_n 3, 1) := by decide +kernel
theorem dX5_value_124 : decode cX5_value 124 = .ok (.iconst 1, 1) := by decide +kernel
theorem dX5_value_125 : decode cX5_value 125 = .ok (.isub, 1) := by decide +kernel
theorem dX5_value_126 : decode cX5_value 126 = .ok (.iload 5, 2) := by decide +kernel
theorem dX5_value_128 : decode cX5_value 128 = .ok (.sipush 259, 3) := by decide +kernel
theorem dX5_value_131 : decode cX5_value 131 = .ok (.if_icmp .ne 9, 3) := by decide +kernel
theorem dX5_value_134 : decode cX5_value 134 = .ok (.iload 6, 2) := by decide +kernel
theorem dX5_value_136 : decode cX5_value 136 = .ok (.ineg, 1) := by decide +kernel
theorem dX5_value_137 : decode cX5_value 137 = .ok (.goto 13, 3) := by decide +kernel
theorem dX5_value_140 : decode cX5_value 140 = .ok (.iload 6, 2) := by decide +kernel
theorem dX5_value_142 : decode cX5_value 142 = .ok (.ifCond .ne 7, 3) := by decide +kernel
theorem dX5_value_145 : decode cX5_value 145 = .ok (.iconst 1, 1) := by decide +kernel
theorem dX5_value_146 : decode cX5_value 146 = .ok (.goto 4, 3) := by decide +kernel
theorem dX5_value_149 : decode cX5_value 149 = .ok (.iconst 0, 1) := by decide +kernel
theorem dX5_value_150 : decode cX5_value 150 = .ok (.iastore, 1) := by decide +kernel
theorem dX5_value_151 : decode cX5_value 151 = .ok (.goto 40, 3) := by decide +kernel
theorem dX5_value_154 : decode cX5_value 154 = .ok (.iload_n 3, 1) := by decide +kernel
theorem dX5_value_155 : decode cX5_value 155 = .ok (.iconst 2, 1) := by decide +kernel
theorem dX5_value_156 : decode cX5_value 156 = .ok (.if_icmp .ge 5, 3) := by decide +kernel
theorem dX5_value_159 : decode cX5_value 159 = .ok (.iconst 0, 1) := by decide +kernel
theorem dX5_value_160 : decode cX5_value 160 = .ok (.ireturn, 1) := by decide +kernel
theorem dX5_value_161 : decode cX5_value 161 = .ok (.iinc 3 (-1), 3) := by decide +kernel
theorem dX5_value_164 : decode cX5_value 164 = .ok (.aload_n 0, 1) := by decide +kernel
theorem dX5_value_165 : decode cX5_value 165 = .ok (.getfield 18, 3) := by decide +kernel
theorem dX5_value_168 : decode cX5_value 168 = .ok (.iload_n 3, 1) := by decide +kernel
theorem dX5_value_169 : decode cX5_value 169 = .ok (.iconst 1, 1) := by decide +kernel
theorem dX5_value_170 : decode cX5_value 170 = .ok (.isub, 1) := by decide +kernel
theorem dX5_value_171 : decode cX5_value 171 = .ok (.iload 5, 2) := by decide +kernel
theorem dX5_value_173 : decode cX5_value 173 = .ok (.aload_n 0, 1) := by decide +kernel
theorem dX5_value_174 : decode cX5_value 174 = .ok (.getfield 18, 3) := by decide +kernel
theorem dX5_value_177 : decode cX5_value 177 = .ok (.iload_n 3, 1) := by decide +kernel
theorem dX5_value_178 : decode cX5_value 178 = .ok (.iconst 1, 1) := by decide +kernel
theorem dX5_value_179 : decode cX5_value 179 = .ok (.isub, 1) := by decide +kernel
theorem dX5_value_180 : decode cX5_value 180 = .ok (.iaload, 1) := by decide +kernel
theorem dX5_value_181 : decode cX5_value 181 = .ok (.aload_n 0, 1) := by decide +kernel
theorem dX5_value_182 : decode cX5_value 182 = .ok (.getfield 18, 3) := by decide +kernel
theorem dX5_value_185 : decode cX5_value 185 = .ok (.iload_n 3, 1) := by decide +kernel
theorem dX5_value_186 : decode cX5_value 186 = .ok (.iaload, 1) := by decide +kernel
theorem dX5_value_187 : decode cX5_value 187 = .ok (.invokestatic 25, 3) := by decide +kernel
theorem dX5_value_190 : decode cX5_value 190 = .ok (.iastore, 1) := by decide +kernel
theorem dX5_value_191 : decode cX5_value 191 = .ok (.iinc 4 1, 3) := by decide +kernel
theorem dX5_value_194 : decode cX5_value 194 = .ok (.goto (-184), 3) := by decide +kernel
theorem dX5_value_197 : decode cX5_value 197 = .ok (.iload_n 3, 1) := by decide +kernel
theorem dX5_value_198 : decode cX5_value 198 = .ok (.iconst 1, 1) := by decide +kernel
theorem dX5_value_199 : decode cX5_value 199 = .ok (.if_icmp .ge 7, 3) := by decide +kernel
theorem dX5_value_202 : decode cX5_value 202 = .ok (.iconst 0, 1) := by decide +kernel
theorem dX5_value_203 : decode cX5_value 203 = .ok (.goto 11, 3) := by decide +kernel
theorem dX5_value_206 : decode cX5_value 206 = .ok (.aload_n 0, 1) := by decide +kernel
theorem dX5_value_207 : decode cX5_value 207 = .ok (.getfield 18, 3) := by decide +kernel
theorem dX5_value_210 : decode cX5_value 210 = .ok (.iload_n 3, 1) := by decide +kernel
theorem dX5_value_211 : decode cX5_value 211 = .ok (.iconst 1, 1) := by decide +kernel
theorem dX5_value_212 : decode cX5_value 212 = .ok (.isub, 1) := by decide +kernel
theorem dX5_value_213 : decode cX5_value 213 = .ok (.iaload, 1) := by decide +kernel
theorem dX5_value_214 : decode cX5_value 214 = .ok (.ireturn, 1) := by decide +kernel
theorem dX5_joined_0 : decode cX5_joined 0 = .ok (.iload_n 0, 1) := by decide +kernel
theorem dX5_joined_1 : decode cX5_joined 1 = .ok (.lookupswitch 107 #[(42, 67), (43, 59), (45, 63), (60, 71), (61, 82), (257, 93)], 59) := by decide +kernel
theorem dX5_joined_60 : decode cX5_joined 60 = .ok (.iload_n 1, 1) := by decide +kernel
theorem dX5_joined_61 : decode cX5_joined 61 = .ok (.iload_n 2, 1) := by decide +kernel
theorem dX5_joined_62 : decode cX5_joined 62 = .ok (.iadd, 1) := by decide +kernel
theorem dX5_joined_63 : decode cX5_joined 63 = .ok (.ireturn, 1) := by decide +kernel
theorem dX5_joined_64 : decode cX5_joined 64 = .ok (.iload_n 1, 1) := by decide +kernel
theorem dX5_joined_65 : decode cX5_joined 65 = .ok (.iload_n 2, 1) := by decide +kernel
theorem dX5_joined_66 : decode cX5_joined 66 = .ok (.isub, 1) := by decide +kernel
theorem dX5_joined_67 : decode cX5_joined 67 = .ok (.ireturn, 1) := by decide +kernel
theorem dX5_joined_68 : decode cX5_joined 68 = .ok (.iload_n 1, 1) := by decide +kernel
theorem dX5_joined_69 : decode cX5_joined 69 = .ok (.iload_n 2, 1) := by decide +kernel
theorem dX5_joined_70 : decode cX5_joined 70 = .ok (.imul, 1) := by decide +kernel
theorem dX5_joined_71 : decode cX5_joined 71 = .ok (.ireturn, 1) := by decide +kernel
theorem dX5_joined_72 : decode cX5_joined 72 = .ok (.iload_n 1, 1) := by decide +kernel
theorem dX5_joined_73 : decode cX5_joined 73 = .ok (.iload_n 2, 1) := by decide +kernel
theorem dX5_joined_74 : decode cX5_joined 74 = .ok (.if_icmp .ge 7, 3) := by decide +kernel
theorem dX5_joined_77 : decode cX5_joined 77 = .ok (.iconst 1, 1) := by decide +kernel
theorem dX5_joined_78 : decode cX5_joined 78 = .ok (.goto 4, 3) := by decide +kernel
theorem dX5_joined_81 : decode cX5_joined 81 = .ok (.iconst 0, 1) := by decide +kernel
theorem dX5_joined_82 : decode cX5_joined 82 = .ok (.ireturn, 1) := by decide +kernel
theorem dX5_joined_83 : decode cX5_joined 83 = .ok (.iload_n 1, 1) := by decide +kernel
theorem dX5_joined_84 : decode cX5_joined 84 = .ok (.iload_n 2, 1) := by decide +kernel
theorem dX5_joined_85 : decode cX5_joined 85 = .ok (.if_icmp .ne 7, 3) := by decide +kernel
theorem dX5_joined_88 : decode cX5_joined 88 = .ok (.iconst 1, 1) := by decide +kernel
theorem dX5_joined_89 : decode cX5_joined 89 = .ok (.goto 4, 3) := by decide +kernel
theorem dX5_joined_92 : decode cX5_joined 92 = .ok (.iconst 0, 1) := by decide +kernel
theorem dX5_joined_93 : decode cX5_joined 93 = .ok (.ireturn, 1) := by decide +kernel
theorem dX5_joined_94 : decode cX5_joined 94 = .ok (.iload_n 1, 1) := by decide +kernel
theorem dX5_joined_95 : decode cX5_joined 95 = .ok (.ifCond .eq 11, 3) := by decide +kernel
theorem dX5_joined_98 : decode cX5_joined 98 = .ok (.iload_n 2, 1) := by decide +kernel
theorem dX5_joined_99 : decode cX5_joined 99 = .ok (.ifCond .eq 7, 3) := by decide +kernel
theorem dX5_joined_102 : decode cX5_joined 102 = .ok (.iconst 1, 1) := by decide +kernel
theorem dX5_joined_103 : decode cX5_joined 103 = .ok (.goto 4, 3) := by decide +kernel
theorem dX5_joined_106 : decode cX5_joined 106 = .ok (.iconst 0, 1) := by decide +kernel
theorem dX5_joined_107 : decode cX5_joined 107 = .ok (.ireturn, 1) := by decide +kernel
theorem dX5_joined_108 : decode cX5_joined 108 = .ok (.iload_n 1, 1) := by decide +kernel
theorem dX5_joined_109 : decode cX5_joined 109 = .ok (.ifCond .ne 7, 3) := by decide +kernel
theorem dX5_joined_112 : decode cX5_joined 112 = .ok (.iload_n 2, 1) := by decide +kernel
theorem dX5_joined_113 : decode cX5_joined 113 = .ok (.ifCond .eq 7, 3) := by decide +kernel
theorem dX5_joined_116 : decode cX5_joined 116 = .ok (.iconst 1, 1) := by decide +kernel
theorem dX5_joined_117 : decode cX5_joined 117 = .ok (.goto 4, 3) := by decide +kernel
theorem dX5_joined_120 : decode cX5_joined 120 = .ok (.iconst 0, 1) := by decide +kernel
theorem dX5_joined_121 : decode cX5_joined 121 = .ok (.ireturn, 1) := by decide +kernel
theorem dX6_init_0 : decode cX6_init 0 = .ok (.aload_n 0, 1) := by decide +kernel
theorem dX6_init_1 : decode cX6_init 1 = .ok (.invokespecial 3, 3) := by decide +kernel
theorem dX6_init_4 : decode cX6_init 4 = .ok (.aload_n 0, 1) := by decide +kernel
theorem dX6_init_5 : decode cX6_init 5 = .ok (.iload_n 1, 1) := by decide +kernel
theorem dX6_init_6 : decode cX6_init 6 = .ok (.putfield 9, 3) := by decide +kernel
theorem dX6_init_9 : decode cX6_init 9 = .ok (.aload_n 0, 1) := by decide +kernel
theorem dX6_init_10 : decode cX6_init 10 = .ok (.iload_n 2, 1) := by decide +kernel
theorem dX6_init_11 : decode cX6_init 11 = .ok (.putfield 15, 3) := by decide +kernel
theorem dX6_init_14 : decode cX6_init 14 = .ok (.aload_n 0, 1) := by decide +kernel
theorem dX6_init_15 : decode cX6_init 15 = .ok (.iload_n 3, 1) := by decide +kernel
theorem dX6_init_16 : decode cX6_init 16 = .ok (.putfield 18, 3) := by decide +kernel
theorem dX6_init_19 : decode cX6_init 19 = .ok (.return_, 1) := by decide +kernel
theorem dX6_callsIn_0 : decode cX6_callsIn 0 = .ok (.iload_n 1, 1) := by decide +kernel
theorem dX6_callsIn_1 : decode cX6_callsIn 1 = .ok (.iload_n 2, 1) := by decide +kernel
theorem dX6_callsIn_2 : decode cX6_callsIn 2 = .ok (.if_icmp .ge 5, 3) := by decide +kernel
theorem dX6_callsIn_5 : decode cX6_callsIn 5 = .ok (.iconst 0, 1) := by decide +kernel
theorem dX6_callsIn_6 : decode cX6_callsIn 6 = .ok (.ireturn, 1) := by decide +kernel
theorem dX6_callsIn_7 : decode cX6_callsIn 7 = .ok (.iload_n 1, 1) := by decide +kernel
theorem dX6_callsIn_8 : decode cX6_callsIn 8 = .ok (.iload_n 2, 1) := by decide +kernel
theorem dX6_callsIn_9 : decode cX6_callsIn 9 = .ok (.isub, 1) := by decide +kernel
theorem dX6_callsIn_10 : decode cX6_callsIn 10 = .ok (.bipush 10, 2) := by decide +kernel
theorem dX6_callsIn_12 : decode cX6_callsIn 12 = .ok (.irem, 1) := by decide +kernel
theorem dX6_callsIn_13 : decode cX6_callsIn 13 = .ok (.ifCond .ne 7, 3) := by decide +kernel
theorem dX6_callsIn_16 : decode cX6_callsIn 16 = .ok (.iconst 5, 1) := by decide +kernel
theorem dX6_callsIn_17 : decode cX6_callsIn 17 = .ok (.goto 4, 3) := by decide +kernel
theorem dX6_callsIn_20 : decode cX6_callsIn 20 = .ok (.iconst 0, 1) := by decide +kernel
theorem dX6_callsIn_21 : decode cX6_callsIn 21 = .ok (.istore_n 3, 1) := by decide +kernel
theorem dX6_callsIn_22 : decode cX6_callsIn 22 = .ok (.aload_n 0, 1) := by decide +kernel
theorem dX6_callsIn_23 : decode cX6_callsIn 23 = .ok (.getfield 9, 3) := by decide +kernel
theorem dX6_callsIn_26 : decode cX6_callsIn 26 = .ok (.tableswitch 55 1 5 #[34, 55, 39, 55, 46], 34) := by decide +kernel
theorem dX6_callsIn_60 : decode cX6_callsIn 60 = .ok (.aload_n 0, 1) := by decide +kernel
theorem dX6_callsIn_61 : decode cX6_callsIn 61 = .ok (.getfield 18, 3) := by decide +kernel
theorem dX6_callsIn_64 : decode cX6_callsIn 64 = .ok (.ireturn, 1) := by decide +kernel
theorem dX6_callsIn_65 : decode cX6_callsIn 65 = .ok (.aload_n 0, 1) := by decide +kernel
theorem dX6_callsIn_66 : decode cX6_callsIn 66 = .ok (.getfield 18, 3) := by decide +kernel
theorem dX6_callsIn_69 : decode cX6_callsIn 69 = .ok (.iload_n 3, 1) := by decide +kernel
theorem dX6_callsIn_70 : decode cX6_callsIn 70 = .ok (.iadd, 1) := by decide +kernel
theorem dX6_callsIn_71 : decode cX6_callsIn 71 = .ok (.ireturn, 1) := by decide +kernel
theorem dX6_callsIn_72 : decode cX6_callsIn 72 = .ok (.iconst 2, 1) := by decide +kernel
theorem dX6_callsIn_73 : decode cX6_callsIn 73 = .ok (.aload_n 0, 1) := by decide +kernel
theorem dX6_callsIn_74 : decode cX6_callsIn 74 = .ok (.getfield 18, 3) := by decide +kernel
theorem dX6_callsIn_77 : decode cX6_callsIn 77 = .ok (.iload_n 3, 1) := by decide +kernel
theorem dX6_callsIn_78 : decode cX6_callsIn 78 = .ok (.iadd, 1) := by decide +kernel
theorem dX6_callsIn_79 : decode cX6_callsIn 79 = .ok (.imul, 1) := by decide +kernel
theorem dX6_callsIn_80 : decode cX6_callsIn 80 = .ok (.ireturn, 1) := by decide +kernel
theorem dX6_callsIn_81 : decode cX6_callsIn 81 = .ok (.iconst 0, 1) := by decide +kernel
theorem dX6_callsIn_82 : decode cX6_callsIn 82 = .ok (.ireturn, 1) := by decide +kernel
theorem dX6_asksIn_0 : decode cX6_asksIn 0 = .ok (.iload_n 1, 1) := by decide +kernel
theorem dX6_asksIn_1 : decode cX6_asksIn 1 = .ok (.iload_n 2, 1) := by decide +kernel
theorem dX6_asksIn_2 : decode cX6_asksIn 2 = .ok (.if_icmp .ge 7, 3) := by decide +kernel
theorem dX6_asksIn_5 : decode cX6_asksIn 5 = .ok (.iconst 1, 1) := by decide +kernel
theorem dX6_asksIn_6 : decode cX6_asksIn 6 = .ok (.goto 9, 3) := by decide +kernel
theorem dX6_asksIn_9 : decode cX6_asksIn 9 = .ok (.iconst 1, 1) := by decide +kernel
theorem dX6_asksIn_10 : decode cX6_asksIn 10 = .ok (.aload_n 0, 1) := by decide +kernel
theorem dX6_asksIn_11 : decode cX6_asksIn 11 = .ok (.getfield 18, 3) := by decide +kernel
theorem dX6_asksIn_14 : decode cX6_asksIn 14 = .ok (.iadd, 1) := by decide +kernel
theorem dX6_asksIn_15 : decode cX6_asksIn 15 = .ok (.istore_n 3, 1) := by decide +kernel
theorem dX6_asksIn_16 : decode cX6_asksIn 16 = .ok (.aload_n 0, 1) := by decide +kernel
theorem dX6_asksIn_17 : decode cX6_asksIn 17 = .ok (.getfield 9, 3) := by decide +kernel
theorem dX6_asksIn_20 : decode cX6_asksIn 20 = .ok (.tableswitch 45 2 5 #[32, 34, 36, 40], 32) := by decide +kernel
theorem dX6_asksIn_52 : decode cX6_asksIn 52 = .ok (.iload_n 3, 1) := by decide +kernel
theorem dX6_asksIn_53 : decode cX6_asksIn 53 = .ok (.ireturn, 1) := by decide +kernel
theorem dX6_asksIn_54 : decode cX6_asksIn 54 = .ok (.iconst 0, 1) := by decide +kernel
theorem dX6_asksIn_55 : decode cX6_asksIn 55 = .ok (.ireturn, 1) := by decide +kernel
theorem dX6_asksIn_56 : decode cX6_asksIn 56 = .ok (.iconst 2, 1) := by decide +kernel
theorem dX6_asksIn_57 : decode cX6_asksIn 57 = .ok (.iload_n 3, 1) := by decide +kernel
theorem dX6_asksIn_58 : decode cX6_asksIn 58 = .ok (.imul, 1) := by decide +kernel
theorem dX6_asksIn_59 : decode cX6_asksIn 59 = .ok (.ireturn, 1) := by decide +kernel
theorem dX6_asksIn_60 : decode cX6_asksIn 60 = .ok (.aload_n 0, 1) := by decide +kernel
theorem dX6_asksIn_61 : decode cX6_asksIn 61 = .ok (.getfield 18, 3) := by decide +kernel
theorem dX6_asksIn_64 : decode cX6_asksIn 64 = .ok (.ireturn, 1) := by decide +kernel
theorem dX6_asksIn_65 : decode cX6_asksIn 65 = .ok (.iconst 1, 1) := by decide +kernel
theorem dX6_asksIn_66 : decode cX6_asksIn 66 = .ok (.ireturn, 1) := by decide +kernel
theorem dX6_rankOf_0 : decode cX6_rankOf 0 = .ok (.aload_n 0, 1) := by decide +kernel
theorem dX6_rankOf_1 : decode cX6_rankOf 1 = .ok (.getfield 9, 3) := by decide +kernel
theorem dX6_rankOf_4 : decode cX6_rankOf 4 = .ok (.iconst 3, 1) := by decide +kernel
theorem dX6_rankOf_5 : decode cX6_rankOf 5 = .ok (.if_icmp .eq 11, 3) := by decide +kernel
theorem dX6_rankOf_8 : decode cX6_rankOf 8 = .ok (.aload_n 0, 1) := by decide +kernel
theorem dX6_rankOf_9 : decode cX6_rankOf 9 = .ok (.getfield 9, 3) := by decide +kernel
theorem dX6_rankOf_12 : decode cX6_rankOf 12 = .ok (.iconst 5, 1) := by decide +kernel
theorem dX6_rankOf_13 : decode cX6_rankOf 13 = .ok (.if_icmp .ne 6, 3) := by decide +kernel
theorem dX6_rankOf_16 : decode cX6_rankOf 16 = .ok (.iload_n 2, 1) := by decide +kernel
theorem dX6_rankOf_17 : decode cX6_rankOf 17 = .ok (.ineg, 1) := by decide +kernel
theorem dX6_rankOf_18 : decode cX6_rankOf 18 = .ok (.ireturn, 1) := by decide +kernel
theorem dX6_rankOf_19 : decode cX6_rankOf 19 = .ok (.aload_n 0, 1) := by decide +kernel
theorem dX6_rankOf_20 : decode cX6_rankOf 20 = .ok (.getfield 9, 3) := by decide +kernel
theorem dX6_rankOf_23 : decode cX6_rankOf 23 = .ok (.iconst 4, 1) := by decide +kernel
theorem dX6_rankOf_24 : decode cX6_rankOf 24 = .ok (.if_icmp .ne 7, 3) := by decide +kernel
theorem dX6_rankOf_27 : decode cX6_rankOf 27 = .ok (.iload_n 1, 1) := by decide +kernel
theorem dX6_rankOf_28 : decode cX6_rankOf 28 = .ok (.goto 4, 3) := by decide +kernel
theorem dX6_rankOf_31 : decode cX6_rankOf 31 = .ok (.iconst 0, 1) := by decide +kernel
theorem dX6_rankOf_32 : decode cX6_rankOf 32 = .ok (.ireturn, 1) := by decide +kernel
theorem dX6_isUnder_0 : decode cX6_isUnder 0 = .ok (.aload_n 0, 1) := by decide +kernel
theorem dX6_isUnder_1 : decode cX6_isUnder 1 = .ok (.getfield 9, 3) := by decide +kernel
theorem dX6_isUnder_4 : decode cX6_isUnder 4 = .ok (.istore_n 2, 1) := by decide +kernel
theorem dX6_isUnder_5 : decode cX6_isUnder 5 = .ok (.iconst 0, 1) := by decide +kernel
theorem dX6_isUnder_6 : decode cX6_isUnder 6 = .ok (.istore_n 3, 1) := by decide +kernel
theorem dX6_isUnder_7 : decode cX6_isUnder 7 = .ok (.iload_n 3, 1) := by decide +kernel
theorem dX6_isUnder_8 : decode cX6_isUnder 8 = .ok (.getstatic 21, 3) := by decide +kernel
theorem dX6_isUnder_11 : decode cX6_isUnder 11 = .ok (.arraylength, 1) := by decide +kernel
theorem dX6_isUnder_12 : decode cX6_isUnder 12 = .ok (.if_icmp .ge 31, 3) := by decide +kernel
theorem dX6_isUnder_15 : decode cX6_isUnder 15 = .ok (.iload_n 2, 1) := by decide +kernel
theorem dX6_isUnder_16 : decode cX6_isUnder 16 = .ok (.iload_n 1, 1) := by decide +kernel
theorem dX6_isUnder_17 : decode cX6_isUnder 17 = .ok (.if_icmp .eq 26, 3) := by decide +kernel
theorem dX6_isUnder_20 : decode cX6_isUnder 20 = .ok (.iload_n 2, 1) := by decide +kernel
theorem dX6_isUnder_21 : decode cX6_isUnder 21 = .ok (.iconst 0, 1) := by decide +kernel
theorem dX6_isUnder_22 : decode cX6_isUnder 22 = .ok (.iconst 5, 1) := by decide +kernel
theorem dX6_isUnder_23 : decode cX6_isUnder 23 = .ok (.invokestatic 25, 3) := by decide +kernel
theorem dX6_isUnder_26 : decode cX6_isUnder 26 = .ok (.ifCond .ne 5, 3) := by decide +kernel
theorem dX6_isUnder_29 : decode cX6_isUnder 29 = .ok (.iconst 0, 1) := by decide +kernel
theorem dX6_isUnder_30 : decode cX6_isUnder 30 = .ok (.ireturn, 1) := by decide +kernel
theorem dX6_isUnder_31 : decode cX6_isUnder 31 = .ok (.getstatic 21, 3) := by decide +kernel
theorem dX6_isUnder_34 : decode cX6_isUnder 34 = .ok (.iload_n 2, 1) := by decide +kernel
theorem dX6_isUnder_35 : decode cX6_isUnder 35 = .ok (.iaload, 1) := by decide +kernel
theorem dX6_isUnder_36 : decode cX6_isUnder 36 = .ok (.istore_n 2, 1) := by decide +kernel
theorem dX6_isUnder_37 : decode cX6_isUnder 37 = .ok (.iinc 3 1, 3) := by decide +kernel
theorem dX6_isUnder_40 : decode cX6_isUnder 40 = .ok (.goto (-33), 3) := by decide +kernel
theorem dX6_isUnder_43 : decode cX6_isUnder 43 = .ok (.iload_n 2, 1) := by decide +kernel
theorem dX6_isUnder_44 : decode cX6_isUnder 44 = .ok (.iload_n 1, 1) := by decide +kernel
theorem dX6_isUnder_45 : decode cX6_isUnder 45 = .ok (.if_icmp .ne 7, 3) := by decide +kernel
theorem dX6_isUnder_48 : decode cX6_isUnder 48 = .ok (.iconst 1, 1) := by decide +kernel
theorem dX6_isUnder_49 : decode cX6_isUnder 49 = .ok (.goto 4, 3) := by decide +kernel
theorem dX6_isUnder_52 : decode cX6_isUnder 52 = .ok (.iconst 0, 1) := by decide +kernel
theorem dX6_isUnder_53 : decode cX6_isUnder 53 = .ok (.ireturn, 1) := by decide +kernel
theorem dX7_init_0 : decode cX7_init 0 = .ok (.aload_n 0, 1) := by decide +kernel
theorem dX7_init_1 : decode cX7_init 1 = .ok (.invokespecial 1, 3) := by decide +kernel
theorem dX7_init_4 : decode cX7_init 4 = .ok (.aload_n 0, 1) := by decide +kernel
theorem dX7_init_5 : decode cX7_init 5 = .ok (.new 7, 3) := by decide +kernel
theorem dX7_init_8 : decode cX7_init 8 = .ok (.dup, 1) := by decide +kernel
theorem dX7_init_9 : decode cX7_init 9 = .ok (.invokespecial 9, 3) := by decide +kernel
theorem dX7_init_12 : decode cX7_init 12 = .ok (.putfield 10, 3) := by decide +kernel
theorem dX7_init_15 : decode cX7_init 15 = .ok (.aload_n 0, 1) := by decide +kernel
theorem dX7_init_16 : decode cX7_init 16 = .ok (.new 7, 3) := by decide +kernel
theorem dX7_init_19 : decode cX7_init 19 = .ok (.dup, 1) := by decide +kernel
theorem dX7_init_20 : decode cX7_init 20 = .ok (.invokespecial 9, 3) := by decide +kernel
theorem dX7_init_23 : decode cX7_init 23 = .ok (.putfield 16, 3) := by decide +kernel
theorem dX7_init_26 : decode cX7_init 26 = .ok (.aload_n 0, 1) := by decide +kernel
theorem dX7_init_27 : decode cX7_init 27 = .ok (.iconst 0, 1) := by decide +kernel
theorem dX7_init_28 : decode cX7_init 28 = .ok (.putfield 19, 3) := by decide +kernel
theorem dX7_init_31 : decode cX7_init 31 = .ok (.aload_n 0, 1) := by decide +kernel
theorem dX7_init_32 : decode cX7_init 32 = .ok (.new 23, 3) := by decide +kernel
theorem dX7_init_35 : decode cX7_init 35 = .ok (.dup, 1) := by decide +kernel
theorem dX7_init_36 : decode cX7_init 36 = .ok (.invokespecial 25, 3) := by decide +kernel
theorem dX7_init_39 : decode cX7_init 39 = .ok (.putfield 26, 3) := by decide +kernel
theorem dX7_init_42 : decode cX7_init 42 = .ok (.aload_n 0, 1) := by decide +kernel
theorem dX7_init_43 : decode cX7_init 43 = .ok (.bipush 8, 2) := by decide +kernel
theorem dX7_init_45 : decode cX7_init 45 = .ok (.anewarray 30, 3) := by decide +kernel
theorem dX7_init_48 : decode cX7_init 48 = .ok (.putfield 32, 3) := by decide +kernel
theorem dX7_init_51 : decode cX7_init 51 = .ok (.aload_n 0, 1) := by decide +kernel
theorem dX7_init_52 : decode cX7_init 52 = .ok (.iconst 0, 1) := by decide +kernel
theorem dX7_init_53 : decode cX7_init 53 = .ok (.putfield 36, 3) := by decide +kernel
theorem dX7_init_56 : decode cX7_init 56 = .ok (.aload_n 0, 1) := by decide +kernel
theorem dX7_init_57 : decode cX7_init 57 = .ok (.new 30, 3) := by decide +kernel
theorem dX7_init_60 : decode cX7_init 60 = .ok (.dup, 1) := by decide +kernel
theorem dX7_init_61 : decode cX7_init 61 = .ok (.iconst 0, 1) := by decide +kernel
theorem dX7_init_62 : decode cX7_init 62 = .ok (.iconst 0, 1) := by decide +kernel
theorem dX7_init_63 : decode cX7_init 63 = .ok (.iconst 0, 1) := by decide +kernel
theorem dX7_init_64 : decode cX7_init 64 = .ok (.invokespecial 40, 3) := by decide +kernel
theorem dX7_init_67 : decode cX7_init 67 = .ok (.putfield 43, 3) := by decide +kernel
theorem dX7_init_70 : decode cX7_init 70 = .ok (.aload_n 0, 1) := by decide +kernel
theorem dX7_init_71 : decode cX7_init 71 = .ok (.new 47, 3) := by decide +kernel
theorem dX7_init_74 : decode cX7_init 74 = .ok (.dup, 1) := by decide +kernel
theorem dX7_init_75 : decode cX7_init 75 = .ok (.invokespecial 49, 3) := by decide +kernel
theorem dX7_init_78 : decode cX7_init 78 = .ok (.putfield 50, 3) := by decide +kernel
theorem dX7_init_81 : decode cX7_init 81 = .ok (.aload_n 0, 1) := by decide +kernel
theorem dX7_init_82 : decode cX7_init 82 = .ok (.bipush 6, 2) := by decide +kernel
theorem dX7_init_84 : decode cX7_init 84 = .ok (.anewarray 54, 3) := by decide +kernel
theorem dX7_init_87 : decode cX7_init 87 = .ok (.putfield 56, 3) := by decide +kernel
theorem dX7_init_90 : decode cX7_init 90 = .ok (.aload_n 0, 1) := by decide +kernel
theorem dX7_init_91 : decode cX7_init 91 = .ok (.iconst 1, 1) := by decide +kernel
theorem dX7_init_92 : decode cX7_init 92 = .ok (.putfield 60, 3) := by decide +kernel
theorem dX7_init_95 : decode cX7_init 95 = .ok (.aload_n 0, 1) := by decide +kernel
theorem dX7_init_96 : decode cX7_init 96 = .ok (.iconst 4, 1) := by decide +kernel
theorem dX7_init_97 : decode cX7_init 97 = .ok (.anewarray 63, 3) := by decide +kernel
theorem dX7_init_100 : decode cX7_init 100 = .ok (.putfield 65, 3) := by decide +kernel
theorem dX7_init_103 : decode cX7_init 103 = .ok (.aload_n 0, 1) := by decide +kernel
theorem dX7_init_104 : decode cX7_init 104 = .ok (.new 69, 3) := by decide +kernel
theorem dX7_init_107 : decode cX7_init 107 = .ok (.dup, 1) := by decide +kernel
theorem dX7_init_108 : decode cX7_init 108 = .ok (.invokespecial 71, 3) := by decide +kernel
theorem dX7_init_111 : decode cX7_init 111 = .ok (.putfield 72, 3) := by decide +kernel
theorem dX7_init_114 : decode cX7_init 114 = .ok (.aload_n 0, 1) := by decide +kernel
theorem dX7_init_115 : decode cX7_init 115 = .ok (.getfield 56, 3) := by decide +kernel
theorem dX7_init_118 : decode cX7_init 118 = .ok (.iconst 0, 1) := by decide +kernel
theorem dX7_init_119 : decode cX7_init 119 = .ok (.invokestatic 76, 3) := by decide +kernel
theorem dX7_init_122 : decode cX7_init 122 = .ok (.aastore, 1) := by decide +kernel
theorem dX7_init_123 : decode cX7_init 123 = .ok (.iconst 1, 1) := by decide +kernel
theorem dX7_init_124 : decode cX7_init 124 = .ok (.istore_n 1, 1) := by decide +kernel
theorem dX7_init_125 : decode cX7_init 125 = .ok (.iload_n 1, 1) := by decide +kernel
theorem dX7_init_126 : decode cX7_init 126 = .ok (.bipush 6, 2) := by decide +kernel
theorem dX7_init_128 : decode cX7_init 128 = .ok (.if_icmp .ge 22, 3) := by decide +kernel
theorem dX7_init_131 : decode cX7_init 131 = .ok (.aload_n 0, 1) := by decide +kernel
theorem dX7_init_132 : decode cX7_init 132 = .ok (.getfield 56, 3) := by decide +kernel
theorem dX7_init_135 : decode cX7_init 135 = .ok (.iload_n 1, 1) := by decide +kernel
theorem dX7_init_136 : decode cX7_init 136 = .ok (.new 54, 3) := by decide +kernel
theorem dX7_init_139 : decode cX7_init 139 = .ok (.dup, 1) := by decide +kernel
theorem dX7_init_140 : decode cX7_init 140 = .ok (.invokespecial 80, 3) := by decide +kernel
theorem dX7_init_143 : decode cX7_init 143 = .ok (.aastore, 1) := by decide +kernel
theorem dX7_init_144 : decode cX7_init 144 = .ok (.iinc 1 1, 3) := by decide +kernel
theorem dX7_init_147 : decode cX7_init 147 = .ok (.goto (-22), 3) := by decide +kernel
theorem dX7_init_150 : decode cX7_init 150 = .ok (.iconst 0, 1) := by decide +kernel
theorem dX7_init_151 : decode cX7_init 151 = .ok (.istore_n 1, 1) := by decide +kernel
theorem dX7_init_152 : decode cX7_init 152 = .ok (.iload_n 1, 1) := by decide +kernel
theorem dX7_init_153 : decode cX7_init 153 = .ok (.iconst 4, 1) := by decide +kernel
theorem dX7_init_154 : decode cX7_init 154 = .ok (.if_icmp .ge 22, 3) := by decide +kernel
theorem dX7_init_157 : decode cX7_init 157 = .ok (.aload_n 0, 1) := by decide +kernel
theorem dX7_init_158 : decode cX7_init 158 = .ok (.getfield 65, 3) := by decide +kernel
theorem dX7_init_161 : decode cX7_init 161 = .ok (.iload_n 1, 1) := by decide +kernel
theorem dX7_init_162 : decode cX7_init 162 = .ok (.new 63, 3) := by decide +kernel
theorem dX7_init_165 : decode cX7_init 165 = .ok (.dup, 1) := by decide +kernel
theorem dX7_init_166 : decode cX7_init 166 = .ok (.invokespecial 81, 3) := by decide +kernel
theorem dX7_init_169 : decode cX7_init 169 = .ok (.aastore, 1) := by decide +kernel
theorem dX7_init_170 : decode cX7_init 170 = .ok (.iinc 1 1, 3) := by decide +kernel
theorem dX7_init_173 : decode cX7_init 173 = .ok (.goto (-21), 3) := by decide +kernel
theorem dX7_init_176 : decode cX7_init 176 = .ok (.return_, 1) := by decide +kernel
theorem dX7_firstRule_0 : decode cX7_firstRule 0 = .ok (.new 47, 3) := by decide +kernel
theorem dX7_firstRule_3 : decode cX7_firstRule 3 = .ok (.dup, 1) := by decide +kernel
theorem dX7_firstRule_4 : decode cX7_firstRule 4 = .ok (.invokespecial 49, 3) := by decide +kernel
theorem dX7_firstRule_7 : decode cX7_firstRule 7 = .ok (.astore_n 0, 1) := by decide +kernel
theorem dX7_firstRule_8 : decode cX7_firstRule 8 = .ok (.new 54, 3) := by decide +kernel
theorem dX7_firstRule_11 : decode cX7_firstRule 11 = .ok (.dup, 1) := by decide +kernel
theorem dX7_firstRule_12 : decode cX7_firstRule 12 = .ok (.invokespecial 80, 3) := by decide +kernel
theorem dX7_firstRule_15 : decode cX7_firstRule 15 = .ok (.astore_n 1, 1) := by decide +kernel
theorem dX7_firstRule_16 : decode cX7_firstRule 16 = .ok (.iconst 0, 1) := by decide +kernel
theorem dX7_firstRule_17 : decode cX7_firstRule 17 = .ok (.istore_n 2, 1) := by decide +kernel
theorem dX7_firstRule_18 : decode cX7_firstRule 18 = .ok (.iload_n 2, 1) := by decide +kernel
theorem dX7_firstRule_19 : decode cX7_firstRule 19 = .ok (.ldc 82, 2) := by decide +kernel
theorem dX7_firstRule_21 : decode cX7_firstRule 21 = .ok (.invokevirtual 84, 3) := by decide +kernel
theorem dX7_firstRule_24 : decode cX7_firstRule 24 = .ok (.if_icmp .ge 19, 3) := by decide +kernel
theorem dX7_firstRule_27 : decode cX7_firstRule 27 = .ok (.aload_n 0, 1) := by decide +kernel
theorem dX7_firstRule_28 : decode cX7_firstRule 28 = .ok (.ldc 82, 2) := by decide +kernel
theorem dX7_firstRule_30 : decode cX7_firstRule 30 = .ok (.iload_n 2, 1) := by decide +kernel
theorem dX7_firstRule_31 : decode cX7_firstRule 31 = .ok (.invokevirtual 90, 3) := by decide +kernel
theorem dX7_firstRule_34 : decode cX7_firstRule 34 = .ok (.invokevirtual 94, 3) := by decide +kernel
theorem dX7_firstRule_37 : decode cX7_firstRule 37 = .ok (.iinc 2 1, 3) := by decide +kernel
theorem dX7_firstRule_40 : decode cX7_firstRule 40 = .ok (.goto (-22), 3) := by decide +kernel
theorem dX7_firstRule_43 : decode cX7_firstRule 43 = .ok (.aload_n 0, 1) := by decide +kernel
theorem dX7_firstRule_44 : decode cX7_firstRule 44 = .ok (.aload_n 1, 1) := by decide +kernel
theorem dX7_firstRule_45 : decode cX7_firstRule 45 = .ok (.invokevirtual 98, 3) := by decide +kernel
theorem dX7_firstRule_48 : decode cX7_firstRule 48 = .ok (.pop, 1) := by decide +kernel
theorem dX7_firstRule_49 : decode cX7_firstRule 49 = .ok (.aload_n 1, 1) := by decide +kernel
theorem dX7_firstRule_50 : decode cX7_firstRule 50 = .ok (.areturn, 1) := by decide +kernel
theorem dX7_people_0 : decode cX7_people 0 = .ok (.aload_n 0, 1) := by decide +kernel
theorem dX7_people_1 : decode cX7_people 1 = .ok (.getfield 10, 3) := by decide +kernel
theorem dX7_people_4 : decode cX7_people 4 = .ok (.iload_n 1, 1) := by decide +kernel
theorem dX7_people_5 : decode cX7_people 5 = .ok (.iload_n 2, 1) := by decide +kernel
theorem dX7_people_6 : decode cX7_people 6 = .ok (.invokevirtual 102, 3) := by decide +kernel
theorem dX7_people_9 : decode cX7_people 9 = .ok (.ireturn, 1) := by decide +kernel
theorem dX7_car_0 : decode cX7_car 0 = .ok (.iload_n 1, 1) := by decide +kernel
theorem dX7_car_1 : decode cX7_car 1 = .ok (.iconst 1, 1) := by decide +kernel
theorem dX7_car_2 : decode cX7_car 2 = .ok (.bipush 60, 2) := by decide +kernel
theorem dX7_car_4 : decode cX7_car 4 = .ok (.invokestatic 106, 3) := by decide +kernel
theorem dX7_car_7 : decode cX7_car 7 = .ok (.ifCond .eq 20, 3) := by decide +kernel
theorem dX7_car_10 : decode cX7_car 10 = .ok (.iload_n 2, 1) := by decide +kernel
theorem dX7_car_11 : decode cX7_car 11 = .ok (.iconst 1, 1) := by decide +kernel
theorem dX7_car_12 : decode cX7_car 12 = .ok (.bipush 30, 2) := by decide +kernel
theorem dX7_car_14 : decode cX7_car 14 = .ok (.invokestatic 106, 3) := by decide +kernel
theorem dX7_car_17 : decode cX7_car 17 = .ok (.ifCond .eq 10, 3) := by decide +kernel
theorem dX7_car_20 : decode cX7_car 20 = .ok (.iload_n 3, 1) := by decide +kernel
theorem dX7_car_21 : decode cX7_car 21 = .ok (.invokestatic 110, 3) := by decide +kernel
theorem dX7_car_24 : decode cX7_car 24 = .ok (.ifCond .ne 6, 3) := by decide +kernel
theorem dX7_car_27 : decode cX7_car 27 = .ok (.bipush (-2), 2) := by decide +kernel
theorem dX7_car_29 : decode cX7_car 29 = .ok (.ireturn, 1) := by decide +kernel
theorem dX7_car_30 : decode cX7_car 30 = .ok (.aload_n 0, 1) := by decide +kernel
theorem dX7_car_31 : decode cX7_car 31 = .ok (.getfield 26, 3) := by decide +kernel
theorem dX7_car_34 : decode cX7_car 34 = .ok (.iload_n 1, 1) := by decide +kernel
theorem dX7_car_35 : decode cX7_car 35 = .ok (.iload_n 2, 1) := by decide +kernel
theorem dX7_car_36 : decode cX7_car 36 = .ok (.iload_n 3, 1) := by decide +kernel
theorem dX7_car_37 : decode cX7_car 37 = .ok (.invokevirtual 114, 3) := by decide +kernel
theorem dX7_car_40 : decode cX7_car 40 = .ok (.ireturn, 1) := by decide +kernel
theorem dX7_way_0 : decode cX7_way 0 = .ok (.iload_n 1, 1) := by decide +kernel
theorem dX7_way_1 : decode cX7_way 1 = .ok (.iconst 0, 1) := by decide +kernel
theorem dX7_way_2 : decode cX7_way 2 = .ok (.iconst 5, 1) := by decide +kernel
theorem dX7_way_3 : decode cX7_way 3 = .ok (.invokestatic 106, 3) := by decide +kernel
theorem dX7_way_6 : decode cX7_way 6 = .ok (.ifCond .eq 20, 3) := by decide +kernel
theorem dX7_way_9 : decode cX7_way 9 = .ok (.iload_n 2, 1) := by decide +kernel
theorem dX7_way_10 : decode cX7_way 10 = .ok (.invokestatic 110, 3) := by decide +kernel
theorem dX7_way_13 : decode cX7_way 13 = .ok (.ifCond .eq 13, 3) := by decide +kernel
theorem dX7_way_16 : decode cX7_way 16 = .ok (.iload_n 3, 1) := by decide +kernel
theorem dX7_way_17 : decode cX7_way 17 = .ok (.iconst 0, 1) := by decide +kernel
theorem dX7_way_18 : decode cX7_way 18 = .ok (.bipush 9, 2) := by decide +kernel
theorem dX7_way_20 : decode cX7_way 20 = .ok (.invokestatic 106, 3) := by decide +kernel
theorem dX7_way_23 : decode cX7_way 23 = .ok (.ifCond .ne 6, 3) := by decide +kernel
theorem dX7_way_26 : decode cX7_way 26 = .ok (.bipush (-2), 2) := by decide +kernel
theorem dX7_way_28 : decode cX7_way 28 = .ok (.ireturn, 1) := by decide +kernel
theorem dX7_way_29 : decode cX7_way 29 = .ok (.aload_n 0, 1) := by decide +kernel
theorem dX7_way_30 : decode cX7_way 30 = .ok (.getfield 36, 3) := by decide +kernel
theorem dX7_way_33 : decode cX7_way 33 = .ok (.bipush 8, 2) := by decide +kernel
theorem dX7_way_35 : decode cX7_way 35 = .ok (.if_icmp .lt 6, 3) := by decide +kernel
theorem dX7_way_38 : decode cX7_way 38 = .ok (.bipush (-4), 2) := by decide +kernel
theorem dX7_way_40 : decode cX7_way 40 = .ok (.ireturn, 1) := by decide +kernel
theorem dX7_way_41 : decode cX7_way 41 = .ok (.aload_n 0, 1) := by decide +kernel
theorem dX7_way_42 : decode cX7_way 42 = .ok (.getfield 32, 3) := by decide +kernel
theorem dX7_way_45 : decode cX7_way 45 = .ok (.aload_n 0, 1) := by decide +kernel
theorem dX7_way_46 : decode cX7_way 46 = .ok (.getfield 36, 3) := by decide +kernel
theorem dX7_way_49 : decode cX7_way 49 = .ok (.new 30, 3) := by decide +kernel
theorem dX7_way_52 : decode cX7_way 52 = .ok (.dup, 1) := by decide +kernel
theorem dX7_way_53 : decode cX7_way 53 = .ok (.iload_n 1, 1) := by decide +kernel
theorem dX7_way_54 : decode cX7_way 54 = .ok (.iload_n 2, 1) := by decide +kernel
theorem dX7_way_55 : decode cX7_way 55 = .ok (.iload_n 3, 1) := by decide +kernel
theorem dX7_way_56 : decode cX7_way 56 = .ok (.invokespecial 40, 3) := by decide +kernel
theorem dX7_way_59 : decode cX7_way 59 = .ok (.aastore, 1) := by decide +kernel
theorem dX7_way_60 : decode cX7_way 60 = .ok (.aload_n 0, 1) := by decide +kernel
theorem dX7_way_61 : decode cX7_way 61 = .ok (.dup, 1) := by decide +kernel
theorem dX7_way_62 : decode cX7_way 62 = .ok (.getfield 36, 3) := by decide +kernel
theorem dX7_way_65 : decode cX7_way 65 = .ok (.dup_x1, 1) := by decide +kernel
theorem dX7_way_66 : decode cX7_way 66 = .ok (.iconst 1, 1) := by decide +kernel
theorem dX7_way_67 : decode cX7_way 67 = .ok (.iadd, 1) := by decide +kernel
theorem dX7_way_68 : decode cX7_way 68 = .ok (.putfield 36, 3) := by decide +kernel
theorem dX7_way_71 : decode cX7_way 71 = .ok (.ireturn, 1) := by decide +kernel
theorem dX7_set_0 : decode cX7_set 0 = .ok (.iload_n 1, 1) := by decide +kernel
theorem dX7_set_1 : decode cX7_set 1 = .ok (.iload_n 3, 1) := by decide +kernel
theorem dX7_set_2 : decode cX7_set 2 = .ok (.invokestatic 118, 3) := by decide +kernel
theorem dX7_set_5 : decode cX7_set 5 = .ok (.ifCond .ne 6, 3) := by decide +kernel
theorem dX7_set_8 : decode cX7_set 8 = .ok (.bipush (-2), 2) := by decide +kernel
theorem dX7_set_10 : decode cX7_set 10 = .ok (.ireturn, 1) := by decide +kernel
theorem dX7_set_11 : decode cX7_set 11 = .ok (.iload_n 1, 1) := by decide +kernel
theorem dX7_set_12 : decode cX7_set 12 = .ok (.iconst 5, 1) := by decide +kernel
theorem dX7_set_13 : decode cX7_set 13 = .ok (.if_icmp .ne 23, 3) := by decide +kernel
theorem dX7_set_16 : decode cX7_set 16 = .ok (.aload_n 0, 1) := by decide +kernel
theorem dX7_set_17 : decode cX7_set 17 = .ok (.getfield 10, 3) := by decide +kernel
theorem dX7_set_20 : decode cX7_set 20 = .ok (.getfield 122, 3) := by decide +kernel
theorem dX7_set_23 : decode cX7_set 23 = .ok (.istore 4, 2) := by decide +kernel
theorem dX7_set_25 : decode cX7_set 25 = .ok (.aload_n 0, 1) := by decide +kernel
theorem dX7_set_26 : decode cX7_set 26 = .ok (.getfield 10, 3) := by decide +kernel
theorem dX7_set_29 : decode cX7_set 29 = .ok (.iload_n 3, 1) := by decide +kernel
theorem dX7_set_30 : decode cX7_set 30 = .ok (.putfield 122, 3) := by decide +kernel
theorem dX7_set_33 : decode cX7_set 33 = .ok (.iload 4, 2) := by decide +kernel
theorem dX7_set_35 : decode cX7_set 35 = .ok (.ireturn, 1) := by decide +kernel
theorem dX7_set_36 : decode cX7_set 36 = .ok (.aload_n 0, 1) := by decide +kernel
theorem dX7_set_37 : decode cX7_set 37 = .ok (.getfield 10, 3) := by decide +kernel
theorem dX7_set_40 : decode cX7_set 40 = .ok (.iload_n 1, 1) := by decide +kernel
theorem dX7_set_41 : decode cX7_set 41 = .ok (.invokevirtual 125, 3) := by decide +kernel
theorem dX7_set_44 : decode cX7_set 44 = .ok (.astore 4, 2) := by decide +kernel
theorem dX7_set_46 : decode cX7_set 46 = .ok (.aload 4, 2) := by decide +kernel
theorem dX7_set_48 : decode cX7_set 48 = .ok (.ifnull 21, 3) := by decide +kernel
theorem dX7_set_51 : decode cX7_set 51 = .ok (.iload_n 2, 1) := by decide +kernel
theorem dX7_set_52 : decode cX7_set 52 = .ok (.iconst 0, 1) := by decide +kernel
theorem dX7_set_53 : decode cX7_set 53 = .ok (.aload_n 0, 1) := by decide +kernel
theorem dX7_set_54 : decode cX7_set 54 = .ok (.getfield 10, 3) := by decide +kernel
theorem dX7_set_57 : decode cX7_set 57 = .ok (.iload_n 1, 1) := by decide +kernel
theorem dX7_set_58 : decode cX7_set 58 = .ok (.invokevirtual 129, 3) := by decide +kernel
theorem dX7_set_61 : decode cX7_set 61 = .ok (.iconst 1, 1) := by decide +kernel
theorem dX7_set_62 : decode cX7_set 62 = .ok (.isub, 1) := by decide +kernel
theorem dX7_set_63 : decode cX7_set 63 = .ok (.invokestatic 106, 3) := by decide +kernel
theorem dX7_set_66 : decode cX7_set 66 = .ok (.ifCond .ne 6, 3) := by decide +kernel
theorem dX7_set_69 : decode cX7_set 69 = .ok (.bipush (-2), 2) := by decide +kernel
theorem dX7_set_71 : decode cX7_set 71 = .ok (.ireturn, 1) := by decide +kernel
theorem dX7_set_72 : decode cX7_set 72 = .ok (.aload 4, 2) := by decide +kernel
theorem dX7_set_74 : decode cX7_set 74 = .ok (.iload_n 2, 1) := by decide +kernel
theorem dX7_set_75 : decode cX7_set 75 = .ok (.iaload, 1) := by decide +kernel
theorem dX7_set_76 : decode cX7_set 76 = .ok (.istore 5, 2) := by decide +kernel
theorem dX7_set_78 : decode cX7_set 78 = .ok (.aload 4, 2) := by decide +kernel
theorem dX7_set_80 : decode cX7_set 80 = .ok (.iload_n 2, 1) := by decide +kernel
theorem dX7_set_81 : decode cX7_set 81 = .ok (.iload_n 3, 1) := by decide +kernel
theorem dX7_set_82 : decode cX7_set 82 = .ok (.iastore, 1) := by decide +kernel
theorem dX7_set_83 : decode cX7_set 83 = .ok (.iload 5, 2) := by decide +kernel
theorem dX7_set_85 : decode cX7_set 85 = .ok (.ireturn, 1) := by decide +kernel
theorem dX7_shut_0 : decode cX7_shut 0 = .ok (.iload_n 1, 1) := by decide +kernel
theorem dX7_shut_1 : decode cX7_shut 1 = .ok (.iconst (-1), 1) := by decide +kernel
theorem dX7_shut_2 : decode cX7_shut 2 = .ok (.if_icmp .eq 25, 3) := by decide +kernel
theorem dX7_shut_5 : decode cX7_shut 5 = .ok (.iload_n 1, 1) := by decide +kernel
theorem dX7_shut_6 : decode cX7_shut 6 = .ok (.invokestatic 110, 3) := by decide +kernel
theorem dX7_shut_9 : decode cX7_shut 9 = .ok (.ifCond .eq 15, 3) := by decide +kernel
theorem dX7_shut_12 : decode cX7_shut 12 = .ok (.iload_n 2, 1) := by decide +kernel
theorem dX7_shut_13 : decode cX7_shut 13 = .ok (.invokestatic 110, 3) := by decide +kernel
theorem dX7_shut_16 : decode cX7_shut 16 = .ok (.ifCond .eq 8, 3) := by decide +kernel
theorem dX7_shut_19 : decode cX7_shut 19 = .ok (.iload_n 2, 1) := by decide +kernel
theorem dX7_shut_20 : decode cX7_shut 20 = .ok (.iload_n 1, 1) := by decide +kernel
theorem dX7_shut_21 : decode cX7_shut 21 = .ok (.if_icmp .ge 6, 3) := by decide +kernel
theorem dX7_shut_24 : decode cX7_shut 24 = .ok (.bipush (-2), 2) := by decide +kernel
theorem dX7_shut_26 : decode cX7_shut 26 = .ok (.ireturn, 1) := by decide +kernel
theorem dX7_shut_27 : decode cX7_shut 27 = .ok (.aload_n 0, 1) := by decide +kernel
theorem dX7_shut_28 : decode cX7_shut 28 = .ok (.getfield 10, 3) := by decide +kernel
theorem dX7_shut_31 : decode cX7_shut 31 = .ok (.iload_n 1, 1) := by decide +kernel
theorem dX7_shut_32 : decode cX7_shut 32 = .ok (.putfield 133, 3) := by decide +kernel
theorem dX7_shut_35 : decode cX7_shut 35 = .ok (.aload_n 0, 1) := by decide +kernel
theorem dX7_shut_36 : decode cX7_shut 36 = .ok (.getfield 10, 3) := by decide +kernel
theorem dX7_shut_39 : decode cX7_shut 39 = .ok (.iload_n 2, 1) := by decide +kernel
theorem dX7_shut_40 : decode cX7_shut 40 = .ok (.putfield 136, 3) := by decide +kernel
theorem dX7_shut_43 : decode cX7_shut 43 = .ok (.iconst 1, 1) := by decide +kernel
theorem dX7_shut_44 : decode cX7_shut 44 = .ok (.ireturn, 1) := by decide +kernel
theorem dX7_told_0 : decode cX7_told 0 = .ok (.aload_n 0, 1) := by decide +kernel
theorem dX7_told_1 : decode cX7_told 1 = .ok (.iload_n 1, 1) := by decide +kernel
theorem dX7_told_2 : decode cX7_told 2 = .ok (.invokevirtual 139, 3) := by decide +kernel
theorem dX7_told_5 : decode cX7_told 5 = .ok (.astore 4, 2) := by decide +kernel
theorem dX7_told_7 : decode cX7_told 7 = .ok (.aload 4, 2) := by decide +kernel
theorem dX7_told_9 : decode cX7_told 9 = .ok (.ifnull 10, 3) := by decide +kernel
theorem dX7_told_12 : decode cX7_told 12 = .ok (.iload_n 2, 1) := by decide +kernel
theorem dX7_told_13 : decode cX7_told 13 = .ok (.invokestatic 110, 3) := by decide +kernel
theorem dX7_told_16 : decode cX7_told 16 = .ok (.ifCond .ne 6, 3) := by decide +kernel
theorem dX7_told_19 : decode cX7_told 19 = .ok (.bipush (-2), 2) := by decide +kernel
theorem dX7_told_21 : decode cX7_told 21 = .ok (.ireturn, 1) := by decide +kernel
theorem dX7_told_22 : decode cX7_told 22 = .ok (.iload_n 3, 1) := by decide +kernel
theorem dX7_told_23 : decode cX7_told 23 = .ok (.tableswitch 75 0 4 #[33, 39, 45, 51, 63], 33) := by decide +kernel
theorem dX7_told_56 : decode cX7_told 56 = .ok (.aload 4, 2) := by decide +kernel
theorem dX7_told_58 : decode cX7_told 58 = .ok (.getfield 143, 3) := by decide +kernel
theorem dX7_told_61 : decode cX7_told 61 = .ok (.ireturn, 1) := by decide +kernel
theorem dX7_told_62 : decode cX7_told 62 = .ok (.aload 4, 2) := by decide +kernel
theorem dX7_told_64 : decode cX7_told 64 = .ok (.getfield 146, 3) := by decide +kernel
theorem dX7_told_67 : decode cX7_told 67 = .ok (.ireturn, 1) := by decide +kernel
theorem dX7_told_68 : decode cX7_told 68 = .ok (.aload 4, 2) := by decide +kernel
theorem dX7_told_70 : decode cX7_told 70 = .ok (.getfield 149, 3) := by decide +kernel
theorem dX7_told_73 : decode cX7_told 73 = .ok (.ireturn, 1) := by decide +kernel
theorem dX7_told_74 : decode cX7_told 74 = .ok (.aload 4, 2) := by decide +kernel
theorem dX7_told_76 : decode cX7_told 76 = .ok (.iload_n 2, 1) := by decide +kernel
theorem dX7_told_77 : decode cX7_told 77 = .ok (.aload 4, 2) := by decide +kernel
theorem dX7_told_79 : decode cX7_told 79 = .ok (.getfield 146, 3) := by decide +kernel
theorem dX7_told_82 : decode cX7_told 82 = .ok (.invokevirtual 152, 3) := by decide +kernel
theorem dX7_told_85 : decode cX7_told 85 = .ok (.ireturn, 1) := by decide +kernel
theorem dX7_told_86 : decode cX7_told 86 = .ok (.aload 4, 2) := by decide +kernel
theorem dX7_told_88 : decode cX7_told 88 = .ok (.iload_n 2, 1) := by decide +kernel
theorem dX7_told_89 : decode cX7_told 89 = .ok (.aload 4, 2) := by decide +kernel
theorem dX7_told_91 : decode cX7_told 91 = .ok (.getfield 146, 3) := by decide +kernel
theorem dX7_told_94 : decode cX7_told 94 = .ok (.invokevirtual 155, 3) := by decide +kernel
theorem dX7_told_97 : decode cX7_told 97 = .ok (.ireturn, 1) := by decide +kernel
theorem dX7_told_98 : decode cX7_told 98 = .ok (.bipush (-2), 2) := by decide +kernel
theorem dX7_told_100 : decode cX7_told 100 = .ok (.ireturn, 1) := by decide +kernel
theorem dX7_feed_0 : decode cX7_feed 0 = .ok (.iload_n 1, 1) := by decide +kernel
theorem dX7_feed_1 : decode cX7_feed 1 = .ok (.iconst 1, 1) := by decide +kernel
theorem dX7_feed_2 : decode cX7_feed 2 = .ok (.bipush 8, 2) := by decide +kernel
theorem dX7_feed_4 : decode cX7_feed 4 = .ok (.invokestatic 106, 3) := by decide +kernel
theorem dX7_feed_7 : decode cX7_feed 7 = .ok (.ifCond .ne 6, 3) := by decide +kernel
theorem dX7_feed_10 : decode cX7_feed 10 = .ok (.bipush (-2), 2) := by decide +kernel
theorem dX7_feed_12 : decode cX7_feed 12 = .ok (.ireturn, 1) := by decide +kernel
theorem dX7_feed_13 : decode cX7_feed 13 = .ok (.aload_n 0, 1) := by decide +kernel
theorem dX7_feed_14 : decode cX7_feed 14 = .ok (.getfield 50, 3) := by decide +kernel
theorem dX7_feed_17 : decode cX7_feed 17 = .ok (.getfield 158, 3) := by decide +kernel
theorem dX7_feed_20 : decode cX7_feed 20 = .ok (.iload_n 1, 1) := by decide +kernel
theorem dX7_feed_21 : decode cX7_feed 21 = .ok (.iadd, 1) := by decide +kernel
theorem dX7_feed_22 : decode cX7_feed 22 = .ok (.sipush 160, 3) := by decide +kernel
theorem dX7_feed_25 : decode cX7_feed 25 = .ok (.if_icmp .le 6, 3) := by decide +kernel
theorem dX7_feed_28 : decode cX7_feed 28 = .ok (.bipush (-4), 2) := by decide +kernel
theorem dX7_feed_30 : decode cX7_feed 30 = .ok (.ireturn, 1) := by decide +kernel
theorem dX7_feed_31 : decode cX7_feed 31 = .ok (.iconst 0, 1) := by decide +kernel
theorem dX7_feed_32 : decode cX7_feed 32 = .ok (.istore 4, 2) := by decide +kernel
theorem dX7_feed_34 : decode cX7_feed 34 = .ok (.iload 4, 2) := by decide +kernel
theorem dX7_feed_36 : decode cX7_feed 36 = .ok (.iload_n 1, 1) := by decide +kernel
theorem dX7_feed_37 : decode cX7_feed 37 = .ok (.if_icmp .ge 28, 3) := by decide +kernel
theorem dX7_feed_40 : decode cX7_feed 40 = .ok (.aload_n 0, 1) := by decide +kernel
theorem dX7_feed_41 : decode cX7_feed 41 = .ok (.getfield 50, 3) := by decide +kernel
theorem dX7_feed_44 : decode cX7_feed 44 = .ok (.lload_n 2, 1) := by decide +kernel
theorem dX7_feed_45 : decode cX7_feed 45 = .ok (.bipush 8, 2) := by decide +kernel
theorem dX7_feed_47 : decode cX7_feed 47 = .ok (.iload 4, 2) := by decide +kernel
theorem dX7_feed_49 : decode cX7_feed 49 = .ok (.imul, 1) := by decide +kernel
theorem dX7_feed_50 : decode cX7_feed 50 = .ok (.lushr, 1) := by decide +kernel
theorem dX7_feed_51 : decode cX7_feed 51 = .ok (.l2i, 1) := by decide +kernel
theorem dX7_feed_52 : decode cX7_feed 52 = .ok (.sipush 255, 3) := by decide +kernel
theorem dX7_feed_55 : decode cX7_feed 55 = .ok (.iand, 1) := by decide +kernel
theorem dX7_feed_56 : decode cX7_feed 56 = .ok (.invokevirtual 94, 3) := by decide +kernel
theorem dX7_feed_59 : decode cX7_feed 59 = .ok (.iinc 4 1, 3) := by decide +kernel
theorem dX7_feed_62 : decode cX7_feed 62 = .ok (.goto (-28), 3) := by decide +kernel
theorem dX7_feed_65 : decode cX7_feed 65 = .ok (.aload_n 0, 1) := by decide +kernel
theorem dX7_feed_66 : decode cX7_feed 66 = .ok (.getfield 50, 3) := by decide +kernel
theorem dX7_feed_69 : decode cX7_feed 69 = .ok (.getfield 158, 3) := by decide +kernel
theorem dX7_feed_72 : decode cX7_feed 72 = .ok (.ireturn, 1) := by decide +kernel
theorem dX7_text_0 : decode cX7_text 0 = .ok (.aload_n 0, 1) := by decide +kernel
theorem dX7_text_1 : decode cX7_text 1 = .ok (.getfield 60, 3) := by decide +kernel
theorem dX7_text_4 : decode cX7_text 4 = .ok (.bipush 6, 2) := by decide +kernel
theorem dX7_text_6 : decode cX7_text 6 = .ok (.if_icmp .lt 6, 3) := by decide +kernel
theorem dX7_text_9 : decode cX7_text 9 = .ok (.bipush (-4), 2) := by decide +kernel
theorem dX7_text_11 : decode cX7_text 11 = .ok (.ireturn, 1) := by decide +kernel
theorem dX7_text_12 : decode cX7_text 12 = .ok (.aload_n 0, 1) := by decide +kernel
theorem dX7_text_13 : decode cX7_text 13 = .ok (.getfield 50, 3) := by decide +kernel
theorem dX7_text_16 : decode cX7_text 16 = .ok (.aload_n 0, 1) := by decide +kernel
theorem dX7_text_17 : decode cX7_text 17 = .ok (.getfield 56, 3) := by decide +kernel
theorem dX7_text_20 : decode cX7_text 20 = .ok (.aload_n 0, 1) := by decide +kernel
theorem dX7_text_21 : decode cX7_text 21 = .ok (.getfield 60, 3) := by decide +kernel
theorem dX7_text_24 : decode cX7_text 24 = .ok (.aaload, 1) := by decide +kernel
theorem dX7_text_25 : decode cX7_text 25 = .ok (.invokevirtual 98, 3) := by decide +kernel
theorem dX7_text_28 : decode cX7_text 28 = .ok (.istore_n 1, 1) := by decide +kernel
theorem dX7_text_29 : decode cX7_text 29 = .ok (.aload_n 0, 1) := by decide +kernel
theorem dX7_text_30 : decode cX7_text 30 = .ok (.getfield 50, 3) := by decide +kernel
theorem dX7_text_33 : decode cX7_text 33 = .ok (.invokevirtual 161, 3) := by decide +kernel
theorem dX7_text_36 : decode cX7_text 36 = .ok (.iload_n 1, 1) := by decide +kernel
theorem dX7_text_37 : decode cX7_text 37 = .ok (.iconst (-1), 1) := by decide +kernel
theorem dX7_text_38 : decode cX7_text 38 = .ok (.if_icmp .eq 8, 3) := by decide +kernel
theorem dX7_text_41 : decode cX7_text 41 = .ok (.bipush (-100), 2) := by decide +kernel
theorem dX7_text_43 : decode cX7_text 43 = .ok (.iload_n 1, 1) := by decide +kernel
theorem dX7_text_44 : decode cX7_text 44 = .ok (.isub, 1) := by decide +kernel
theorem dX7_text_45 : decode cX7_text 45 = .ok (.ireturn, 1) := by decide +kernel
theorem dX7_text_46 : decode cX7_text 46 = .ok (.aload_n 0, 1) := by decide +kernel
theorem dX7_text_47 : decode cX7_text 47 = .ok (.dup, 1) := by decide +kernel
theorem dX7_text_48 : decode cX7_text 48 = .ok (.getfield 60, 3) := by decide +kernel
theorem dX7_text_51 : decode cX7_text 51 = .ok (.dup_x1, 1) := by decide +kernel
theorem dX7_text_52 : decode cX7_text 52 = .ok (.iconst 1, 1) := by decide +kernel
theorem dX7_text_53 : decode cX7_text 53 = .ok (.iadd, 1) := by decide +kernel
theorem dX7_text_54 : decode cX7_text 54 = .ok (.putfield 60, 3) := by decide +kernel
theorem dX7_text_57 : decode cX7_text 57 = .ok (.ireturn, 1) := by decide +kernel
theorem dX7_force_0 : decode cX7_force 0 = .ok (.iload_n 1, 1) := by decide +kernel
theorem dX7_force_1 : decode cX7_force 1 = .ok (.iconst 0, 1) := by decide +kernel
theorem dX7_force_2 : decode cX7_force 2 = .ok (.aload_n 0, 1) := by decide +kernel
theorem dX7_force_3 : decode cX7_force 3 = .ok (.getfield 60, 3) := by decide +kernel
theorem dX7_force_6 : decode cX7_force 6 = .ok (.iconst 1, 1) := by decide +kernel
theorem dX7_force_7 : decode cX7_force 7 = .ok (.isub, 1) := by decide +kernel
theorem dX7_force_8 : decode cX7_force 8 = .ok (.invokestatic 106, 3) := by decide +kernel
theorem dX7_force_11 : decode cX7_force 11 = .ok (.ifCond .ne 6, 3) := by decide +kernel
theorem dX7_force_14 : decode cX7_force 14 = .ok (.bipush (-2), 2) := by decide +kernel
theorem dX7_force_16 : decode cX7_force 16 = .ok (.ireturn, 1) := by decide +kernel
theorem dX7_force_17 : decode cX7_force 17 = .ok (.aload_n 0, 1) := by decide +kernel
theorem dX7_force_18 : decode cX7_force 18 = .ok (.getfield 10, 3) := by decide +kernel
theorem dX7_force_21 : decode cX7_force 21 = .ok (.getfield 164, 3) := by decide +kernel
theorem dX7_force_24 : decode cX7_force 24 = .ok (.istore_n 2, 1) := by decide +kernel
theorem dX7_force_25 : decode cX7_force 25 = .ok (.aload_n 0, 1) := by decide +kernel
theorem dX7_force_26 : decode cX7_force 26 = .ok (.getfield 10, 3) := by decide +kernel
theorem dX7_force_29 : decode cX7_force 29 = .ok (.iload_n 1, 1) := by decide +kernel
theorem dX7_force_30 : decode cX7_force 30 = .ok (.putfield 164, 3) := by decide +kernel
theorem dX7_force_33 : decode cX7_force 33 = .ok (.iload_n 2, 1) := by decide +kernel
theorem dX7_force_34 : decode cX7_force 34 = .ok (.ireturn, 1) := by decide +kernel
theorem dX7_left_0 : decode cX7_left 0 = .ok (.aload_n 0, 1) := by decide +kernel
theorem dX7_left_1 : decode cX7_left 1 = .ok (.iload_n 1, 1) := by decide +kernel
theorem dX7_left_2 : decode cX7_left 2 = .ok (.invokevirtual 139, 3) := by decide +kernel
theorem dX7_left_5 : decode cX7_left 5 = .ok (.astore_n 3, 1) := by decide +kernel
theorem dX7_left_6 : decode cX7_left 6 = .ok (.aload_n 3, 1) := by decide +kernel
theorem dX7_left_7 : decode cX7_left 7 = .ok (.ifnull 11, 3) := by decide +kernel
theorem dX7_left_10 : decode cX7_left 10 = .ok (.aload_n 0, 1) := by decide +kernel
theorem dX7_left_11 : decode cX7_left 11 = .ok (.iload_n 2, 1) := by decide +kernel
theorem dX7_left_12 : decode cX7_left 12 = .ok (.invokevirtual 167, 3) := by decide +kernel
theorem dX7_left_15 : decode cX7_left 15 = .ok (.ifCond .ne 6, 3) := by decide +kernel
theorem dX7_left_18 : decode cX7_left 18 = .ok (.bipush (-2), 2) := by decide +kernel
theorem dX7_left_20 : decode cX7_left 20 = .ok (.ireturn, 1) := by decide +kernel
theorem dX7_left_21 : decode cX7_left 21 = .ok (.aload_n 0, 1) := by decide +kernel
theorem dX7_left_22 : decode cX7_left 22 = .ok (.aload_n 3, 1) := by decide +kernel
theorem dX7_left_23 : decode cX7_left 23 = .ok (.invokevirtual 170, 3) := by decide +kernel
theorem dX7_left_26 : decode cX7_left 26 = .ok (.aload_n 0, 1) := by decide +kernel
theorem dX7_left_27 : decode cX7_left 27 = .ok (.getfield 72, 3) := by decide +kernel
theorem dX7_left_30 : decode cX7_left 30 = .ok (.aload_n 0, 1) := by decide +kernel
theorem dX7_left_31 : decode cX7_left 31 = .ok (.getfield 10, 3) := by decide +kernel
theorem dX7_left_34 : decode cX7_left 34 = .ok (.iload_n 2, 1) := by decide +kernel
theorem dX7_left_35 : decode cX7_left 35 = .ok (.invokevirtual 174, 3) := by decide +kernel
theorem dX7_left_38 : decode cX7_left 38 = .ok (.ireturn, 1) := by decide +kernel
theorem dX7_harm_0 : decode cX7_harm 0 = .ok (.aload_n 0, 1) := by decide +kernel
theorem dX7_harm_1 : decode cX7_harm 1 = .ok (.iload_n 1, 1) := by decide +kernel
theorem dX7_harm_2 : decode cX7_harm 2 = .ok (.invokevirtual 139, 3) := by decide +kernel
theorem dX7_harm_5 : decode cX7_harm 5 = .ok (.astore_n 2, 1) := by decide +kernel
theorem dX7_harm_6 : decode cX7_harm 6 = .ok (.aload_n 2, 1) := by decide +kernel
theorem dX7_harm_7 : decode cX7_harm 7 = .ok (.ifnonnull 7, 3) := by decide +kernel
theorem dX7_harm_10 : decode cX7_harm 10 = .ok (.ldc2_w 178, 3) := by decide +kernel
theorem dX7_harm_13 : decode cX7_harm 13 = .ok (.lreturn, 1) := by decide +kernel
theorem dX7_harm_14 : decode cX7_harm 14 = .ok (.aload_n 0, 1) := by decide +kernel
theorem dX7_harm_15 : decode cX7_harm 15 = .ok (.aload_n 2, 1) := by decide +kernel
theorem dX7_harm_16 : decode cX7_harm 16 = .ok (.invokevirtual 170, 3) := by decide +kernel
theorem dX7_harm_19 : decode cX7_harm 19 = .ok (.aload_n 0, 1) := by decide +kernel
theorem dX7_harm_20 : decode cX7_harm 20 = .ok (.getfield 72, 3) := by decide +kernel
theorem dX7_harm_23 : decode cX7_harm 23 = .ok (.aload_n 0, 1) := by decide +kernel
theorem dX7_harm_24 : decode cX7_harm 24 = .ok (.getfield 10, 3) := by decide +kernel
theorem dX7_harm_27 : decode cX7_harm 27 = .ok (.aload_n 0, 1) := by decide +kernel
theorem dX7_harm_28 : decode cX7_harm 28 = .ok (.getfield 56, 3) := by decide +kernel
theorem dX7_harm_31 : decode cX7_harm 31 = .ok (.aload_n 0, 1) := by decide +kernel
theorem dX7_harm_32 : decode cX7_harm 32 = .ok (.getfield 10, 3) := by decide +kernel
theorem dX7_harm_35 : decode cX7_harm 35 = .ok (.getfield 164, 3) := by decide +kernel
theorem dX7_harm_38 : decode cX7_harm 38 = .ok (.aaload, 1) := by decide +kernel
theorem dX7_harm_39 : decode cX7_harm 39 = .ok (.invokevirtual 180, 3) := by decide +kernel
theorem dX7_harm_42 : decode cX7_harm 42 = .ok (.lreturn, 1) := by decide +kernel
theorem dX7_rode_0 : decode cX7_rode 0 = .ok (.aload_n 0, 1) := by decide +kernel
theorem dX7_rode_1 : decode cX7_rode 1 = .ok (.iload_n 1, 1) := by decide +kernel
theorem dX7_rode_2 : decode cX7_rode 2 = .ok (.invokevirtual 139, 3) := by decide +kernel
theorem dX7_rode_5 : decode cX7_rode 5 = .ok (.astore_n 3, 1) := by decide +kernel
theorem dX7_rode_6 : decode cX7_rode 6 = .ok (.aload_n 3, 1) := by decide +kernel
theorem dX7_rode_7 : decode cX7_rode 7 = .ok (.ifnull 20, 3) := by decide +kernel
theorem dX7_rode_10 : decode cX7_rode 10 = .ok (.iload_n 2, 1) := by decide +kernel
theorem dX7_rode_11 : decode cX7_rode 11 = .ok (.iconst (-1), 1) := by decide +kernel
theorem dX7_rode_12 : decode cX7_rode 12 = .ok (.aload_n 0, 1) := by decide +kernel
theorem dX7_rode_13 : decode cX7_rode 13 = .ok (.getfield 26, 3) := by decide +kernel
theorem dX7_rode_16 : decode cX7_rode 16 = .ok (.getfield 184, 3) := by decide +kernel
theorem dX7_rode_19 : decode cX7_rode 19 = .ok (.iconst 1, 1) := by decide +kernel
theorem dX7_rode_20 : decode cX7_rode 20 = .ok (.isub, 1) := by decide +kernel
theorem dX7_rode_21 : decode cX7_rode 21 = .ok (.invokestatic 106, 3) := by decide +kernel
theorem dX7_rode_24 : decode cX7_rode 24 = .ok (.ifCond .ne 6, 3) := by decide +kernel
theorem dX7_rode_27 : decode cX7_rode 27 = .ok (.bipush (-2), 2) := by decide +kernel
theorem dX7_rode_29 : decode cX7_rode 29 = .ok (.ireturn, 1) := by decide +kernel
theorem dX7_rode_30 : decode cX7_rode 30 = .ok (.aload_n 0, 1) := by decide +kernel
theorem dX7_rode_31 : decode cX7_rode 31 = .ok (.aload_n 3, 1) := by decide +kernel
theorem dX7_rode_32 : decode cX7_rode 32 = .ok (.invokevirtual 170, 3) := by decide +kernel
theorem dX7_rode_35 : decode cX7_rode 35 = .ok (.iload_n 2, 1) := by decide +kernel
theorem dX7_rode_36 : decode cX7_rode 36 = .ok (.iconst (-1), 1) := by decide +kernel
theorem dX7_rode_37 : decode cX7_rode 37 = .ok (.if_icmp .ne 17, 3) := by decide +kernel
theorem dX7_rode_40 : decode cX7_rode 40 = .ok (.aload_n 0, 1) := by decide +kernel
theorem dX7_rode_41 : decode cX7_rode 41 = .ok (.getfield 72, 3) := by decide +kernel
theorem dX7_rode_44 : decode cX7_rode 44 = .ok (.aload_n 0, 1) := by decide +kernel
theorem dX7_rode_45 : decode cX7_rode 45 = .ok (.getfield 10, 3) := by decide +kernel
theorem dX7_rode_48 : decode cX7_rode 48 = .ok (.invokevirtual 185, 3) := by decide +kernel
theorem dX7_rode_51 : decode cX7_rode 51 = .ok (.goto 12, 3) := by decide +kernel
theorem dX7_rode_54 : decode cX7_rode 54 = .ok (.aload_n 0, 1) := by decide +kernel
theorem dX7_rode_55 : decode cX7_rode 55 = .ok (.getfield 72, 3) := by decide +kernel
theorem dX7_rode_58 : decode cX7_rode 58 = .ok (.getfield 189, 3) := by decide +kernel
theorem dX7_rode_61 : decode cX7_rode 61 = .ok (.iload_n 2, 1) := by decide +kernel
theorem dX7_rode_62 : decode cX7_rode 62 = .ok (.iaload, 1) := by decide +kernel
theorem dX7_rode_63 : decode cX7_rode 63 = .ok (.ireturn, 1) := by decide +kernel
theorem dX7_waits_0 : decode cX7_waits 0 = .ok (.aload_n 0, 1) := by decide +kernel
theorem dX7_waits_1 : decode cX7_waits 1 = .ok (.iload_n 1, 1) := by decide +kernel
theorem dX7_waits_2 : decode cX7_waits 2 = .ok (.invokevirtual 139, 3) := by decide +kernel
theorem dX7_waits_5 : decode cX7_waits 5 = .ok (.astore_n 3, 1) := by decide +kernel
theorem dX7_waits_6 : decode cX7_waits 6 = .ok (.aload_n 3, 1) := by decide +kernel
theorem dX7_waits_7 : decode cX7_waits 7 = .ok (.ifnull 12, 3) := by decide +kernel
theorem dX7_waits_10 : decode cX7_waits 10 = .ok (.iload_n 2, 1) := by decide +kernel
theorem dX7_waits_11 : decode cX7_waits 11 = .ok (.iconst 0, 1) := by decide +kernel
theorem dX7_waits_12 : decode cX7_waits 12 = .ok (.iconst 1, 1) := by decide +kernel
theorem dX7_waits_13 : decode cX7_waits 13 = .ok (.invokestatic 106, 3) := by decide +kernel
theorem dX7_waits_16 : decode cX7_waits 16 = .ok (.ifCond .ne 6, 3) := by decide +kernel
theorem dX7_waits_19 : decode cX7_waits 19 = .ok (.bipush (-2), 2) := by decide +kernel
theorem dX7_waits_21 : decode cX7_waits 21 = .ok (.ireturn, 1) := by decide +kernel
theorem dX7_waits_22 : decode cX7_waits 22 = .ok (.aload_n 0, 1) := by decide +kernel
theorem dX7_waits_23 : decode cX7_waits 23 = .ok (.aload_n 3, 1) := by decide +kernel
theorem dX7_waits_24 : decode cX7_waits 24 = .ok (.invokevirtual 170, 3) := by decide +kernel
theorem dX7_waits_27 : decode cX7_waits 27 = .ok (.iload_n 2, 1) := by decide +kernel
theorem dX7_waits_28 : decode cX7_waits 28 = .ok (.ifCond .ne 13, 3) := by decide +kernel
theorem dX7_waits_31 : decode cX7_waits 31 = .ok (.aload_n 0, 1) := by decide +kernel
theorem dX7_waits_32 : decode cX7_waits 32 = .ok (.getfield 72, 3) := by decide +kernel
theorem dX7_waits_35 : decode cX7_waits 35 = .ok (.getfield 193, 3) := by decide +kernel
theorem dX7_waits_38 : decode cX7_waits 38 = .ok (.goto 10, 3) := by decide +kernel
theorem dX7_waits_41 : decode cX7_waits 41 = .ok (.aload_n 0, 1) := by decide +kernel
theorem dX7_waits_42 : decode cX7_waits 42 = .ok (.getfield 72, 3) := by decide +kernel
theorem dX7_waits_45 : decode cX7_waits 45 = .ok (.getfield 196, 3) := by decide +kernel
theorem dX7_waits_48 : decode cX7_waits 48 = .ok (.ireturn, 1) := by decide +kernel
theorem dX7_down_0 : decode cX7_down 0 = .ok (.aload_n 0, 1) := by decide +kernel
theorem dX7_down_1 : decode cX7_down 1 = .ok (.iload_n 1, 1) := by decide +kernel
theorem dX7_down_2 : decode cX7_down 2 = .ok (.invokevirtual 139, 3) := by decide +kernel
theorem dX7_down_5 : decode cX7_down 5 = .ok (.astore 4, 2) := by decide +kernel
theorem dX7_down_7 : decode cX7_down 7 = .ok (.aload 4, 2) := by decide +kernel
theorem dX7_down_9 : decode cX7_down 9 = .ok (.ifnull 28, 3) := by decide +kernel
theorem dX7_down_12 : decode cX7_down 12 = .ok (.aload_n 0, 1) := by decide +kernel
theorem dX7_down_13 : decode cX7_down 13 = .ok (.iload_n 2, 1) := by decide +kernel
theorem dX7_down_14 : decode cX7_down 14 = .ok (.invokevirtual 167, 3) := by decide +kernel
theorem dX7_down_17 : decode cX7_down 17 = .ok (.ifCond .eq 20, 3) := by decide +kernel
theorem dX7_down_20 : decode cX7_down 20 = .ok (.iload_n 3, 1) := by decide +kernel
theorem dX7_down_21 : decode cX7_down 21 = .ok (.iconst 0, 1) := by decide +kernel
theorem dX7_down_22 : decode cX7_down 22 = .ok (.aload_n 0, 1) := by decide +kernel
theorem dX7_down_23 : decode cX7_down 23 = .ok (.getfield 10, 3) := by decide +kernel
theorem dX7_down_26 : decode cX7_down 26 = .ok (.getfield 122, 3) := by decide +kernel
theorem dX7_down_29 : decode cX7_down 29 = .ok (.iconst 1, 1) := by decide +kernel
theorem dX7_down_30 : decode cX7_down 30 = .ok (.isub, 1) := by decide +kernel
theorem dX7_down_31 : decode cX7_down 31 = .ok (.invokestatic 106, 3) := by decide +kernel
theorem dX7_down_34 : decode cX7_down 34 = .ok (.ifCond .ne 6, 3) := by decide +kernel
theorem dX7_down_37 : decode cX7_down 37 = .ok (.bipush (-2), 2) := by decide +kernel
theorem dX7_down_39 : decode cX7_down 39 = .ok (.ireturn, 1) := by decide +kernel
theorem dX7_down_40 : decode cX7_down 40 = .ok (.aload_n 0, 1) := by decide +kernel
theorem dX7_down_41 : decode cX7_down 41 = .ok (.aload 4, 2) := by decide +kernel
theorem dX7_down_43 : decode cX7_down 43 = .ok (.invokevirtual 170, 3) := by decide +kernel
theorem dX7_down_46 : decode cX7_down 46 = .ok (.aload_n 0, 1) := by decide +kernel
theorem dX7_down_47 : decode cX7_down 47 = .ok (.getfield 72, 3) := by decide +kernel
theorem dX7_down_50 : decode cX7_down 50 = .ok (.aload_n 0, 1) := by decide +kernel
theorem dX7_down_51 : decode cX7_down 51 = .ok (.getfield 10, 3) := by decide +kernel
theorem dX7_down_54 : decode cX7_down 54 = .ok (.iload_n 2, 1) := by decide +kernel
theorem dX7_down_55 : decode cX7_down 55 = .ok (.iload_n 3, 1) := by decide +kernel
theorem dX7_down_56 : decode cX7_down 56 = .ok (.invokevirtual 199, 3) := by decide +kernel
theorem dX7_down_59 : decode cX7_down 59 = .ok (.ireturn, 1) := by decide +kernel
theorem dX7_behind_0 : decode cX7_behind 0 = .ok (.aload_n 0, 1) := by decide +kernel
theorem dX7_behind_1 : decode cX7_behind 1 = .ok (.iload_n 1, 1) := by decide +kernel
theorem dX7_behind_2 : decode cX7_behind 2 = .ok (.invokevirtual 139, 3) := by decide +kernel
theorem dX7_behind_5 : decode cX7_behind 5 = .ok (.astore_n 3, 1) := by decide +kernel
theorem dX7_behind_6 : decode cX7_behind 6 = .ok (.aload_n 3, 1) := by decide +kernel
theorem dX7_behind_7 : decode cX7_behind 7 = .ok (.ifnull 14, 3) := by decide +kernel
theorem dX7_behind_10 : decode cX7_behind 10 = .ok (.iload_n 2, 1) := by decide +kernel
theorem dX7_behind_11 : decode cX7_behind 11 = .ok (.iconst 0, 1) := by decide +kernel
theorem dX7_behind_12 : decode cX7_behind 12 = .ok (.sipush 2400, 3) := by decide +kernel
theorem dX7_behind_15 : decode cX7_behind 15 = .ok (.invokestatic 106, 3) := by decide +kernel
theorem dX7_behind_18 : decode cX7_behind 18 = .ok (.ifCond .ne 6, 3) := by decide +kernel
theorem dX7_behind_21 : decode cX7_behind 21 = .ok (.bipush (-2), 2) := by decide +kernel
theorem dX7_behind_23 : decode cX7_behind 23 = .ok (.ireturn, 1) := by decide +kernel
theorem dX7_behind_24 : decode cX7_behind 24 = .ok (.aload_n 0, 1) := by decide +kernel
theorem dX7_behind_25 : decode cX7_behind 25 = .ok (.aload_n 3, 1) := by decide +kernel
theorem dX7_behind_26 : decode cX7_behind 26 = .ok (.invokevirtual 170, 3) := by decide +kernel
theorem dX7_behind_29 : decode cX7_behind 29 = .ok (.iconst 0, 1) := by decide +kernel
theorem dX7_behind_30 : decode cX7_behind 30 = .ok (.istore 4, 2) := by decide +kernel
theorem dX7_behind_32 : decode cX7_behind 32 = .ok (.iload 4, 2) := by decide +kernel
theorem dX7_behind_34 : decode cX7_behind 34 = .ok (.aload_n 0, 1) := by decide +kernel
theorem dX7_behind_35 : decode cX7_behind 35 = .ok (.getfield 10, 3) := by decide +kernel
theorem dX7_behind_38 : decode cX7_behind 38 = .ok (.getfield 122, 3) := by decide +kernel
theorem dX7_behind_41 : decode cX7_behind 41 = .ok (.if_icmp .ge 30, 3) := by decide +kernel
theorem dX7_behind_44 : decode cX7_behind 44 = .ok (.aload_n 0, 1) := by decide +kernel
theorem dX7_behind_45 : decode cX7_behind 45 = .ok (.getfield 72, 3) := by decide +kernel
theorem dX7_behind_48 : decode cX7_behind 48 = .ok (.aload_n 0, 1) := by decide +kernel
theorem dX7_behind_49 : decode cX7_behind 49 = .ok (.getfield 10, 3) := by decide +kernel
theorem dX7_behind_52 : decode cX7_behind 52 = .ok (.iconst (-1), 1) := by decide +kernel
theorem dX7_behind_53 : decode cX7_behind 53 = .ok (.iload 4, 2) := by decide +kernel
theorem dX7_behind_55 : decode cX7_behind 55 = .ok (.invokevirtual 199, 3) := by decide +kernel
theorem dX7_behind_58 : decode cX7_behind 58 = .ok (.iload_n 2, 1) := by decide +kernel
theorem dX7_behind_59 : decode cX7_behind 59 = .ok (.if_icmp .lt 6, 3) := by decide +kernel
theorem dX7_behind_62 : decode cX7_behind 62 = .ok (.iload 4, 2) := by decide +kernel
theorem dX7_behind_64 : decode cX7_behind 64 = .ok (.ireturn, 1) := by decide +kernel
theorem dX7_behind_65 : decode cX7_behind 65 = .ok (.iinc 4 1, 3) := by decide +kernel
theorem dX7_behind_68 : decode cX7_behind 68 = .ok (.goto (-36), 3) := by decide +kernel
theorem dX7_behind_71 : decode cX7_behind 71 = .ok (.iconst (-1), 1) := by decide +kernel
theorem dX7_behind_72 : decode cX7_behind 72 = .ok (.ireturn, 1) := by decide +kernel
theorem dX7_latest_0 : decode cX7_latest 0 = .ok (.aload_n 0, 1) := by decide +kernel
theorem dX7_latest_1 : decode cX7_latest 1 = .ok (.iload_n 1, 1) := by decide +kernel
theorem dX7_latest_2 : decode cX7_latest 2 = .ok (.invokevirtual 139, 3) := by decide +kernel
theorem dX7_latest_5 : decode cX7_latest 5 = .ok (.astore_n 3, 1) := by decide +kernel
theorem dX7_latest_6 : decode cX7_latest 6 = .ok (.aload_n 3, 1) := by decide +kernel
theorem dX7_latest_7 : decode cX7_latest 7 = .ok (.ifnull 14, 3) := by decide +kernel
theorem dX7_latest_10 : decode cX7_latest 10 = .ok (.iload_n 2, 1) := by decide +kernel
theorem dX7_latest_11 : decode cX7_latest 11 = .ok (.iconst 0, 1) := by decide +kernel
theorem dX7_latest_12 : decode cX7_latest 12 = .ok (.sipush 2400, 3) := by decide +kernel
theorem dX7_latest_15 : decode cX7_latest 15 = .ok (.invokestatic 106, 3) := by decide +kernel
theorem dX7_latest_18 : decode cX7_latest 18 = .ok (.ifCond .ne 6, 3) := by decide +kernel
theorem dX7_latest_21 : decode cX7_latest 21 = .ok (.bipush (-2), 2) := by decide +kernel
theorem dX7_latest_23 : decode cX7_latest 23 = .ok (.ireturn, 1) := by decide +kernel
theorem dX7_latest_24 : decode cX7_latest 24 = .ok (.aload_n 0, 1) := by decide +kernel
theorem dX7_latest_25 : decode cX7_latest 25 = .ok (.getfield 10, 3) := by decide +kernel
theorem dX7_latest_28 : decode cX7_latest 28 = .ok (.getfield 122, 3) := by decide +kernel
theorem dX7_latest_31 : decode cX7_latest 31 = .ok (.iconst 1, 1) := by decide +kernel
theorem dX7_latest_32 : decode cX7_latest 32 = .ok (.isub, 1) := by decide +kernel
theorem dX7_latest_33 : decode cX7_latest 33 = .ok (.istore 4, 2) := by decide +kernel
theorem dX7_latest_35 : decode cX7_latest 35 = .ok (.iload 4, 2) := by decide +kernel
theorem dX7_latest_37 : decode cX7_latest 37 = .ok (.ifCond .lt 24, 3) := by decide +kernel
theorem dX7_latest_40 : decode cX7_latest 40 = .ok (.aload_n 0, 1) := by decide +kernel
theorem dX7_latest_41 : decode cX7_latest 41 = .ok (.aload_n 3, 1) := by decide +kernel
theorem dX7_latest_42 : decode cX7_latest 42 = .ok (.iload 4, 2) := by decide +kernel
theorem dX7_latest_44 : decode cX7_latest 44 = .ok (.iconst 0, 1) := by decide +kernel
theorem dX7_latest_45 : decode cX7_latest 45 = .ok (.invokevirtual 203, 3) := by decide +kernel
theorem dX7_latest_48 : decode cX7_latest 48 = .ok (.iload_n 2, 1) := by decide +kernel
theorem dX7_latest_49 : decode cX7_latest 49 = .ok (.if_icmp .gt 6, 3) := by decide +kernel
theorem dX7_latest_52 : decode cX7_latest 52 = .ok (.iload 4, 2) := by decide +kernel
theorem dX7_latest_54 : decode cX7_latest 54 = .ok (.ireturn, 1) := by decide +kernel
theorem dX7_latest_55 : decode cX7_latest 55 = .ok (.iinc 4 (-1), 3) := by decide +kernel
theorem dX7_latest_58 : decode cX7_latest 58 = .ok (.goto (-23), 3) := by decide +kernel
theorem dX7_latest_61 : decode cX7_latest 61 = .ok (.iconst (-1), 1) := by decide +kernel
theorem dX7_latest_62 : decode cX7_latest 62 = .ok (.ireturn, 1) := by decide +kernel
theorem dX7_more_0 : decode cX7_more 0 = .ok (.aload_n 0, 1) := by decide +kernel
theorem dX7_more_1 : decode cX7_more 1 = .ok (.iload_n 1, 1) := by decide +kernel
theorem dX7_more_2 : decode cX7_more 2 = .ok (.invokevirtual 139, 3) := by decide +kernel
theorem dX7_more_5 : decode cX7_more 5 = .ok (.astore_n 3, 1) := by decide +kernel
theorem dX7_more_6 : decode cX7_more 6 = .ok (.aload_n 3, 1) := by decide +kernel
theorem dX7_more_7 : decode cX7_more 7 = .ok (.ifnull 24, 3) := by decide +kernel
theorem dX7_more_10 : decode cX7_more 10 = .ok (.iload_n 2, 1) := by decide +kernel
theorem dX7_more_11 : decode cX7_more 11 = .ok (.iconst 0, 1) := by decide +kernel
theorem dX7_more_12 : decode cX7_more 12 = .ok (.sipush 2400, 3) := by decide +kernel
theorem dX7_more_15 : decode cX7_more 15 = .ok (.invokestatic 106, 3) := by decide +kernel
theorem dX7_more_18 : decode cX7_more 18 = .ok (.ifCond .eq 13, 3) := by decide +kernel
theorem dX7_more_21 : decode cX7_more 21 = .ok (.aload_n 0, 1) := by decide +kernel
theorem dX7_more_22 : decode cX7_more 22 = .ok (.getfield 26, 3) := by decide +kernel
theorem dX7_more_25 : decode cX7_more 25 = .ok (.getfield 184, 3) := by decide +kernel
theorem dX7_more_28 : decode cX7_more 28 = .ok (.ifCond .ne 6, 3) := by decide +kernel
theorem dX7_more_31 : decode cX7_more 31 = .ok (.bipush (-2), 2) := by decide +kernel
theorem dX7_more_33 : decode cX7_more 33 = .ok (.ireturn, 1) := by decide +kernel
theorem dX7_more_34 : decode cX7_more 34 = .ok (.iconst 0, 1) := by decide +kernel
theorem dX7_more_35 : decode cX7_more 35 = .ok (.istore 4, 2) := by decide +kernel
theorem dX7_more_37 : decode cX7_more 37 = .ok (.iload 4, 2) := by decide +kernel
theorem dX7_more_39 : decode cX7_more 39 = .ok (.bipush 20, 2) := by decide +kernel
theorem dX7_more_41 : decode cX7_more 41 = .ok (.if_icmp .gt 27, 3) := by decide +kernel
theorem dX7_more_44 : decode cX7_more 44 = .ok (.aload_n 0, 1) := by decide +kernel
theorem dX7_more_45 : decode cX7_more 45 = .ok (.aload_n 3, 1) := by decide +kernel
theorem dX7_more_46 : decode cX7_more 46 = .ok (.aload_n 3, 1) := by decide +kernel
theorem dX7_more_47 : decode cX7_more 47 = .ok (.getfield 146, 3) := by decide +kernel
theorem dX7_more_50 : decode cX7_more 50 = .ok (.iload 4, 2) := by decide +kernel
theorem dX7_more_52 : decode cX7_more 52 = .ok (.invokevirtual 203, 3) := by decide +kernel
theorem dX7_more_55 : decode cX7_more 55 = .ok (.iload_n 2, 1) := by decide +kernel
theorem dX7_more_56 : decode cX7_more 56 = .ok (.if_icmp .gt 6, 3) := by decide +kernel
theorem dX7_more_59 : decode cX7_more 59 = .ok (.iload 4, 2) := by decide +kernel
theorem dX7_more_61 : decode cX7_more 61 = .ok (.ireturn, 1) := by decide +kernel
theorem dX7_more_62 : decode cX7_more 62 = .ok (.iinc 4 1, 3) := by decide +kernel
theorem dX7_more_65 : decode cX7_more 65 = .ok (.goto (-28), 3) := by decide +kernel
theorem dX7_more_68 : decode cX7_more 68 = .ok (.iconst (-1), 1) := by decide +kernel
theorem dX7_more_69 : decode cX7_more 69 = .ok (.ireturn, 1) := by decide +kernel
theorem dX7_choose_0 : decode cX7_choose 0 = .ok (.iload_n 1, 1) := by decide +kernel
theorem dX7_choose_1 : decode cX7_choose 1 = .ok (.iconst 0, 1) := by decide +kernel
theorem dX7_choose_2 : decode cX7_choose 2 = .ok (.iconst 1, 1) := by decide +kernel
theorem dX7_choose_3 : decode cX7_choose 3 = .ok (.invokestatic 106, 3) := by decide +kernel
theorem dX7_choose_6 : decode cX7_choose 6 = .ok (.ifCond .ne 7, 3) := by decide +kernel
theorem dX7_choose_9 : decode cX7_choose 9 = .ok (.ldc2_w 178, 3) := by decide +kernel
theorem dX7_choose_12 : decode cX7_choose 12 = .ok (.lreturn, 1) := by decide +kernel
theorem dX7_choose_13 : decode cX7_choose 13 = .ok (.iconst (-1), 1) := by decide +kernel
theorem dX7_choose_14 : decode cX7_choose 14 = .ok (.istore_n 2, 1) := by decide +kernel
theorem dX7_choose_15 : decode cX7_choose 15 = .ok (.ldc2_w 178, 3) := by decide +kernel
theorem dX7_choose_18 : decode cX7_choose 18 = .ok (.lstore_n 3, 1) := by decide +kernel
theorem dX7_choose_19 : decode cX7_choose 19 = .ok (.iconst 0, 1) := by decide +kernel
theorem dX7_choose_20 : decode cX7_choose 20 = .ok (.istore 5, 2) := by decide +kernel
theorem dX7_choose_22 : decode cX7_choose 22 = .ok (.iload 5, 2) := by decide +kernel
theorem dX7_choose_24 : decode cX7_choose 24 = .ok (.aload_n 0, 1) := by decide +kernel
theorem dX7_choose_25 : decode cX7_choose 25 = .ok (.getfield 36, 3) := by decide +kernel
theorem dX7_choose_28 : decode cX7_choose 28 = .ok (.if_icmp .ge 63, 3) := by decide +kernel
theorem dX7_choose_31 : decode cX7_choose 31 = .ok (.aload_n 0, 1) := by decide +kernel
theorem dX7_choose_32 : decode cX7_choose 32 = .ok (.aload_n 0, 1) := by decide +kernel
theorem dX7_choose_33 : decode cX7_choose 33 = .ok (.getfield 32, 3) := by decide +kernel
theorem dX7_choose_36 : decode cX7_choose 36 = .ok (.iload 5, 2) := by decide +kernel
theorem dX7_choose_38 : decode cX7_choose 38 = .ok (.aaload, 1) := by decide +kernel
theorem dX7_choose_39 : decode cX7_choose 39 = .ok (.invokevirtual 170, 3) := by decide +kernel
theorem dX7_choose_42 : decode cX7_choose 42 = .ok (.aload_n 0, 1) := by decide +kernel
theorem dX7_choose_43 : decode cX7_choose 43 = .ok (.getfield 72, 3) := by decide +kernel
theorem dX7_choose_46 : decode cX7_choose 46 = .ok (.aload_n 0, 1) := by decide +kernel
theorem dX7_choose_47 : decode cX7_choose 47 = .ok (.getfield 10, 3) := by decide +kernel
theorem dX7_choose_50 : decode cX7_choose 50 = .ok (.aload_n 0, 1) := by decide +kernel
theorem dX7_choose_51 : decode cX7_choose 51 = .ok (.getfield 56, 3) := by decide +kernel
theorem dX7_choose_54 : decode cX7_choose 54 = .ok (.aload_n 0, 1) := by decide +kernel
theorem dX7_choose_55 : decode cX7_choose 55 = .ok (.getfield 10, 3) := by decide +kernel
theorem dX7_choose_58 : decode cX7_choose 58 = .ok (.getfield 164, 3) := by decide +kernel
theorem dX7_choose_61 : decode cX7_choose 61 = .ok (.aaload, 1) := by decide +kernel
theorem dX7_choose_62 : decode cX7_choose 62 = .ok (.invokevirtual 180, 3) := by decide +kernel
theorem dX7_choose_65 : decode cX7_choose 65 = .ok (.lstore 6, 2) := by decide +kernel
theorem dX7_choose_67 : decode cX7_choose 67 = .ok (.iload_n 2, 1) := by decide +kernel
theorem dX7_choose_68 : decode cX7_choose 68 = .ok (.iconst (-1), 1) := by decide +kernel
theorem dX7_choose_69 : decode cX7_choose 69 = .ok (.if_icmp .eq 10, 3) := by decide +kernel
theorem dX7_choose_72 : decode cX7_choose 72 = .ok (.lload 6, 2) := by decide +kernel
theorem dX7_choose_74 : decode cX7_choose 74 = .ok (.lload_n 3, 1) := by decide +kernel
theorem dX7_choose_75 : decode cX7_choose 75 = .ok (.lcmp, 1) := by decide +kernel
theorem dX7_choose_76 : decode cX7_choose 76 = .ok (.ifCond .ge 9, 3) := by decide +kernel
theorem dX7_choose_79 : decode cX7_choose 79 = .ok (.iload 5, 2) := by decide +kernel
theorem dX7_choose_81 : decode cX7_choose 81 = .ok (.istore_n 2, 1) := by decide +kernel
theorem dX7_choose_82 : decode cX7_choose 82 = .ok (.lload 6, 2) := by decide +kernel
theorem dX7_choose_84 : decode cX7_choose 84 = .ok (.lstore_n 3, 1) := by decide +kernel
theorem dX7_choose_85 : decode cX7_choose 85 = .ok (.iinc 5 1, 3) := by decide +kernel
theorem dX7_choose_88 : decode cX7_choose 88 = .ok (.goto (-66), 3) := by decide +kernel
theorem dX7_choose_91 : decode cX7_choose 91 = .ok (.iload_n 2, 1) := by decide +kernel
theorem dX7_choose_92 : decode cX7_choose 92 = .ok (.iconst (-1), 1) := by decide +kernel
theorem dX7_choose_93 : decode cX7_choose 93 = .ok (.if_icmp .ne 7, 3) := by decide +kernel
theorem dX7_choose_96 : decode cX7_choose 96 = .ok (.ldc2_w 178, 3) := by decide +kernel
theorem dX7_choose_99 : decode cX7_choose 99 = .ok (.lreturn, 1) := by decide +kernel
theorem dX7_choose_100 : decode cX7_choose 100 = .ok (.iload_n 1, 1) := by decide +kernel
theorem dX7_choose_101 : decode cX7_choose 101 = .ok (.ifCond .ne 8, 3) := by decide +kernel
theorem dX7_choose_104 : decode cX7_choose 104 = .ok (.iload_n 2, 1) := by decide +kernel
theorem dX7_choose_105 : decode cX7_choose 105 = .ok (.i2l, 1) := by decide +kernel
theorem dX7_choose_106 : decode cX7_choose 106 = .ok (.goto 4, 3) := by decide +kernel
theorem dX7_choose_109 : decode cX7_choose 109 = .ok (.lload_n 3, 1) := by decide +kernel
theorem dX7_choose_110 : decode cX7_choose 110 = .ok (.lreturn, 1) := by decide +kernel
theorem dX7_must_0 : decode cX7_must 0 = .ok (.iconst 0, 1) := by decide +kernel
theorem dX7_must_1 : decode cX7_must 1 = .ok (.istore_n 1, 1) := by decide +kernel
theorem dX7_must_2 : decode cX7_must 2 = .ok (.iconst 0, 1) := by decide +kernel
theorem dX7_must_3 : decode cX7_must 3 = .ok (.istore_n 2, 1) := by decide +kernel
theorem dX7_must_4 : decode cX7_must 4 = .ok (.iload_n 2, 1) := by decide +kernel
theorem dX7_must_5 : decode cX7_must 5 = .ok (.aload_n 0, 1) := by decide +kernel
theorem dX7_must_6 : decode cX7_must 6 = .ok (.getfield 10, 3) := by decide +kernel
theorem dX7_must_9 : decode cX7_must 9 = .ok (.getfield 122, 3) := by decide +kernel
theorem dX7_must_12 : decode cX7_must 12 = .ok (.if_icmp .ge 31, 3) := by decide +kernel
theorem dX7_must_15 : decode cX7_must 15 = .ok (.aload_n 0, 1) := by decide +kernel
theorem dX7_must_16 : decode cX7_must 16 = .ok (.getfield 10, 3) := by decide +kernel
theorem dX7_must_19 : decode cX7_must 19 = .ok (.iload_n 2, 1) := by decide +kernel
theorem dX7_must_20 : decode cX7_must 20 = .ok (.invokevirtual 207, 3) := by decide +kernel
theorem dX7_must_23 : decode cX7_must 23 = .ok (.ifCond .ne 14, 3) := by decide +kernel
theorem dX7_must_26 : decode cX7_must 26 = .ok (.iload_n 1, 1) := by decide +kernel
theorem dX7_must_27 : decode cX7_must 27 = .ok (.aload_n 0, 1) := by decide +kernel
theorem dX7_must_28 : decode cX7_must 28 = .ok (.getfield 26, 3) := by decide +kernel
theorem dX7_must_31 : decode cX7_must 31 = .ok (.iload_n 2, 1) := by decide +kernel
theorem dX7_must_32 : decode cX7_must 32 = .ok (.invokevirtual 210, 3) := by decide +kernel
theorem dX7_must_35 : decode cX7_must 35 = .ok (.iadd, 1) := by decide +kernel
theorem dX7_must_36 : decode cX7_must 36 = .ok (.istore_n 1, 1) := by decide +kernel
theorem dX7_must_37 : decode cX7_must 37 = .ok (.iinc 2 1, 3) := by decide +kernel
theorem dX7_must_40 : decode cX7_must 40 = .ok (.goto (-36), 3) := by decide +kernel
theorem dX7_must_43 : decode cX7_must 43 = .ok (.iload_n 1, 1) := by decide +kernel
theorem dX7_must_44 : decode cX7_must 44 = .ok (.aload_n 0, 1) := by decide +kernel
theorem dX7_must_45 : decode cX7_must 45 = .ok (.getfield 10, 3) := by decide +kernel
theorem dX7_must_48 : decode cX7_must 48 = .ok (.invokevirtual 213, 3) := by decide +kernel
theorem dX7_must_51 : decode cX7_must 51 = .ok (.isub, 1) := by decide +kernel
theorem dX7_must_52 : decode cX7_must 52 = .ok (.ireturn, 1) := by decide +kernel
theorem dX7_latestUp_0 : decode cX7_latestUp 0 = .ok (.iload_n 1, 1) := by decide +kernel
theorem dX7_latestUp_1 : decode cX7_latestUp 1 = .ok (.iconst 0, 1) := by decide +kernel
theorem dX7_latestUp_2 : decode cX7_latestUp 2 = .ok (.aload_n 0, 1) := by decide +kernel
theorem dX7_latestUp_3 : decode cX7_latestUp 3 = .ok (.getfield 10, 3) := by decide +kernel
theorem dX7_latestUp_6 : decode cX7_latestUp 6 = .ok (.getfield 216, 3) := by decide +kernel
theorem dX7_latestUp_9 : decode cX7_latestUp 9 = .ok (.iconst 1, 1) := by decide +kernel
theorem dX7_latestUp_10 : decode cX7_latestUp 10 = .ok (.isub, 1) := by decide +kernel
theorem dX7_latestUp_11 : decode cX7_latestUp 11 = .ok (.invokestatic 106, 3) := by decide +kernel
theorem dX7_latestUp_14 : decode cX7_latestUp 14 = .ok (.ifCond .ne 6, 3) := by decide +kernel
theorem dX7_latestUp_17 : decode cX7_latestUp 17 = .ok (.bipush (-2), 2) := by decide +kernel
theorem dX7_latestUp_19 : decode cX7_latestUp 19 = .ok (.ireturn, 1) := by decide +kernel
theorem dX7_latestUp_20 : decode cX7_latestUp 20 = .ok (.aload_n 0, 1) := by decide +kernel
theorem dX7_latestUp_21 : decode cX7_latestUp 21 = .ok (.getfield 10, 3) := by decide +kernel
theorem dX7_latestUp_24 : decode cX7_latestUp 24 = .ok (.getfield 122, 3) := by decide +kernel
theorem dX7_latestUp_27 : decode cX7_latestUp 27 = .ok (.iconst 1, 1) := by decide +kernel
theorem dX7_latestUp_28 : decode cX7_latestUp 28 = .ok (.isub, 1) := by decide +kernel
theorem dX7_latestUp_29 : decode cX7_latestUp 29 = .ok (.istore_n 2, 1) := by decide +kernel
theorem dX7_latestUp_30 : decode cX7_latestUp 30 = .ok (.iload_n 2, 1) := by decide +kernel
theorem dX7_latestUp_31 : decode cX7_latestUp 31 = .ok (.aload_n 0, 1) := by decide +kernel
theorem dX7_latestUp_32 : decode cX7_latestUp 32 = .ok (.getfield 10, 3) := by decide +kernel
theorem dX7_latestUp_35 : decode cX7_latestUp 35 = .ok (.getfield 219, 3) := by decide +kernel
theorem dX7_latestUp_38 : decode cX7_latestUp 38 = .ok (.iload_n 1, 1) := by decide +kernel
theorem dX7_latestUp_39 : decode cX7_latestUp 39 = .ok (.iaload, 1) := by decide +kernel
theorem dX7_latestUp_40 : decode cX7_latestUp 40 = .ok (.if_icmp .lt 43, 3) := by decide +kernel
theorem dX7_latestUp_43 : decode cX7_latestUp 43 = .ok (.aload_n 0, 1) := by decide +kernel
theorem dX7_latestUp_44 : decode cX7_latestUp 44 = .ok (.getfield 10, 3) := by decide +kernel
theorem dX7_latestUp_47 : decode cX7_latestUp 47 = .ok (.iload_n 2, 1) := by decide +kernel
theorem dX7_latestUp_48 : decode cX7_latestUp 48 = .ok (.invokevirtual 207, 3) := by decide +kernel
theorem dX7_latestUp_51 : decode cX7_latestUp 51 = .ok (.ifCond .ne 26, 3) := by decide +kernel
theorem dX7_latestUp_54 : decode cX7_latestUp 54 = .ok (.aload_n 0, 1) := by decide +kernel
theorem dX7_latestUp_55 : decode cX7_latestUp 55 = .ok (.getfield 26, 3) := by decide +kernel
theorem dX7_latestUp_58 : decode cX7_latestUp 58 = .ok (.iload_n 2, 1) := by decide +kernel
theorem dX7_latestUp_59 : decode cX7_latestUp 59 = .ok (.invokevirtual 210, 3) := by decide +kernel
theorem dX7_latestUp_62 : decode cX7_latestUp 62 = .ok (.ifCond .le 15, 3) := by decide +kernel
theorem dX7_latestUp_65 : decode cX7_latestUp 65 = .ok (.iload_n 2, 1) := by decide +kernel
theorem dX7_latestUp_66 : decode cX7_latestUp 66 = .ok (.aload_n 0, 1) := by decide +kernel
theorem dX7_latestUp_67 : decode cX7_latestUp 67 = .ok (.getfield 10, 3) := by decide +kernel
theorem dX7_latestUp_70 : decode cX7_latestUp 70 = .ok (.getfield 219, 3) := by decide +kernel
theorem dX7_latestUp_73 : decode cX7_latestUp 73 = .ok (.iload_n 1, 1) := by decide +kernel
theorem dX7_latestUp_74 : decode cX7_latestUp 74 = .ok (.iaload, 1) := by decide +kernel
theorem dX7_latestUp_75 : decode cX7_latestUp 75 = .ok (.isub, 1) := by decide +kernel
theorem dX7_latestUp_76 : decode cX7_latestUp 76 = .ok (.ireturn, 1) := by decide +kernel
theorem dX7_latestUp_77 : decode cX7_latestUp 77 = .ok (.iinc 2 (-1), 3) := by decide +kernel
theorem dX7_latestUp_80 : decode cX7_latestUp 80 = .ok (.goto (-50), 3) := by decide +kernel
theorem dX7_latestUp_83 : decode cX7_latestUp 83 = .ok (.iconst (-1), 1) := by decide +kernel
theorem dX7_latestUp_84 : decode cX7_latestUp 84 = .ok (.ireturn, 1) := by decide +kernel
theorem dX7_judge_0 : decode cX7_judge 0 = .ok (.iload_n 1, 1) := by decide +kernel
theorem dX7_judge_1 : decode cX7_judge 1 = .ok (.invokestatic 222, 3) := by decide +kernel
theorem dX7_judge_4 : decode cX7_judge 4 = .ok (.ifCond .ne 6, 3) := by decide +kernel
theorem dX7_judge_7 : decode cX7_judge 7 = .ok (.bipush (-2), 2) := by decide +kernel
theorem dX7_judge_9 : decode cX7_judge 9 = .ok (.ireturn, 1) := by decide +kernel
theorem dX7_judge_10 : decode cX7_judge 10 = .ok (.aload_n 0, 1) := by decide +kernel
theorem dX7_judge_11 : decode cX7_judge 11 = .ok (.getfield 65, 3) := by decide +kernel
theorem dX7_judge_14 : decode cX7_judge 14 = .ok (.iload_n 1, 1) := by decide +kernel
theorem dX7_judge_15 : decode cX7_judge 15 = .ok (.aaload, 1) := by decide +kernel
theorem dX7_judge_16 : decode cX7_judge 16 = .ok (.astore_n 2, 1) := by decide +kernel
theorem dX7_judge_17 : decode cX7_judge 17 = .ok (.aload_n 2, 1) := by decide +kernel
theorem dX7_judge_18 : decode cX7_judge 18 = .ok (.getfield 225, 3) := by decide +kernel
theorem dX7_judge_21 : decode cX7_judge 21 = .ok (.iconst (-1), 1) := by decide +kernel
theorem dX7_judge_22 : decode cX7_judge 22 = .ok (.if_icmp .ne 6, 3) := by decide +kernel
theorem dX7_judge_25 : decode cX7_judge 25 = .ok (.bipush (-11), 2) := by decide +kernel
theorem dX7_judge_27 : decode cX7_judge 27 = .ok (.ireturn, 1) := by decide +kernel
theorem dX7_judge_28 : decode cX7_judge 28 = .ok (.aload_n 2, 1) := by decide +kernel
theorem dX7_judge_29 : decode cX7_judge 29 = .ok (.iconst 0, 1) := by decide +kernel
theorem dX7_judge_30 : decode cX7_judge 30 = .ok (.bipush 99, 2) := by decide +kernel
theorem dX7_judge_32 : decode cX7_judge 32 = .ok (.invokevirtual 228, 3) := by decide +kernel
theorem dX7_judge_35 : decode cX7_judge 35 = .ok (.ifCond .ne 6, 3) := by decide +kernel
theorem dX7_judge_38 : decode cX7_judge 38 = .ok (.bipush (-2), 2) := by decide +kernel
theorem dX7_judge_40 : decode cX7_judge 40 = .ok (.ireturn, 1) := by decide +kernel
theorem dX7_judge_41 : decode cX7_judge 41 = .ok (.aload_n 0, 1) := by decide +kernel
theorem dX7_judge_42 : decode cX7_judge 42 = .ok (.getfield 72, 3) := by decide +kernel
theorem dX7_judge_45 : decode cX7_judge 45 = .ok (.aload_n 0, 1) := by decide +kernel
theorem dX7_judge_46 : decode cX7_judge 46 = .ok (.getfield 43, 3) := by decide +kernel
theorem dX7_judge_49 : decode cX7_judge 49 = .ok (.aload_n 0, 1) := by decide +kernel
theorem dX7_judge_50 : decode cX7_judge 50 = .ok (.getfield 43, 3) := by decide +kernel
theorem dX7_judge_53 : decode cX7_judge 53 = .ok (.getfield 146, 3) := by decide +kernel
theorem dX7_judge_56 : decode cX7_judge 56 = .ok (.aload_n 0, 1) := by decide +kernel
theorem dX7_judge_57 : decode cX7_judge 57 = .ok (.getfield 10, 3) := by decide +kernel
theorem dX7_judge_60 : decode cX7_judge 60 = .ok (.invokevirtual 231, 3) := by decide +kernel
theorem dX7_judge_63 : decode cX7_judge 63 = .ok (.aload_n 0, 1) := by decide +kernel
theorem dX7_judge_64 : decode cX7_judge 64 = .ok (.getfield 72, 3) := by decide +kernel
theorem dX7_judge_67 : decode cX7_judge 67 = .ok (.aload_n 2, 1) := by decide +kernel
theorem dX7_judge_68 : decode cX7_judge 68 = .ok (.invokevirtual 235, 3) := by decide +kernel
theorem dX7_judge_71 : decode cX7_judge 71 = .ok (.aload_n 0, 1) := by decide +kernel
theorem dX7_judge_72 : decode cX7_judge 72 = .ok (.getfield 72, 3) := by decide +kernel
theorem dX7_judge_75 : decode cX7_judge 75 = .ok (.aload_n 0, 1) := by decide +kernel
theorem dX7_judge_76 : decode cX7_judge 76 = .ok (.getfield 10, 3) := by decide +kernel
theorem dX7_judge_79 : decode cX7_judge 79 = .ok (.aload_n 0, 1) := by decide +kernel
theorem dX7_judge_80 : decode cX7_judge 80 = .ok (.getfield 26, 3) := by decide +kernel
theorem dX7_judge_83 : decode cX7_judge 83 = .ok (.aload_n 0, 1) := by decide +kernel
theorem dX7_judge_84 : decode cX7_judge 84 = .ok (.getfield 26, 3) := by decide +kernel
theorem dX7_judge_87 : decode cX7_judge 87 = .ok (.getfield 184, 3) := by decide +kernel
theorem dX7_judge_90 : decode cX7_judge 90 = .ok (.aload_n 0, 1) := by decide +kernel
theorem dX7_judge_91 : decode cX7_judge 91 = .ok (.getfield 56, 3) := by decide +kernel
theorem dX7_judge_94 : decode cX7_judge 94 = .ok (.aload_n 0, 1) := by decide +kernel
theorem dX7_judge_95 : decode cX7_judge 95 = .ok (.getfield 10, 3) := by decide +kernel
theorem dX7_judge_98 : decode cX7_judge 98 = .ok (.getfield 164, 3) := by decide +kernel
theorem dX7_judge_101 : decode cX7_judge 101 = .ok (.aaload, 1) := by decide +kernel
theorem dX7_judge_102 : decode cX7_judge 102 = .ok (.invokevirtual 239, 3) := by decide +kernel
theorem dX7_judge_105 : decode cX7_judge 105 = .ok (.aload_n 0, 1) := by decide +kernel
theorem dX7_judge_106 : decode cX7_judge 106 = .ok (.getfield 72, 3) := by decide +kernel
theorem dX7_judge_109 : decode cX7_judge 109 = .ok (.aload_n 0, 1) := by decide +kernel
theorem dX7_judge_110 : decode cX7_judge 110 = .ok (.getfield 10, 3) := by decide +kernel
theorem dX7_judge_113 : decode cX7_judge 113 = .ok (.iconst (-1), 1) := by decide +kernel
theorem dX7_judge_114 : decode cX7_judge 114 = .ok (.invokevirtual 174, 3) := by decide +kernel
theorem dX7_judge_117 : decode cX7_judge 117 = .ok (.ireturn, 1) := by decide +kernel
theorem dX7_image_0 : decode cX7_image 0 = .ok (.aload_n 0, 1) := by decide +kernel
theorem dX7_image_1 : decode cX7_image 1 = .ok (.getfield 16, 3) := by decide +kernel
theorem dX7_image_4 : decode cX7_image 4 = .ok (.aload_n 0, 1) := by decide +kernel
theorem dX7_image_5 : decode cX7_image 5 = .ok (.getfield 10, 3) := by decide +kernel
theorem dX7_image_8 : decode cX7_image 8 = .ok (.invokevirtual 243, 3) := by decide +kernel
theorem dX7_image_11 : decode cX7_image 11 = .ok (.aload_n 0, 1) := by decide +kernel
theorem dX7_image_12 : decode cX7_image 12 = .ok (.iconst 1, 1) := by decide +kernel
theorem dX7_image_13 : decode cX7_image 13 = .ok (.putfield 19, 3) := by decide +kernel
theorem dX7_image_16 : decode cX7_image 16 = .ok (.aload_n 0, 1) := by decide +kernel
theorem dX7_image_17 : decode cX7_image 17 = .ok (.getfield 10, 3) := by decide +kernel
theorem dX7_image_20 : decode cX7_image 20 = .ok (.getfield 216, 3) := by decide +kernel
theorem dX7_image_23 : decode cX7_image 23 = .ok (.ireturn, 1) := by decide +kernel
theorem dX7_back_0 : decode cX7_back 0 = .ok (.aload_n 0, 1) := by decide +kernel
theorem dX7_back_1 : decode cX7_back 1 = .ok (.getfield 19, 3) := by decide +kernel
theorem dX7_back_4 : decode cX7_back 4 = .ok (.ifCond .ne 6, 3) := by decide +kernel
theorem dX7_back_7 : decode cX7_back 7 = .ok (.bipush (-3), 2) := by decide +kernel
theorem dX7_back_9 : decode cX7_back 9 = .ok (.ireturn, 1) := by decide +kernel
theorem dX7_back_10 : decode cX7_back 10 = .ok (.aload_n 0, 1) := by decide +kernel
theorem dX7_back_11 : decode cX7_back 11 = .ok (.getfield 10, 3) := by decide +kernel
theorem dX7_back_14 : decode cX7_back 14 = .ok (.aload_n 0, 1) := by decide +kernel
theorem dX7_back_15 : decode cX7_back 15 = .ok (.getfield 16, 3) := by decide +kernel
theorem dX7_back_18 : decode cX7_back 18 = .ok (.invokevirtual 243, 3) := by decide +kernel
theorem dX7_back_21 : decode cX7_back 21 = .ok (.aload_n 0, 1) := by decide +kernel
theorem dX7_back_22 : decode cX7_back 22 = .ok (.getfield 10, 3) := by decide +kernel
theorem dX7_back_25 : decode cX7_back 25 = .ok (.getfield 216, 3) := by decide +kernel
theorem dX7_back_28 : decode cX7_back 28 = .ok (.ireturn, 1) := by decide +kernel
theorem dX7_count_0 : decode cX7_count 0 = .ok (.iload_n 1, 1) := by decide +kernel
theorem dX7_count_1 : decode cX7_count 1 = .ok (.tableswitch 105 0 7 #[47, 55, 63, 68, 76, 81, 89, 97], 47) := by decide +kernel
theorem dX7_count_48 : decode cX7_count 48 = .ok (.aload_n 0, 1) := by decide +kernel
theorem dX7_count_49 : decode cX7_count 49 = .ok (.getfield 10, 3) := by decide +kernel
theorem dX7_count_52 : decode cX7_count 52 = .ok (.getfield 216, 3) := by decide +kernel
theorem dX7_count_55 : decode cX7_count 55 = .ok (.ireturn, 1) := by decide +kernel
theorem dX7_count_56 : decode cX7_count 56 = .ok (.aload_n 0, 1) := by decide +kernel
theorem dX7_count_57 : decode cX7_count 57 = .ok (.getfield 26, 3) := by decide +kernel
theorem dX7_count_60 : decode cX7_count 60 = .ok (.getfield 184, 3) := by decide +kernel
theorem dX7_count_63 : decode cX7_count 63 = .ok (.ireturn, 1) := by decide +kernel
theorem dX7_count_64 : decode cX7_count 64 = .ok (.aload_n 0, 1) := by decide +kernel
theorem dX7_count_65 : decode cX7_count 65 = .ok (.getfield 36, 3) := by decide +kernel
theorem dX7_count_68 : decode cX7_count 68 = .ok (.ireturn, 1) := by decide +kernel
theorem dX7_count_69 : decode cX7_count 69 = .ok (.aload_n 0, 1) := by decide +kernel
theorem dX7_count_70 : decode cX7_count 70 = .ok (.getfield 10, 3) := by decide +kernel
theorem dX7_count_73 : decode cX7_count 73 = .ok (.getfield 122, 3) := by decide +kernel
theorem dX7_count_76 : decode cX7_count 76 = .ok (.ireturn, 1) := by decide +kernel
theorem dX7_count_77 : decode cX7_count 77 = .ok (.aload_n 0, 1) := by decide +kernel
theorem dX7_count_78 : decode cX7_count 78 = .ok (.getfield 60, 3) := by decide +kernel
theorem dX7_count_81 : decode cX7_count 81 = .ok (.ireturn, 1) := by decide +kernel
theorem dX7_count_82 : decode cX7_count 82 = .ok (.aload_n 0, 1) := by decide +kernel
theorem dX7_count_83 : decode cX7_count 83 = .ok (.getfield 50, 3) := by decide +kernel
theorem dX7_count_86 : decode cX7_count 86 = .ok (.getfield 158, 3) := by decide +kernel
theorem dX7_count_89 : decode cX7_count 89 = .ok (.ireturn, 1) := by decide +kernel
theorem dX7_count_90 : decode cX7_count 90 = .ok (.aload_n 0, 1) := by decide +kernel
theorem dX7_count_91 : decode cX7_count 91 = .ok (.getfield 10, 3) := by decide +kernel
theorem dX7_count_94 : decode cX7_count 94 = .ok (.getfield 164, 3) := by decide +kernel
theorem dX7_count_97 : decode cX7_count 97 = .ok (.ireturn, 1) := by decide +kernel
theorem dX7_count_98 : decode cX7_count 98 = .ok (.aload_n 0, 1) := by decide +kernel
theorem dX7_count_99 : decode cX7_count 99 = .ok (.getfield 10, 3) := by decide +kernel
theorem dX7_count_102 : decode cX7_count 102 = .ok (.invokevirtual 213, 3) := by decide +kernel
theorem dX7_count_105 : decode cX7_count 105 = .ok (.ireturn, 1) := by decide +kernel
theorem dX7_count_106 : decode cX7_count 106 = .ok (.bipush (-2), 2) := by decide +kernel
theorem dX7_count_108 : decode cX7_count 108 = .ok (.ireturn, 1) := by decide +kernel
theorem dX7_sheet_0 : decode cX7_sheet 0 = .ok (.iload_n 1, 1) := by decide +kernel
theorem dX7_sheet_1 : decode cX7_sheet 1 = .ok (.invokestatic 222, 3) := by decide +kernel
theorem dX7_sheet_4 : decode cX7_sheet 4 = .ok (.ifCond .eq 12, 3) := by decide +kernel
theorem dX7_sheet_7 : decode cX7_sheet 7 = .ok (.iload_n 2, 1) := by decide +kernel
theorem dX7_sheet_8 : decode cX7_sheet 8 = .ok (.iconst (-1), 1) := by decide +kernel
theorem dX7_sheet_9 : decode cX7_sheet 9 = .ok (.iconst 2, 1) := by decide +kernel
theorem dX7_sheet_10 : decode cX7_sheet 10 = .ok (.invokestatic 106, 3) := by decide +kernel
theorem dX7_sheet_13 : decode cX7_sheet 13 = .ok (.ifCond .ne 6, 3) := by decide +kernel
theorem dX7_sheet_16 : decode cX7_sheet 16 = .ok (.bipush (-2), 2) := by decide +kernel
theorem dX7_sheet_18 : decode cX7_sheet 18 = .ok (.ireturn, 1) := by decide +kernel
theorem dX7_sheet_19 : decode cX7_sheet 19 = .ok (.iload_n 2, 1) := by decide +kernel
theorem dX7_sheet_20 : decode cX7_sheet 20 = .ok (.iconst (-1), 1) := by decide +kernel
theorem dX7_sheet_21 : decode cX7_sheet 21 = .ok (.if_icmp .eq 12, 3) := by decide +kernel
theorem dX7_sheet_24 : decode cX7_sheet 24 = .ok (.iload_n 3, 1) := by decide +kernel
theorem dX7_sheet_25 : decode cX7_sheet 25 = .ok (.bipush 40, 2) := by decide +kernel
theorem dX7_sheet_27 : decode cX7_sheet 27 = .ok (.if_icmp .le 6, 3) := by decide +kernel
theorem dX7_sheet_30 : decode cX7_sheet 30 = .ok (.bipush (-2), 2) := by decide +kernel
theorem dX7_sheet_32 : decode cX7_sheet 32 = .ok (.ireturn, 1) := by decide +kernel
theorem dX7_sheet_33 : decode cX7_sheet 33 = .ok (.iload_n 2, 1) := by decide +kernel
theorem dX7_sheet_34 : decode cX7_sheet 34 = .ok (.iconst (-1), 1) := by decide +kernel
theorem dX7_sheet_35 : decode cX7_sheet 35 = .ok (.if_icmp .eq 10, 3) := by decide +kernel
theorem dX7_sheet_38 : decode cX7_sheet 38 = .ok (.iload_n 3, 1) := by decide +kernel
theorem dX7_sheet_39 : decode cX7_sheet 39 = .ok (.ifCond .ge 6, 3) := by decide +kernel
theorem dX7_sheet_42 : decode cX7_sheet 42 = .ok (.bipush (-14), 2) := by decide +kernel
theorem dX7_sheet_44 : decode cX7_sheet 44 = .ok (.ireturn, 1) := by decide +kernel
theorem dX7_sheet_45 : decode cX7_sheet 45 = .ok (.aload_n 0, 1) := by decide +kernel
theorem dX7_sheet_46 : decode cX7_sheet 46 = .ok (.getfield 65, 3) := by decide +kernel
theorem dX7_sheet_49 : decode cX7_sheet 49 = .ok (.iload_n 1, 1) := by decide +kernel
theorem dX7_sheet_50 : decode cX7_sheet 50 = .ok (.aaload, 1) := by decide +kernel
theorem dX7_sheet_51 : decode cX7_sheet 51 = .ok (.iload_n 2, 1) := by decide +kernel
theorem dX7_sheet_52 : decode cX7_sheet 52 = .ok (.iload_n 2, 1) := by decide +kernel
theorem dX7_sheet_53 : decode cX7_sheet 53 = .ok (.iconst (-1), 1) := by decide +kernel
theorem dX7_sheet_54 : decode cX7_sheet 54 = .ok (.if_icmp .ne 7, 3) := by decide +kernel
theorem dX7_sheet_57 : decode cX7_sheet 57 = .ok (.iconst 0, 1) := by decide +kernel
theorem dX7_sheet_58 : decode cX7_sheet 58 = .ok (.goto 4, 3) := by decide +kernel
theorem dX7_sheet_61 : decode cX7_sheet 61 = .ok (.iload_n 3, 1) := by decide +kernel
theorem dX7_sheet_62 : decode cX7_sheet 62 = .ok (.invokevirtual 247, 3) := by decide +kernel
theorem dX7_sheet_65 : decode cX7_sheet 65 = .ok (.iconst 1, 1) := by decide +kernel
theorem dX7_sheet_66 : decode cX7_sheet 66 = .ok (.ireturn, 1) := by decide +kernel
theorem dX7_cell_0 : decode cX7_cell 0 = .ok (.iload_n 1, 1) := by decide +kernel
theorem dX7_cell_1 : decode cX7_cell 1 = .ok (.invokestatic 222, 3) := by decide +kernel
theorem dX7_cell_4 : decode cX7_cell 4 = .ok (.ifCond .ne 6, 3) := by decide +kernel
theorem dX7_cell_7 : decode cX7_cell 7 = .ok (.bipush (-2), 2) := by decide +kernel
theorem dX7_cell_9 : decode cX7_cell 9 = .ok (.ireturn, 1) := by decide +kernel
theorem dX7_cell_10 : decode cX7_cell 10 = .ok (.aload_n 0, 1) := by decide +kernel
theorem dX7_cell_11 : decode cX7_cell 11 = .ok (.getfield 65, 3) := by decide +kernel
theorem dX7_cell_14 : decode cX7_cell 14 = .ok (.iload_n 1, 1) := by decide +kernel
theorem dX7_cell_15 : decode cX7_cell 15 = .ok (.aaload, 1) := by decide +kernel
theorem dX7_cell_16 : decode cX7_cell 16 = .ok (.astore 4, 2) := by decide +kernel
theorem dX7_cell_18 : decode cX7_cell 18 = .ok (.aload 4, 2) := by decide +kernel
theorem dX7_cell_20 : decode cX7_cell 20 = .ok (.getfield 225, 3) := by decide +kernel
theorem dX7_cell_23 : decode cX7_cell 23 = .ok (.iconst (-1), 1) := by decide +kernel
theorem dX7_cell_24 : decode cX7_cell 24 = .ok (.if_icmp .ne 6, 3) := by decide +kernel
theorem dX7_cell_27 : decode cX7_cell 27 = .ok (.bipush (-11), 2) := by decide +kernel
theorem dX7_cell_29 : decode cX7_cell 29 = .ok (.ireturn, 1) := by decide +kernel
theorem dX7_cell_30 : decode cX7_cell 30 = .ok (.aload 4, 2) := by decide +kernel
theorem dX7_cell_32 : decode cX7_cell 32 = .ok (.iload_n 2, 1) := by decide +kernel
theorem dX7_cell_33 : decode cX7_cell 33 = .ok (.invokevirtual 251, 3) := by decide +kernel
theorem dX7_cell_36 : decode cX7_cell 36 = .ok (.ifCond .ne 6, 3) := by decide +kernel
theorem dX7_cell_39 : decode cX7_cell 39 = .ok (.bipush (-12), 2) := by decide +kernel
theorem dX7_cell_41 : decode cX7_cell 41 = .ok (.ireturn, 1) := by decide +kernel
theorem dX7_cell_42 : decode cX7_cell 42 = .ok (.aload 4, 2) := by decide +kernel
theorem dX7_cell_44 : decode cX7_cell 44 = .ok (.iload_n 2, 1) := by decide +kernel
theorem dX7_cell_45 : decode cX7_cell 45 = .ok (.iload_n 3, 1) := by decide +kernel
theorem dX7_cell_46 : decode cX7_cell 46 = .ok (.invokevirtual 254, 3) := by decide +kernel
theorem dX7_cell_49 : decode cX7_cell 49 = .ok (.iconst 1, 1) := by decide +kernel
theorem dX7_cell_50 : decode cX7_cell 50 = .ok (.ireturn, 1) := by decide +kernel
theorem dX7_copy_0 : decode cX7_copy 0 = .ok (.iload_n 1, 1) := by decide +kernel
theorem dX7_copy_1 : decode cX7_copy 1 = .ok (.invokestatic 222, 3) := by decide +kernel
theorem dX7_copy_4 : decode cX7_copy 4 = .ok (.ifCond .eq 10, 3) := by decide +kernel
theorem dX7_copy_7 : decode cX7_copy 7 = .ok (.iload_n 3, 1) := by decide +kernel
theorem dX7_copy_8 : decode cX7_copy 8 = .ok (.invokestatic 222, 3) := by decide +kernel
theorem dX7_copy_11 : decode cX7_copy 11 = .ok (.ifCond .ne 6, 3) := by decide +kernel
theorem dX7_copy_14 : decode cX7_copy 14 = .ok (.bipush (-2), 2) := by decide +kernel
theorem dX7_copy_16 : decode cX7_copy 16 = .ok (.ireturn, 1) := by decide +kernel
theorem dX7_copy_17 : decode cX7_copy 17 = .ok (.aload_n 0, 1) := by decide +kernel
theorem dX7_copy_18 : decode cX7_copy 18 = .ok (.getfield 65, 3) := by decide +kernel
theorem dX7_copy_21 : decode cX7_copy 21 = .ok (.iload_n 1, 1) := by decide +kernel
theorem dX7_copy_22 : decode cX7_copy 22 = .ok (.aaload, 1) := by decide +kernel
theorem dX7_copy_23 : decode cX7_copy 23 = .ok (.astore 6, 2) := by decide +kernel
theorem dX7_copy_25 : decode cX7_copy 25 = .ok (.aload_n 0, 1) := by decide +kernel
theorem dX7_copy_26 : decode cX7_copy 26 = .ok (.getfield 65, 3) := by decide +kernel
theorem dX7_copy_29 : decode cX7_copy 29 = .ok (.iload_n 3, 1) := by decide +kernel
theorem dX7_copy_30 : decode cX7_copy 30 = .ok (.aaload, 1) := by decide +kernel
theorem dX7_copy_31 : decode cX7_copy 31 = .ok (.astore 7, 2) := by decide +kernel
theorem dX7_copy_33 : decode cX7_copy 33 = .ok (.aload 6, 2) := by decide +kernel
theorem dX7_copy_35 : decode cX7_copy 35 = .ok (.getfield 225, 3) := by decide +kernel
theorem dX7_copy_38 : decode cX7_copy 38 = .ok (.iconst (-1), 1) := by decide +kernel
theorem dX7_copy_39 : decode cX7_copy 39 = .ok (.if_icmp .eq 12, 3) := by decide +kernel
theorem dX7_copy_42 : decode cX7_copy 42 = .ok (.aload 7, 2) := by decide +kernel
theorem dX7_copy_44 : decode cX7_copy 44 = .ok (.getfield 225, 3) := by decide +kernel
theorem dX7_copy_47 : decode cX7_copy 47 = .ok (.iconst (-1), 1) := by decide +kernel
theorem dX7_copy_48 : decode cX7_copy 48 = .ok (.if_icmp .ne 6, 3) := by decide +kernel
theorem dX7_copy_51 : decode cX7_copy 51 = .ok (.bipush (-11), 2) := by decide +kernel
theorem dX7_copy_53 : decode cX7_copy 53 = .ok (.ireturn, 1) := by decide +kernel
theorem dX7_copy_54 : decode cX7_copy 54 = .ok (.aload 6, 2) := by decide +kernel
theorem dX7_copy_56 : decode cX7_copy 56 = .ok (.getfield 225, 3) := by decide +kernel
theorem dX7_copy_59 : decode cX7_copy 59 = .ok (.aload 7, 2) := by decide +kernel
theorem dX7_copy_61 : decode cX7_copy 61 = .ok (.getfield 225, 3) := by decide +kernel
theorem dX7_copy_64 : decode cX7_copy 64 = .ok (.if_icmp .eq 6, 3) := by decide +kernel
theorem dX7_copy_67 : decode cX7_copy 67 = .ok (.bipush (-13), 2) := by decide +kernel
theorem dX7_copy_69 : decode cX7_copy 69 = .ok (.ireturn, 1) := by decide +kernel
theorem dX7_copy_70 : decode cX7_copy 70 = .ok (.aload 6, 2) := by decide +kernel
theorem dX7_copy_72 : decode cX7_copy 72 = .ok (.iload_n 2, 1) := by decide +kernel
theorem dX7_copy_73 : decode cX7_copy 73 = .ok (.iload 5, 2) := by decide +kernel
theorem dX7_copy_75 : decode cX7_copy 75 = .ok (.invokevirtual 257, 3) := by decide +kernel
theorem dX7_copy_78 : decode cX7_copy 78 = .ok (.ifCond .eq 15, 3) := by decide +kernel
theorem dX7_copy_81 : decode cX7_copy 81 = .ok (.aload 7, 2) := by decide +kernel
theorem dX7_copy_83 : decode cX7_copy 83 = .ok (.iload 4, 2) := by decide +kernel
theorem dX7_copy_85 : decode cX7_copy 85 = .ok (.iload 5, 2) := by decide +kernel
theorem dX7_copy_87 : decode cX7_copy 87 = .ok (.invokevirtual 257, 3) := by decide +kernel
theorem dX7_copy_90 : decode cX7_copy 90 = .ok (.ifCond .ne 6, 3) := by decide +kernel
theorem dX7_copy_93 : decode cX7_copy 93 = .ok (.bipush (-12), 2) := by decide +kernel
theorem dX7_copy_95 : decode cX7_copy 95 = .ok (.ireturn, 1) := by decide +kernel
theorem dX7_copy_96 : decode cX7_copy 96 = .ok (.aload 6, 2) := by decide +kernel
theorem dX7_copy_98 : decode cX7_copy 98 = .ok (.getfield 260, 3) := by decide +kernel
theorem dX7_copy_101 : decode cX7_copy 101 = .ok (.iload_n 2, 1) := by decide +kernel
theorem dX7_copy_102 : decode cX7_copy 102 = .ok (.aload 7, 2) := by decide +kernel
theorem dX7_copy_104 : decode cX7_copy 104 = .ok (.getfield 260, 3) := by decide +kernel
theorem dX7_copy_107 : decode cX7_copy 107 = .ok (.iload 4, 2) := by decide +kernel
theorem dX7_copy_109 : decode cX7_copy 109 = .ok (.iload 5, 2) := by decide +kernel
theorem dX7_copy_111 : decode cX7_copy 111 = .ok (.invokestatic 263, 3) := by decide +kernel
theorem dX7_copy_114 : decode cX7_copy 114 = .ok (.iload 5, 2) := by decide +kernel
theorem dX7_copy_116 : decode cX7_copy 116 = .ok (.ireturn, 1) := by decide +kernel
theorem dX7_sorts_0 : decode cX7_sorts 0 = .ok (.iload_n 1, 1) := by decide +kernel
theorem dX7_sorts_1 : decode cX7_sorts 1 = .ok (.invokestatic 222, 3) := by decide +kernel
theorem dX7_sorts_4 : decode cX7_sorts 4 = .ok (.ifCond .eq 23, 3) := by decide +kernel
theorem dX7_sorts_7 : decode cX7_sorts 7 = .ok (.iload_n 2, 1) := by decide +kernel
theorem dX7_sorts_8 : decode cX7_sorts 8 = .ok (.iconst 0, 1) := by decide +kernel
theorem dX7_sorts_9 : decode cX7_sorts 9 = .ok (.iconst 2, 1) := by decide +kernel
theorem dX7_sorts_10 : decode cX7_sorts 10 = .ok (.invokestatic 106, 3) := by decide +kernel
theorem dX7_sorts_13 : decode cX7_sorts 13 = .ok (.ifCond .eq 14, 3) := by decide +kernel
theorem dX7_sorts_16 : decode cX7_sorts 16 = .ok (.iload 4, 2) := by decide +kernel
theorem dX7_sorts_18 : decode cX7_sorts 18 = .ok (.iconst 0, 1) := by decide +kernel
theorem dX7_sorts_19 : decode cX7_sorts 19 = .ok (.bipush 8, 2) := by decide +kernel
theorem dX7_sorts_21 : decode cX7_sorts 21 = .ok (.invokestatic 106, 3) := by decide +kernel
theorem dX7_sorts_24 : decode cX7_sorts 24 = .ok (.ifCond .ne 6, 3) := by decide +kernel
theorem dX7_sorts_27 : decode cX7_sorts 27 = .ok (.bipush (-2), 2) := by decide +kernel
theorem dX7_sorts_29 : decode cX7_sorts 29 = .ok (.ireturn, 1) := by decide +kernel
theorem dX7_sorts_30 : decode cX7_sorts 30 = .ok (.aload_n 0, 1) := by decide +kernel
theorem dX7_sorts_31 : decode cX7_sorts 31 = .ok (.getfield 65, 3) := by decide +kernel
theorem dX7_sorts_34 : decode cX7_sorts 34 = .ok (.iload_n 1, 1) := by decide +kernel
theorem dX7_sorts_35 : decode cX7_sorts 35 = .ok (.aaload, 1) := by decide +kernel
theorem dX7_sorts_36 : decode cX7_sorts 36 = .ok (.astore 5, 2) := by decide +kernel
theorem dX7_sorts_38 : decode cX7_sorts 38 = .ok (.aload 5, 2) := by decide +kernel
theorem dX7_sorts_40 : decode cX7_sorts 40 = .ok (.getfield 225, 3) := by decide +kernel
theorem dX7_sorts_43 : decode cX7_sorts 43 = .ok (.iconst (-1), 1) := by decide +kernel
theorem dX7_sorts_44 : decode cX7_sorts 44 = .ok (.if_icmp .ne 6, 3) := by decide +kernel
theorem dX7_sorts_47 : decode cX7_sorts 47 = .ok (.bipush (-11), 2) := by decide +kernel
theorem dX7_sorts_49 : decode cX7_sorts 49 = .ok (.ireturn, 1) := by decide +kernel
theorem dX7_sorts_50 : decode cX7_sorts 50 = .ok (.aload 5, 2) := by decide +kernel
theorem dX7_sorts_52 : decode cX7_sorts 52 = .ok (.getfield 225, 3) := by decide +kernel
theorem dX7_sorts_55 : decode cX7_sorts 55 = .ok (.iload_n 2, 1) := by decide +kernel
theorem dX7_sorts_56 : decode cX7_sorts 56 = .ok (.if_icmp .eq 6, 3) := by decide +kernel
theorem dX7_sorts_59 : decode cX7_sorts 59 = .ok (.bipush (-13), 2) := by decide +kernel
theorem dX7_sorts_61 : decode cX7_sorts 61 = .ok (.ireturn, 1) := by decide +kernel
theorem dX7_sorts_62 : decode cX7_sorts 62 = .ok (.iconst 0, 1) := by decide +kernel
theorem dX7_sorts_63 : decode cX7_sorts 63 = .ok (.istore 6, 2) := by decide +kernel
theorem dX7_sorts_65 : decode cX7_sorts 65 = .ok (.iconst 0, 1) := by decide +kernel
theorem dX7_sorts_66 : decode cX7_sorts 66 = .ok (.istore 7, 2) := by decide +kernel
theorem dX7_sorts_68 : decode cX7_sorts 68 = .ok (.iload 7, 2) := by decide +kernel
theorem dX7_sorts_70 : decode cX7_sorts 70 = .ok (.iload 4, 2) := by decide +kernel
theorem dX7_sorts_72 : decode cX7_sorts 72 = .ok (.if_icmp .ge 73, 3) := by decide +kernel
theorem dX7_sorts_75 : decode cX7_sorts 75 = .ok (.iload_n 3, 1) := by decide +kernel
theorem dX7_sorts_76 : decode cX7_sorts 76 = .ok (.iconst 2, 1) := by decide +kernel
theorem dX7_sorts_77 : decode cX7_sorts 77 = .ok (.iload 7, 2) := by decide +kernel
theorem dX7_sorts_79 : decode cX7_sorts 79 = .ok (.imul, 1) := by decide +kernel
theorem dX7_sorts_80 : decode cX7_sorts 80 = .ok (.iadd, 1) := by decide +kernel
theorem dX7_sorts_81 : decode cX7_sorts 81 = .ok (.istore 8, 2) := by decide +kernel
theorem dX7_sorts_83 : decode cX7_sorts 83 = .ok (.aload 5, 2) := by decide +kernel
theorem dX7_sorts_85 : decode cX7_sorts 85 = .ok (.iload 8, 2) := by decide +kernel
theorem dX7_sorts_87 : decode cX7_sorts 87 = .ok (.invokevirtual 251, 3) := by decide +kernel
theorem dX7_sorts_90 : decode cX7_sorts 90 = .ok (.ifCond .eq 15, 3) := by decide +kernel
theorem dX7_sorts_93 : decode cX7_sorts 93 = .ok (.aload 5, 2) := by decide +kernel
theorem dX7_sorts_95 : decode cX7_sorts 95 = .ok (.iload 8, 2) := by decide +kernel
theorem dX7_sorts_97 : decode cX7_sorts 97 = .ok (.iconst 1, 1) := by decide +kernel
theorem dX7_sorts_98 : decode cX7_sorts 98 = .ok (.iadd, 1) := by decide +kernel
theorem dX7_sorts_99 : decode cX7_sorts 99 = .ok (.invokevirtual 251, 3) := by decide +kernel
theorem dX7_sorts_102 : decode cX7_sorts 102 = .ok (.ifCond .ne 6, 3) := by decide +kernel
theorem dX7_sorts_105 : decode cX7_sorts 105 = .ok (.bipush (-12), 2) := by decide +kernel
theorem dX7_sorts_107 : decode cX7_sorts 107 = .ok (.ireturn, 1) := by decide +kernel
theorem dX7_sorts_108 : decode cX7_sorts 108 = .ok (.aload_n 0, 1) := by decide +kernel
theorem dX7_sorts_109 : decode cX7_sorts 109 = .ok (.getfield 10, 3) := by decide +kernel
theorem dX7_sorts_112 : decode cX7_sorts 112 = .ok (.aload 5, 2) := by decide +kernel
theorem dX7_sorts_114 : decode cX7_sorts 114 = .ok (.getfield 260, 3) := by decide +kernel
theorem dX7_sorts_117 : decode cX7_sorts 117 = .ok (.iload 8, 2) := by decide +kernel
theorem dX7_sorts_119 : decode cX7_sorts 119 = .ok (.iaload, 1) := by decide +kernel
theorem dX7_sorts_120 : decode cX7_sorts 120 = .ok (.aload 5, 2) := by decide +kernel
theorem dX7_sorts_122 : decode cX7_sorts 122 = .ok (.getfield 260, 3) := by decide +kernel
theorem dX7_sorts_125 : decode cX7_sorts 125 = .ok (.iload 8, 2) := by decide +kernel
theorem dX7_sorts_127 : decode cX7_sorts 127 = .ok (.iconst 1, 1) := by decide +kernel
theorem dX7_sorts_128 : decode cX7_sorts 128 = .ok (.iadd, 1) := by decide +kernel
theorem dX7_sorts_129 : decode cX7_sorts 129 = .ok (.iaload, 1) := by decide +kernel
theorem dX7_sorts_130 : decode cX7_sorts 130 = .ok (.invokevirtual 102, 3) := by decide +kernel
theorem dX7_sorts_133 : decode cX7_sorts 133 = .ok (.ifCond .lt 6, 3) := by decide +kernel
theorem dX7_sorts_136 : decode cX7_sorts 136 = .ok (.iinc 6 1, 3) := by decide +kernel
theorem dX7_sorts_139 : decode cX7_sorts 139 = .ok (.iinc 7 1, 3) := by decide +kernel
theorem dX7_sorts_142 : decode cX7_sorts 142 = .ok (.goto (-74), 3) := by decide +kernel
theorem dX7_sorts_145 : decode cX7_sorts 145 = .ok (.iload 6, 2) := by decide +kernel
theorem dX7_sorts_147 : decode cX7_sorts 147 = .ok (.ireturn, 1) := by decide +kernel
theorem dX7_taken_0 : decode cX7_taken 0 = .ok (.iload_n 2, 1) := by decide +kernel
theorem dX7_taken_1 : decode cX7_taken 1 = .ok (.iconst 0, 1) := by decide +kernel
theorem dX7_taken_2 : decode cX7_taken 2 = .ok (.iconst 5, 1) := by decide +kernel
theorem dX7_taken_3 : decode cX7_taken 3 = .ok (.invokestatic 106, 3) := by decide +kernel
theorem dX7_taken_6 : decode cX7_taken 6 = .ok (.ifCond .ne 6, 3) := by decide +kernel
theorem dX7_taken_9 : decode cX7_taken 9 = .ok (.bipush (-2), 2) := by decide +kernel
theorem dX7_taken_11 : decode cX7_taken 11 = .ok (.ireturn, 1) := by decide +kernel
theorem dX7_taken_12 : decode cX7_taken 12 = .ok (.aload_n 0, 1) := by decide +kernel
theorem dX7_taken_13 : decode cX7_taken 13 = .ok (.iload_n 1, 1) := by decide +kernel
theorem dX7_taken_14 : decode cX7_taken 14 = .ok (.invokevirtual 139, 3) := by decide +kernel
theorem dX7_taken_17 : decode cX7_taken 17 = .ok (.astore_n 3, 1) := by decide +kernel
theorem dX7_taken_18 : decode cX7_taken 18 = .ok (.aload_n 3, 1) := by decide +kernel
theorem dX7_taken_19 : decode cX7_taken 19 = .ok (.ifnonnull 6, 3) := by decide +kernel
theorem dX7_taken_22 : decode cX7_taken 22 = .ok (.bipush (-11), 2) := by decide +kernel
theorem dX7_taken_24 : decode cX7_taken 24 = .ok (.ireturn, 1) := by decide +kernel
theorem dX7_taken_25 : decode cX7_taken 25 = .ok (.aload_n 3, 1) := by decide +kernel
theorem dX7_taken_26 : decode cX7_taken 26 = .ok (.iload_n 2, 1) := by decide +kernel
theorem dX7_taken_27 : decode cX7_taken 27 = .ok (.invokevirtual 269, 3) := by decide +kernel
theorem dX7_taken_30 : decode cX7_taken 30 = .ok (.ifCond .eq 10, 3) := by decide +kernel
theorem dX7_taken_33 : decode cX7_taken 33 = .ok (.aload_n 3, 1) := by decide +kernel
theorem dX7_taken_34 : decode cX7_taken 34 = .ok (.getfield 149, 3) := by decide +kernel
theorem dX7_taken_37 : decode cX7_taken 37 = .ok (.goto 5, 3) := by decide +kernel
theorem dX7_taken_40 : decode cX7_taken 40 = .ok (.bipush (-13), 2) := by decide +kernel
theorem dX7_taken_42 : decode cX7_taken 42 = .ok (.ireturn, 1) := by decide +kernel
theorem dX7_between_0 : decode cX7_between 0 = .ok (.iload_n 1, 1) := by decide +kernel
theorem dX7_between_1 : decode cX7_between 1 = .ok (.iload_n 0, 1) := by decide +kernel
theorem dX7_between_2 : decode cX7_between 2 = .ok (.if_icmp .gt 12, 3) := by decide +kernel
theorem dX7_between_5 : decode cX7_between 5 = .ok (.iload_n 0, 1) := by decide +kernel
theorem dX7_between_6 : decode cX7_between 6 = .ok (.iload_n 2, 1) := by decide +kernel
theorem dX7_between_7 : decode cX7_between 7 = .ok (.if_icmp .gt 7, 3) := by decide +kernel
theorem dX7_between_10 : decode cX7_between 10 = .ok (.iconst 1, 1) := by decide +kernel
theorem dX7_between_11 : decode cX7_between 11 = .ok (.goto 4, 3) := by decide +kernel
theorem dX7_between_14 : decode cX7_between 14 = .ok (.iconst 0, 1) := by decide +kernel
theorem dX7_between_15 : decode cX7_between 15 = .ok (.ireturn, 1) := by decide +kernel
theorem dX7_bounded_0 : decode cX7_bounded 0 = .ok (.iload_n 1, 1) := by decide +kernel
theorem dX7_bounded_1 : decode cX7_bounded 1 = .ok (.iload_n 2, 1) := by decide +kernel
theorem dX7_bounded_2 : decode cX7_bounded 2 = .ok (.iload_n 0, 1) := by decide +kernel
theorem dX7_bounded_3 : decode cX7_bounded 3 = .ok (.invokestatic 272, 3) := by decide +kernel
theorem dX7_bounded_6 : decode cX7_bounded 6 = .ok (.invokestatic 277, 3) := by decide +kernel
theorem dX7_bounded_9 : decode cX7_bounded 9 = .ok (.ireturn, 1) := by decide +kernel
theorem dX7_isMinute_0 : decode cX7_isMinute 0 = .ok (.iload_n 0, 1) := by decide +kernel
theorem dX7_isMinute_1 : decode cX7_isMinute 1 = .ok (.iconst 0, 1) := by decide +kernel
theorem dX7_isMinute_2 : decode cX7_isMinute 2 = .ok (.bipush 119, 2) := by decide +kernel
theorem dX7_isMinute_4 : decode cX7_isMinute 4 = .ok (.invokestatic 106, 3) := by decide +kernel
theorem dX7_isMinute_7 : decode cX7_isMinute 7 = .ok (.ireturn, 1) := by decide +kernel
theorem dX7_isSheet_0 : decode cX7_isSheet 0 = .ok (.iload_n 0, 1) := by decide +kernel
theorem dX7_isSheet_1 : decode cX7_isSheet 1 = .ok (.iconst 0, 1) := by decide +kernel
theorem dX7_isSheet_2 : decode cX7_isSheet 2 = .ok (.iconst 3, 1) := by decide +kernel
theorem dX7_isSheet_3 : decode cX7_isSheet 3 = .ok (.invokestatic 106, 3) := by decide +kernel
theorem dX7_isSheet_6 : decode cX7_isSheet 6 = .ok (.ireturn, 1) := by decide +kernel
theorem dX7_fits_0 : decode cX7_fits 0 = .ok (.iload_n 0, 1) := by decide +kernel
theorem dX7_fits_1 : decode cX7_fits 1 = .ok (.iconst 0, 1) := by decide +kernel
theorem dX7_fits_2 : decode cX7_fits 2 = .ok (.iconst 5, 1) := by decide +kernel
theorem dX7_fits_3 : decode cX7_fits 3 = .ok (.invokestatic 106, 3) := by decide +kernel
theorem dX7_fits_6 : decode cX7_fits 6 = .ok (.ifCond .eq 24, 3) := by decide +kernel
theorem dX7_fits_9 : decode cX7_fits 9 = .ok (.iload_n 1, 1) := by decide +kernel
theorem dX7_fits_10 : decode cX7_fits 10 = .ok (.getstatic 280, 3) := by decide +kernel
theorem dX7_fits_13 : decode cX7_fits 13 = .ok (.iload_n 0, 1) := by decide +kernel
theorem dX7_fits_14 : decode cX7_fits 14 = .ok (.iaload, 1) := by decide +kernel
theorem dX7_fits_15 : decode cX7_fits 15 = .ok (.getstatic 283, 3) := by decide +kernel
theorem dX7_fits_18 : decode cX7_fits 18 = .ok (.iload_n 0, 1) := by decide +kernel
theorem dX7_fits_19 : decode cX7_fits 19 = .ok (.iaload, 1) := by decide +kernel
theorem dX7_fits_20 : decode cX7_fits 20 = .ok (.invokestatic 106, 3) := by decide +kernel
theorem dX7_fits_23 : decode cX7_fits 23 = .ok (.ifCond .eq 7, 3) := by decide +kernel
theorem dX7_fits_26 : decode cX7_fits 26 = .ok (.iconst 1, 1) := by decide +kernel
theorem dX7_fits_27 : decode cX7_fits 27 = .ok (.goto 4, 3) := by decide +kernel
theorem dX7_fits_30 : decode cX7_fits 30 = .ok (.iconst 0, 1) := by decide +kernel
theorem dX7_fits_31 : decode cX7_fits 31 = .ok (.ireturn, 1) := by decide +kernel
theorem dX7_isSortOrAll_0 : decode cX7_isSortOrAll 0 = .ok (.iload_n 1, 1) := by decide +kernel
theorem dX7_isSortOrAll_1 : decode cX7_isSortOrAll 1 = .ok (.iconst (-1), 1) := by decide +kernel
theorem dX7_isSortOrAll_2 : decode cX7_isSortOrAll 2 = .ok (.aload_n 0, 1) := by decide +kernel
theorem dX7_isSortOrAll_3 : decode cX7_isSortOrAll 3 = .ok (.getfield 10, 3) := by decide +kernel
theorem dX7_isSortOrAll_6 : decode cX7_isSortOrAll 6 = .ok (.getfield 216, 3) := by decide +kernel
theorem dX7_isSortOrAll_9 : decode cX7_isSortOrAll 9 = .ok (.iconst 1, 1) := by decide +kernel
theorem dX7_isSortOrAll_10 : decode cX7_isSortOrAll 10 = .ok (.isub, 1) := by decide +kernel
theorem dX7_isSortOrAll_11 : decode cX7_isSortOrAll 11 = .ok (.invokestatic 106, 3) := by decide +kernel
theorem dX7_isSortOrAll_14 : decode cX7_isSortOrAll 14 = .ok (.ireturn, 1) := by decide +kernel
theorem dX7_wayAt_0 : decode cX7_wayAt 0 = .ok (.iload_n 1, 1) := by decide +kernel
theorem dX7_wayAt_1 : decode cX7_wayAt 1 = .ok (.iconst 0, 1) := by decide +kernel
theorem dX7_wayAt_2 : decode cX7_wayAt 2 = .ok (.aload_n 0, 1) := by decide +kernel
theorem dX7_wayAt_3 : decode cX7_wayAt 3 = .ok (.getfield 36, 3) := by decide +kernel
theorem dX7_wayAt_6 : decode cX7_wayAt 6 = .ok (.iconst 1, 1) := by decide +kernel
theorem dX7_wayAt_7 : decode cX7_wayAt 7 = .ok (.isub, 1) := by decide +kernel
theorem dX7_wayAt_8 : decode cX7_wayAt 8 = .ok (.invokestatic 106, 3) := by decide +kernel
theorem dX7_wayAt_11 : decode cX7_wayAt 11 = .ok (.ifCond .eq 12, 3) := by decide +kernel
theorem dX7_wayAt_14 : decode cX7_wayAt 14 = .ok (.aload_n 0, 1) := by decide +kernel
theorem dX7_wayAt_15 : decode cX7_wayAt 15 = .ok (.getfield 32, 3) := by decide +kernel
theorem dX7_wayAt_18 : decode cX7_wayAt 18 = .ok (.iload_n 1, 1) := by decide +kernel
theorem dX7_wayAt_19 : decode cX7_wayAt 19 = .ok (.aaload, 1) := by decide +kernel
theorem dX7_wayAt_20 : decode cX7_wayAt 20 = .ok (.goto 4, 3) := by decide +kernel
theorem dX7_wayAt_23 : decode cX7_wayAt 23 = .ok (.aconst_null, 1) := by decide +kernel
theorem dX7_wayAt_24 : decode cX7_wayAt 24 = .ok (.areturn, 1) := by decide +kernel
theorem dX7_runDay_0 : decode cX7_runDay 0 = .ok (.aload_n 0, 1) := by decide +kernel
theorem dX7_runDay_1 : decode cX7_runDay 1 = .ok (.getfield 72, 3) := by decide +kernel
theorem dX7_runDay_4 : decode cX7_runDay 4 = .ok (.aload_n 1, 1) := by decide +kernel
theorem dX7_runDay_5 : decode cX7_runDay 5 = .ok (.aload_n 1, 1) := by decide +kernel
theorem dX7_runDay_6 : decode cX7_runDay 6 = .ok (.getfield 146, 3) := by decide +kernel
theorem dX7_runDay_9 : decode cX7_runDay 9 = .ok (.aload_n 0, 1) := by decide +kernel
theorem dX7_runDay_10 : decode cX7_runDay 10 = .ok (.getfield 10, 3) := by decide +kernel
theorem dX7_runDay_13 : decode cX7_runDay 13 = .ok (.invokevirtual 231, 3) := by decide +kernel
theorem dX7_runDay_16 : decode cX7_runDay 16 = .ok (.aload_n 0, 1) := by decide +kernel
theorem dX7_runDay_17 : decode cX7_runDay 17 = .ok (.getfield 72, 3) := by decide +kernel
theorem dX7_runDay_20 : decode cX7_runDay 20 = .ok (.aload_n 0, 1) := by decide +kernel
theorem dX7_runDay_21 : decode cX7_runDay 21 = .ok (.getfield 10, 3) := by decide +kernel
theorem dX7_runDay_24 : decode cX7_runDay 24 = .ok (.aload_n 0, 1) := by decide +kernel
theorem dX7_runDay_25 : decode cX7_runDay 25 = .ok (.getfield 26, 3) := by decide +kernel
theorem dX7_runDay_28 : decode cX7_runDay 28 = .ok (.aload_n 0, 1) := by decide +kernel
theorem dX7_runDay_29 : decode cX7_runDay 29 = .ok (.getfield 26, 3) := by decide +kernel
theorem dX7_runDay_32 : decode cX7_runDay 32 = .ok (.getfield 184, 3) := by decide +kernel
theorem dX7_runDay_35 : decode cX7_runDay 35 = .ok (.aload_n 0, 1) := by decide +kernel
theorem dX7_runDay_36 : decode cX7_runDay 36 = .ok (.getfield 56, 3) := by decide +kernel
theorem dX7_runDay_39 : decode cX7_runDay 39 = .ok (.aload_n 0, 1) := by decide +kernel
theorem dX7_runDay_40 : decode cX7_runDay 40 = .ok (.getfield 10, 3) := by decide +kernel
theorem dX7_runDay_43 : decode cX7_runDay 43 = .ok (.getfield 164, 3) := by decide +kernel
theorem dX7_runDay_46 : decode cX7_runDay 46 = .ok (.aaload, 1) := by decide +kernel
theorem dX7_runDay_47 : decode cX7_runDay 47 = .ok (.invokevirtual 239, 3) := by decide +kernel
theorem dX7_runDay_50 : decode cX7_runDay 50 = .ok (.return_, 1) := by decide +kernel
theorem dX7_leftBy_0 : decode cX7_leftBy 0 = .ok (.aload_n 0, 1) := by decide +kernel
theorem dX7_leftBy_1 : decode cX7_leftBy 1 = .ok (.getfield 72, 3) := by decide +kernel
theorem dX7_leftBy_4 : decode cX7_leftBy 4 = .ok (.aload_n 1, 1) := by decide +kernel
theorem dX7_leftBy_5 : decode cX7_leftBy 5 = .ok (.iload_n 2, 1) := by decide +kernel
theorem dX7_leftBy_6 : decode cX7_leftBy 6 = .ok (.aload_n 0, 1) := by decide +kernel
theorem dX7_leftBy_7 : decode cX7_leftBy 7 = .ok (.getfield 10, 3) := by decide +kernel
theorem dX7_leftBy_10 : decode cX7_leftBy 10 = .ok (.invokevirtual 231, 3) := by decide +kernel
theorem dX7_leftBy_13 : decode cX7_leftBy 13 = .ok (.aload_n 0, 1) := by decide +kernel
theorem dX7_leftBy_14 : decode cX7_leftBy 14 = .ok (.getfield 72, 3) := by decide +kernel
theorem dX7_leftBy_17 : decode cX7_leftBy 17 = .ok (.aload_n 0, 1) := by decide +kernel
theorem dX7_leftBy_18 : decode cX7_leftBy 18 = .ok (.getfield 10, 3) := by decide +kernel
theorem dX7_leftBy_21 : decode cX7_leftBy 21 = .ok (.aload_n 0, 1) := by decide +kernel
theorem dX7_leftBy_22 : decode cX7_leftBy 22 = .ok (.getfield 26, 3) := by decide +kernel
theorem dX7_leftBy_25 : decode cX7_leftBy 25 = .ok (.aload_n 0, 1) := by decide +kernel
theorem dX7_leftBy_26 : decode cX7_leftBy 26 = .ok (.getfield 26, 3) := by decide +kernel
theorem dX7_leftBy_29 : decode cX7_leftBy 29 = .ok (.getfield 184, 3) := by decide +kernel
theorem dX7_leftBy_32 : decode cX7_leftBy 32 = .ok (.iload_n 3, 1) := by decide +kernel
theorem dX7_leftBy_33 : decode cX7_leftBy 33 = .ok (.iadd, 1) := by decide +kernel
theorem dX7_leftBy_34 : decode cX7_leftBy 34 = .ok (.aload_n 0, 1) := by decide +kernel
theorem dX7_leftBy_35 : decode cX7_leftBy 35 = .ok (.getfield 56, 3) := by decide +kernel
theorem dX7_leftBy_38 : decode cX7_leftBy 38 = .ok (.aload_n 0, 1) := by decide +kernel
theorem dX7_leftBy_39 : decode cX7_leftBy 39 = .ok (.getfield 10, 3) := by decide +kernel
theorem dX7_leftBy_42 : decode cX7_leftBy 42 = .ok (.getfield 164, 3) := by decide +kernel
theorem dX7_leftBy_45 : decode cX7_leftBy 45 = .ok (.aaload, 1) := by decide +kernel
theorem dX7_leftBy_46 : decode cX7_leftBy 46 = .ok (.invokevirtual 239, 3) := by decide +kernel
theorem dX7_leftBy_49 : decode cX7_leftBy 49 = .ok (.aload_n 0, 1) := by decide +kernel
theorem dX7_leftBy_50 : decode cX7_leftBy 50 = .ok (.getfield 72, 3) := by decide +kernel
theorem dX7_leftBy_53 : decode cX7_leftBy 53 = .ok (.aload_n 0, 1) := by decide +kernel
theorem dX7_leftBy_54 : decode cX7_leftBy 54 = .ok (.getfield 10, 3) := by decide +kernel
theorem dX7_leftBy_57 : decode cX7_leftBy 57 = .ok (.iconst (-1), 1) := by decide +kernel
theorem dX7_leftBy_58 : decode cX7_leftBy 58 = .ok (.invokevirtual 174, 3) := by decide +kernel
theorem dX7_leftBy_61 : decode cX7_leftBy 61 = .ok (.ireturn, 1) := by decide +kernel
theorem dJ9_max_7cf53_0 : decode cJ9_max_7cf53 0 = .ok (.iload_n 0, 1) := by decide +kernel
theorem dJ9_max_7cf53_1 : decode cJ9_max_7cf53 1 = .ok (.iload_n 1, 1) := by decide +kernel
theorem dJ9_max_7cf53_2 : decode cJ9_max_7cf53 2 = .ok (.if_icmp .lt 7, 3) := by decide +kernel
theorem dJ9_max_7cf53_5 : decode cJ9_max_7cf53 5 = .ok (.iload_n 0, 1) := by decide +kernel
theorem dJ9_max_7cf53_6 : decode cJ9_max_7cf53 6 = .ok (.goto 4, 3) := by decide +kernel
theorem dJ9_max_7cf53_9 : decode cJ9_max_7cf53 9 = .ok (.iload_n 1, 1) := by decide +kernel
theorem dJ9_max_7cf53_10 : decode cJ9_max_7cf53 10 = .ok (.ireturn, 1) := by decide +kernel
theorem dJ9_min_7cf53_0 : decode cJ9_min_7cf53 0 = .ok (.iload_n 0, 1) := by decide +kernel
theorem dJ9_min_7cf53_1 : decode cJ9_min_7cf53 1 = .ok (.iload_n 1, 1) := by decide +kernel
theorem dJ9_min_7cf53_2 : decode cJ9_min_7cf53 2 = .ok (.if_icmp .gt 7, 3) := by decide +kernel
theorem dJ9_min_7cf53_5 : decode cJ9_min_7cf53 5 = .ok (.iload_n 0, 1) := by decide +kernel
theorem dJ9_min_7cf53_6 : decode cJ9_min_7cf53 6 = .ok (.goto 4, 3) := by decide +kernel
theorem dJ9_min_7cf53_9 : decode cJ9_min_7cf53 9 = .ok (.iload_n 1, 1) := by decide +kernel
theorem dJ9_min_7cf53_10 : decode cJ9_min_7cf53 10 = .ok (.ireturn, 1) := by decide +kernel
theorem dJ0_length_8abf5_0 : decode cJ0_length_8abf5 0 = .ok (.aload_n 0, 1) := by decide +kernel
theorem dJ0_length_8abf5_1 : decode cJ0_length_8abf5 1 = .ok (.getfield 9, 3) := by decide +kernel
theorem dJ0_length_8abf5_4 : decode cJ0_length_8abf5 4 = .ok (.arraylength, 1) := by decide +kernel
theorem dJ0_length_8abf5_5 : decode cJ0_length_8abf5 5 = .ok (.aload_n 0, 1) := by decide +kernel
theorem dJ0_length_8abf5_6 : decode cJ0_length_8abf5 6 = .ok (.invokevirtual 335, 3) := by decide +kernel
theorem dJ0_length_8abf5_9 : decode cJ0_length_8abf5 9 = .ok (.ishr, 1) := by decide +kernel
theorem dJ0_length_8abf5_10 : decode cJ0_length_8abf5 10 = .ok (.ireturn, 1) := by decide +kernel
theorem dJ0_charAt_5068e_0 : decode cJ0_charAt_5068e 0 = .ok (.aload_n 0, 1) := by decide +kernel
theorem dJ0_charAt_5068e_1 : decode cJ0_charAt_5068e 1 = .ok (.invokevirtual 492, 3) := by decide +kernel
theorem dJ0_charAt_5068e_4 : decode cJ0_charAt_5068e 4 = .ok (.ifCond .eq 12, 3) := by decide +kernel
theorem dJ0_charAt_5068e_7 : decode cJ0_charAt_5068e 7 = .ok (.aload_n 0, 1) := by decide +kernel
theorem dJ0_charAt_5068e_8 : decode cJ0_charAt_5068e 8 = .ok (.getfield 9, 3) := by decide +kernel
theorem dJ0_charAt_5068e_11 : decode cJ0_charAt_5068e 11 = .ok (.iload_n 1, 1) := by decide +kernel
theorem dJ0_charAt_5068e_12 : decode cJ0_charAt_5068e 12 = .ok (.invokestatic 495, 3) := by decide +kernel
theorem dJ0_charAt_5068e_15 : decode cJ0_charAt_5068e 15 = .ok (.ireturn, 1) := by decide +kernel
theorem dJ0_charAt_5068e_16 : decode cJ0_charAt_5068e 16 = .ok (.aload_n 0, 1) := by decide +kernel
theorem dJ0_charAt_5068e_17 : decode cJ0_charAt_5068e 17 = .ok (.getfield 9, 3) := by decide +kernel
theorem dJ0_charAt_5068e_20 : decode cJ0_charAt_5068e 20 = .ok (.iload_n 1, 1) := by decide +kernel
theorem dJ0_charAt_5068e_21 : decode cJ0_charAt_5068e 21 = .ok (.invokestatic 498, 3) := by decide +kernel
theorem dJ0_charAt_5068e_24 : decode cJ0_charAt_5068e 24 = .ok (.ireturn, 1) := by decide +kernel
theorem dJ0_coder_7d493_0 : decode cJ0_coder_7d493 0 = .ok (.getstatic 38, 3) := by decide +kernel
theorem dJ0_coder_7d493_3 : decode cJ0_coder_7d493 3 = .ok (.ifCond .eq 10, 3) := by decide +kernel
theorem dJ0_coder_7d493_6 : decode cJ0_coder_7d493 6 = .ok (.aload_n 0, 1) := by decide +kernel
theorem dJ0_coder_7d493_7 : decode cJ0_coder_7d493 7 = .ok (.getfield 15, 3) := by decide +kernel
theorem dJ0_coder_7d493_10 : decode cJ0_coder_7d493 10 = .ok (.goto 4, 3) := by decide +kernel
theorem dJ0_coder_7d493_13 : decode cJ0_coder_7d493 13 = .ok (.iconst 1, 1) := by decide +kernel
theorem dJ0_coder_7d493_14 : decode cJ0_coder_7d493 14 = .ok (.ireturn, 1) := by decide +kernel
theorem dJ0_isLatin1_aae02_0 : decode cJ0_isLatin1_aae02 0 = .ok (.getstatic 38, 3) := by decide +kernel
theorem dJ0_isLatin1_aae02_3 : decode cJ0_isLatin1_aae02 3 = .ok (.ifCond .eq 14, 3) := by decide +kernel
theorem dJ0_isLatin1_aae02_6 : decode cJ0_isLatin1_aae02 6 = .ok (.aload_n 0, 1) := by decide +kernel
theorem dJ0_isLatin1_aae02_7 : decode cJ0_isLatin1_aae02 7 = .ok (.getfield 15, 3) := by decide +kernel
theorem dJ0_isLatin1_aae02_10 : decode cJ0_isLatin1_aae02 10 = .ok (.ifCond .ne 7, 3) := by decide +kernel
theorem dJ0_isLatin1_aae02_13 : decode cJ0_isLatin1_aae02 13 = .ok (.iconst 1, 1) := by decide +kernel
theorem dJ0_isLatin1_aae02_14 : decode cJ0_isLatin1_aae02 14 = .ok (.goto 4, 3) := by decide +kernel
theorem dJ0_isLatin1_aae02_17 : decode cJ0_isLatin1_aae02 17 = .ok (.iconst 0, 1) := by decide +kernel
theorem dJ0_isLatin1_aae02_18 : decode cJ0_isLatin1_aae02 18 = .ok (.ireturn, 1) := by decide +kernel
theorem dJ0_checkIndex_df160_0 : decode cJ0_checkIndex_df160 0 = .ok (.iload_n 0, 1) := by decide +kernel
theorem dJ0_checkIndex_df160_1 : decode cJ0_checkIndex_df160 1 = .ok (.iload_n 1, 1) := by decide +kernel
theorem dJ0_checkIndex_df160_2 : decode cJ0_checkIndex_df160 2 = .ok (.getstatic 1053, 3) := by decide +kernel
theorem dJ0_checkIndex_df160_5 : decode cJ0_checkIndex_df160 5 = .ok (.invokestatic 1059, 3) := by decide +kernel
theorem dJ0_checkIndex_df160_8 : decode cJ0_checkIndex_df160 8 = .ok (.pop, 1) := by decide +kernel
theorem dJ0_checkIndex_df160_9 : decode cJ0_checkIndex_df160 9 = .ok (.return_, 1) := by decide +kernel
theorem dJ1_charAt_3b067_0 : decode cJ1_charAt_3b067 0 = .ok (.iload_n 1, 1) := by decide +kernel
theorem dJ1_charAt_3b067_1 : decode cJ1_charAt_3b067 1 = .ok (.aload_n 0, 1) := by decide +kernel
theorem dJ1_charAt_3b067_2 : decode cJ1_charAt_3b067 2 = .ok (.arraylength, 1) := by decide +kernel
theorem dJ1_charAt_3b067_3 : decode cJ1_charAt_3b067 3 = .ok (.invokestatic 9, 3) := by decide +kernel
theorem dJ1_charAt_3b067_6 : decode cJ1_charAt_3b067 6 = .ok (.aload_n 0, 1) := by decide +kernel
theorem dJ1_charAt_3b067_7 : decode cJ1_charAt_3b067 7 = .ok (.iload_n 1, 1) := by decide +kernel
theorem dJ1_charAt_3b067_8 : decode cJ1_charAt_3b067 8 = .ok (.baload, 1) := by decide +kernel
theorem dJ1_charAt_3b067_9 : decode cJ1_charAt_3b067 9 = .ok (.sipush 255, 3) := by decide +kernel
theorem dJ1_charAt_3b067_12 : decode cJ1_charAt_3b067 12 = .ok (.iand, 1) := by decide +kernel
theorem dJ1_charAt_3b067_13 : decode cJ1_charAt_3b067 13 = .ok (.i2c, 1) := by decide +kernel
theorem dJ1_charAt_3b067_14 : decode cJ1_charAt_3b067 14 = .ok (.ireturn, 1) := by decide +kernel
theorem dJ2_getChar_3b067_0 : decode cJ2_getChar_3b067 0 = .ok (.getstatic 44, 3) := by decide +kernel
theorem dJ2_getChar_3b067_3 : decode cJ2_getChar_3b067 3 = .ok (.ifCond .ne 25, 3) := by decide +kernel
theorem dJ2_getChar_3b067_6 : decode cJ2_getChar_3b067 6 = .ok (.iload_n 1, 1) := by decide +kernel
theorem dJ2_getChar_3b067_7 : decode cJ2_getChar_3b067 7 = .ok (.ifCond .lt 11, 3) := by decide +kernel
theorem dJ2_getChar_3b067_10 : decode cJ2_getChar_3b067 10 = .ok (.iload_n 1, 1) := by decide +kernel
theorem dJ2_getChar_3b067_11 : decode cJ2_getChar_3b067 11 = .ok (.aload_n 0, 1) := by decide +kernel
theorem dJ2_getChar_3b067_12 : decode cJ2_getChar_3b067 12 = .ok (.invokestatic 48, 3) := by decide +kernel
theorem dJ2_getChar_3b067_15 : decode cJ2_getChar_3b067 15 = .ok (.if_icmp .lt 13, 3) := by decide +kernel
theorem dJ2_getChar_3b067_18 : decode cJ2_getChar_3b067 18 = .ok (.new 52, 3) := by decide +kernel
theorem dJ2_getChar_3b067_21 : decode cJ2_getChar_3b067 21 = .ok (.dup, 1) := by decide +kernel
theorem dJ2_getChar_3b067_22 : decode cJ2_getChar_3b067 22 = .ok (.ldc 54, 2) := by decide +kernel
theorem dJ2_getChar_3b067_24 : decode cJ2_getChar_3b067 24 = .ok (.invokespecial 56, 3) := by decide +kernel
theorem dJ2_getChar_3b067_27 : decode cJ2_getChar_3b067 27 = .ok (.athrow, 1) := by decide +kernel
theorem dJ2_getChar_3b067_28 : decode cJ2_getChar_3b067 28 = .ok (.iload_n 1, 1) := by decide +kernel
theorem dJ2_getChar_3b067_29 : decode cJ2_getChar_3b067 29 = .ok (.iconst 1, 1) := by decide +kernel
theorem dJ2_getChar_3b067_30 : decode cJ2_getChar_3b067 30 = .ok (.ishl, 1) := by decide +kernel
theorem dJ2_getChar_3b067_31 : decode cJ2_getChar_3b067 31 = .ok (.istore_n 1, 1) := by decide +kernel
theorem dJ2_getChar_3b067_32 : decode cJ2_getChar_3b067 32 = .ok (.aload_n 0, 1) := by decide +kernel
theorem dJ2_getChar_3b067_33 : decode cJ2_getChar_3b067 33 = .ok (.iload_n 1, 1) := by decide +kernel
theorem dJ2_getChar_3b067_34 : decode cJ2_getChar_3b067 34 = .ok (.iinc 1 1, 3) := by decide +kernel
theorem dJ2_getChar_3b067_37 : decode cJ2_getChar_3b067 37 = .ok (.baload, 1) := by decide +kernel
theorem dJ2_getChar_3b067_38 : decode cJ2_getChar_3b067 38 = .ok (.sipush 255, 3) := by decide +kernel
theorem dJ2_getChar_3b067_41 : decode cJ2_getChar_3b067 41 = .ok (.iand, 1) := by decide +kernel
theorem dJ2_getChar_3b067_42 : decode cJ2_getChar_3b067 42 = .ok (.getstatic 59, 3) := by decide +kernel
theorem dJ2_getChar_3b067_45 : decode cJ2_getChar_3b067 45 = .ok (.ishl, 1) := by decide +kernel
theorem dJ2_getChar_3b067_46 : decode cJ2_getChar_3b067 46 = .ok (.aload_n 0, 1) := by decide +kernel
theorem dJ2_getChar_3b067_47 : decode cJ2_getChar_3b067 47 = .ok (.iload_n 1, 1) := by decide +kernel
theorem dJ2_getChar_3b067_48 : decode cJ2_getChar_3b067 48 = .ok (.baload, 1) := by decide +kernel
theorem dJ2_getChar_3b067_49 : decode cJ2_getChar_3b067 49 = .ok (.sipush 255, 3) := by decide +kernel
theorem dJ2_getChar_3b067_52 : decode cJ2_getChar_3b067 52 = .ok (.iand, 1) := by decide +kernel
theorem dJ2_getChar_3b067_53 : decode cJ2_getChar_3b067 53 = .ok (.getstatic 63, 3) := by decide +kernel
theorem dJ2_getChar_3b067_56 : decode cJ2_getChar_3b067 56 = .ok (.ishl, 1) := by decide +kernel
theorem dJ2_getChar_3b067_57 : decode cJ2_getChar_3b067 57 = .ok (.ior, 1) := by decide +kernel
theorem dJ2_getChar_3b067_58 : decode cJ2_getChar_3b067 58 = .ok (.i2c, 1) := by decide +kernel
theorem dJ2_getChar_3b067_59 : decode cJ2_getChar_3b067 59 = .ok (.ireturn, 1) := by decide +kernel
theorem dJ2_length_9d52b_0 : decode cJ2_length_9d52b 0 = .ok (.aload_n 0, 1) := by decide +kernel
theorem dJ2_length_9d52b_1 : decode cJ2_length_9d52b 1 = .ok (.arraylength, 1) := by decide +kernel
theorem dJ2_length_9d52b_2 : decode cJ2_length_9d52b 2 = .ok (.iconst 1, 1) := by decide +kernel
theorem dJ2_length_9d52b_3 : decode cJ2_length_9d52b 3 = .ok (.ishr, 1) := by decide +kernel
theorem dJ2_length_9d52b_4 : decode cJ2_length_9d52b 4 = .ok (.ireturn, 1) := by decide +kernel
theorem dJ2_charAt_3b067_0 : decode cJ2_charAt_3b067 0 = .ok (.iload_n 1, 1) := by decide +kernel
theorem dJ2_charAt_3b067_1 : decode cJ2_charAt_3b067 1 = .ok (.aload_n 0, 1) := by decide +kernel
theorem dJ2_charAt_3b067_2 : decode cJ2_charAt_3b067 2 = .ok (.invokestatic 67, 3) := by decide +kernel
theorem dJ2_charAt_3b067_5 : decode cJ2_charAt_3b067 5 = .ok (.aload_n 0, 1) := by decide +kernel
theorem dJ2_charAt_3b067_6 : decode cJ2_charAt_3b067 6 = .ok (.iload_n 1, 1) := by decide +kernel
theorem dJ2_charAt_3b067_7 : decode cJ2_charAt_3b067 7 = .ok (.invokestatic 71, 3) := by decide +kernel
theorem dJ2_charAt_3b067_10 : decode cJ2_charAt_3b067 10 = .ok (.ireturn, 1) := by decide +kernel
theorem dJ2_checkIndex_2214a_0 : decode cJ2_checkIndex_2214a 0 = .ok (.iload_n 0, 1) := by decide +kernel
theorem dJ2_checkIndex_2214a_1 : decode cJ2_checkIndex_2214a 1 = .ok (.aload_n 1, 1) := by decide +kernel
theorem dJ2_checkIndex_2214a_2 : decode cJ2_checkIndex_2214a 2 = .ok (.invokestatic 48, 3) := by decide +kernel
theorem dJ2_checkIndex_2214a_5 : decode cJ2_checkIndex_2214a 5 = .ok (.invokestatic 414, 3) := by decide +kernel
theorem dJ2_checkIndex_2214a_8 : decode cJ2_checkIndex_2214a 8 = .ok (.return_, 1) := by decide +kernel
theorem dJ7_fill_53178_0 : decode cJ7_fill_53178 0 = .ok (.iconst 0, 1) := by decide +kernel
theorem dJ7_fill_53178_1 : decode cJ7_fill_53178 1 = .ok (.istore_n 2, 1) := by decide +kernel
theorem dJ7_fill_53178_2 : decode cJ7_fill_53178 2 = .ok (.aload_n 0, 1) := by decide +kernel
theorem dJ7_fill_53178_3 : decode cJ7_fill_53178 3 = .ok (.arraylength, 1) := by decide +kernel
theorem dJ7_fill_53178_4 : decode cJ7_fill_53178 4 = .ok (.istore_n 3, 1) := by decide +kernel
theorem dJ7_fill_53178_5 : decode cJ7_fill_53178 5 = .ok (.iload_n 2, 1) := by decide +kernel
theorem dJ7_fill_53178_6 : decode cJ7_fill_53178 6 = .ok (.iload_n 3, 1) := by decide +kernel
theorem dJ7_fill_53178_7 : decode cJ7_fill_53178 7 = .ok (.if_icmp .ge 13, 3) := by decide +kernel
theorem dJ7_fill_53178_10 : decode cJ7_fill_53178 10 = .ok (.aload_n 0, 1) := by decide +kernel
theorem dJ7_fill_53178_11 : decode cJ7_fill_53178 11 = .ok (.iload_n 2, 1) := by decide +kernel
theorem dJ7_fill_53178_12 : decode cJ7_fill_53178 12 = .ok (.iload_n 1, 1) := by decide +kernel
theorem dJ7_fill_53178_13 : decode cJ7_fill_53178 13 = .ok (.iastore, 1) := by decide +kernel
theorem dJ7_fill_53178_14 : decode cJ7_fill_53178 14 = .ok (.iinc 2 1, 3) := by decide +kernel
theorem dJ7_fill_53178_17 : decode cJ7_fill_53178 17 = .ok (.goto (-12), 3) := by decide +kernel
theorem dJ7_fill_53178_20 : decode cJ7_fill_53178 20 = .ok (.return_, 1) := by decide +kernel
theorem dJ3_checkIndex_8e157_0 : decode cJ3_checkIndex_8e157 0 = .ok (.iload_n 0, 1) := by decide +kernel
theorem dJ3_checkIndex_8e157_1 : decode cJ3_checkIndex_8e157 1 = .ok (.ifCond .lt 8, 3) := by decide +kernel
theorem dJ3_checkIndex_8e157_4 : decode cJ3_checkIndex_8e157 4 = .ok (.iload_n 0, 1) := by decide +kernel
theorem dJ3_checkIndex_8e157_5 : decode cJ3_checkIndex_8e157 5 = .ok (.iload_n 1, 1) := by decide +kernel
theorem dJ3_checkIndex_8e157_6 : decode cJ3_checkIndex_8e157 6 = .ok (.if_icmp .lt 10, 3) := by decide +kernel
theorem dJ3_checkIndex_8e157_9 : decode cJ3_checkIndex_8e157 9 = .ok (.aload_n 2, 1) := by decide +kernel
theorem dJ3_checkIndex_8e157_10 : decode cJ3_checkIndex_8e157 10 = .ok (.iload_n 0, 1) := by decide +kernel
theorem dJ3_checkIndex_8e157_11 : decode cJ3_checkIndex_8e157 11 = .ok (.iload_n 1, 1) := by decide +kernel
theorem dJ3_checkIndex_8e157_12 : decode cJ3_checkIndex_8e157 12 = .ok (.invokestatic 95, 3) := by decide +kernel
theorem dJ3_checkIndex_8e157_15 : decode cJ3_checkIndex_8e157 15 = .ok (.athrow, 1) := by decide +kernel
theorem dJ3_checkIndex_8e157_16 : decode cJ3_checkIndex_8e157 16 = .ok (.iload_n 0, 1) := by decide +kernel
theorem dJ3_checkIndex_8e157_17 : decode cJ3_checkIndex_8e157 17 = .ok (.ireturn, 1) := by decide +kernel
theorem dL_law_0 : decode cL_law 0 = .ok (.new 7, 3) := by decide +kernel
theorem dL_law_3 : decode cL_law 3 = .ok (.dup, 1) := by decide +kernel
theorem dL_law_4 : decode cL_law 4 = .ok (.invokespecial 9, 3) := by decide +kernel
theorem dL_law_7 : decode cL_law 7 = .ok (.astore_n 1, 1) := by decide +kernel
theorem dL_law_8 : decode cL_law 8 = .ok (.new 10, 3) := by decide +kernel
theorem dL_law_11 : decode cL_law 11 = .ok (.dup, 1) := by decide +kernel
theorem dL_law_12 : decode cL_law 12 = .ok (.invokespecial 12, 3) := by decide +kernel
theorem dL_law_15 : decode cL_law 15 = .ok (.astore_n 2, 1) := by decide +kernel
theorem dL_law_16 : decode cL_law 16 = .ok (.iconst 0, 1) := by decide +kernel
theorem dL_law_17 : decode cL_law 17 = .ok (.istore_n 3, 1) := by decide +kernel
theorem dL_law_18 : decode cL_law 18 = .ok (.iload_n 3, 1) := by decide +kernel
theorem dL_law_19 : decode cL_law 19 = .ok (.aload_n 0, 1) := by decide +kernel
theorem dL_law_20 : decode cL_law 20 = .ok (.arraylength, 1) := by decide +kernel
theorem dL_law_21 : decode cL_law 21 = .ok (.bipush 6, 2) := by decide +kernel
theorem dL_law_23 : decode cL_law 23 = .ok (.isub, 1) := by decide +kernel
theorem dL_law_24 : decode cL_law 24 = .ok (.if_icmp .gt 1115, 3) := by decide +kernel
theorem dL_law_27 : decode cL_law 27 = .ok (.aload_n 0, 1) := by decide +kernel
theorem dL_law_28 : decode cL_law 28 = .ok (.iload_n 3, 1) := by decide +kernel
theorem dL_law_29 : decode cL_law 29 = .ok (.iaload, 1) := by decide +kernel
theorem dL_law_30 : decode cL_law 30 = .ok (.bipush 31, 2) := by decide +kernel
theorem dL_law_32 : decode cL_law 32 = .ok (.iand, 1) := by decide +kernel
theorem dL_law_33 : decode cL_law 33 = .ok (.tableswitch 1100 0 28 #[131, 164, 207, 250, 293, 326, 369, 432, 445, 468, 501, 525, 558, 591, 634, 667, 700, 733, 757, 770, 793, 816, 829, 842, 865, 908, 951, 1014, 1067], 131) := by decide +kernel
theorem dL_law_164 : decode cL_law 164 = .ok (.aload_n 1, 1) := by decide +kernel
theorem dL_law_165 : decode cL_law 165 = .ok (.aload_n 0, 1) := by decide +kernel
theorem dL_law_166 : decode cL_law 166 = .ok (.iload_n 3, 1) := by decide +kernel
theorem dL_law_167 : decode cL_law 167 = .ok (.iconst 1, 1) := by decide +kernel
theorem dL_law_168 : decode cL_law 168 = .ok (.iadd, 1) := by decide +kernel
theorem dL_law_169 : decode cL_law 169 = .ok (.iaload, 1) := by decide +kernel
theorem dL_law_170 : decode cL_law 170 = .ok (.aload_n 0, 1) := by decide +kernel
theorem dL_law_171 : decode cL_law 171 = .ok (.iload_n 3, 1) := by decide +kernel
theorem dL_law_172 : decode cL_law 172 = .ok (.iconst 2, 1) := by decide +kernel
theorem dL_law_173 : decode cL_law 173 = .ok (.iadd, 1) := by decide +kernel
theorem dL_law_174 : decode cL_law 174 = .ok (.iaload, 1) := by decide +kernel
theorem dL_law_175 : decode cL_law 175 = .ok (.invokevirtual 13, 3) := by decide +kernel
theorem dL_law_178 : decode cL_law 178 = .ok (.aload_n 2, 1) := by decide +kernel
theorem dL_law_179 : decode cL_law 179 = .ok (.aload_n 0, 1) := by decide +kernel
theorem dL_law_180 : decode cL_law 180 = .ok (.iload_n 3, 1) := by decide +kernel
theorem dL_law_181 : decode cL_law 181 = .ok (.iconst 1, 1) := by decide +kernel
theorem dL_law_182 : decode cL_law 182 = .ok (.iadd, 1) := by decide +kernel
theorem dL_law_183 : decode cL_law 183 = .ok (.iaload, 1) := by decide +kernel
theorem dL_law_184 : decode cL_law 184 = .ok (.aload_n 0, 1) := by decide +kernel
theorem dL_law_185 : decode cL_law 185 = .ok (.iload_n 3, 1) := by decide +kernel
theorem dL_law_186 : decode cL_law 186 = .ok (.iconst 2, 1) := by decide +kernel
theorem dL_law_187 : decode cL_law 187 = .ok (.iadd, 1) := by decide +kernel
theorem dL_law_188 : decode cL_law 188 = .ok (.iaload, 1) := by decide +kernel
theorem dL_law_189 : decode cL_law 189 = .ok (.invokevirtual 17, 3) := by decide +kernel
theorem dL_law_192 : decode cL_law 192 = .ok (.if_icmp .eq 941, 3) := by decide +kernel
theorem dL_law_195 : decode cL_law 195 = .ok (.iconst 0, 1) := by decide +kernel
theorem dL_law_196 : decode cL_law 196 = .ok (.ireturn, 1) := by decide +kernel
theorem dL_law_197 : decode cL_law 197 = .ok (.aload_n 1, 1) := by decide +kernel
theorem dL_law_198 : decode cL_law 198 = .ok (.aload_n 0, 1) := by decide +kernel
theorem dL_law_199 : decode cL_law 199 = .ok (.iload_n 3, 1) := by decide +kernel
theorem dL_law_200 : decode cL_law 200 = .ok (.iconst 1, 1) := by decide +kernel
theorem dL_law_201 : decode cL_law 201 = .ok (.iadd, 1) := by decide +kernel
theorem dL_law_202 : decode cL_law 202 = .ok (.iaload, 1) := by decide +kernel
theorem dL_law_203 : decode cL_law 203 = .ok (.aload_n 0, 1) := by decide +kernel
theorem dL_law_204 : decode cL_law 204 = .ok (.iload_n 3, 1) := by decide +kernel
theorem dL_law_205 : decode cL_law 205 = .ok (.iconst 2, 1) := by decide +kernel
theorem dL_law_206 : decode cL_law 206 = .ok (.iadd, 1) := by decide +kernel
theorem dL_law_207 : decode cL_law 207 = .ok (.iaload, 1) := by decide +kernel
theorem dL_law_208 : decode cL_law 208 = .ok (.aload_n 0, 1) := by decide +kernel
theorem dL_law_209 : decode cL_law 209 = .ok (.iload_n 3, 1) := by decide +kernel
theorem dL_law_210 : decode cL_law 210 = .ok (.iconst 3, 1) := by decide +kernel
theorem dL_law_211 : decode cL_law 211 = .ok (.iadd, 1) := by decide +kernel
theorem dL_law_212 : decode cL_law 212 = .ok (.iaload, 1) := by decide +kernel
theorem dL_law_213 : decode cL_law 213 = .ok (.invokevirtual 18, 3) := by decide +kernel
theorem dL_law_216 : decode cL_law 216 = .ok (.aload_n 2, 1) := by decide +kernel
theorem dL_law_217 : decode cL_law 217 = .ok (.aload_n 0, 1) := by decide +kernel
theorem dL_law_218 : decode cL_law 218 = .ok (.iload_n 3, 1) := by decide +kernel
theorem dL_law_219 : decode cL_law 219 = .ok (.iconst 1, 1) := by decide +kernel
theorem dL_law_220 : decode cL_law 220 = .ok (.iadd, 1) := by decide +kernel
theorem dL_law_221 : decode cL_law 221 = .ok (.iaload, 1) := by decide +kernel
theorem dL_law_222 : decode cL_law 222 = .ok (.aload_n 0, 1) := by decide +kernel
theorem dL_law_223 : decode cL_law 223 = .ok (.iload_n 3, 1) := by decide +kernel
theorem dL_law_224 : decode cL_law 224 = .ok (.iconst 2, 1) := by decide +kernel
theorem dL_law_225 : decode cL_law 225 = .ok (.iadd, 1) := by decide +kernel
theorem dL_law_226 : decode cL_law 226 = .ok (.iaload, 1) := by decide +kernel
theorem dL_law_227 : decode cL_law 227 = .ok (.aload_n 0, 1) := by decide +kernel
theorem dL_law_228 : decode cL_law 228 = .ok (.iload_n 3, 1) := by decide +kernel
theorem dL_law_229 : decode cL_law 229 = .ok (.iconst 3, 1) := by decide +kernel
theorem dL_law_230 : decode cL_law 230 = .ok (.iadd, 1) := by decide +kernel
theorem dL_law_231 : decode cL_law 231 = .ok (.iaload, 1) := by decide +kernel
theorem dL_law_232 : decode cL_law 232 = .ok (.invokevirtual 22, 3) := by decide +kernel
theorem dL_law_235 : decode cL_law 235 = .ok (.if_icmp .eq 898, 3) := by decide +kernel
theorem dL_law_238 : decode cL_law 238 = .ok (.iconst 0, 1) := by decide +kernel
theorem dL_law_239 : decode cL_law 239 = .ok (.ireturn, 1) := by decide +kernel
theorem dL_law_240 : decode cL_law 240 = .ok (.aload_n 1, 1) := by decide +kernel
theorem dL_law_241 : decode cL_law 241 = .ok (.aload_n 0, 1) := by decide +kernel
theorem dL_law_242 : decode cL_law 242 = .ok (.iload_n 3, 1) := by decide +kernel
theorem dL_law_243 : decode cL_law 243 = .ok (.iconst 1, 1) := by decide +kernel
theorem dL_law_244 : decode cL_law 244 = .ok (.iadd, 1) := by decide +kernel
theorem dL_law_245 : decode cL_law 245 = .ok (.iaload, 1) := by decide +kernel
theorem dL_law_246 : decode cL_law 246 = .ok (.aload_n 0, 1) := by decide +kernel
theorem dL_law_247 : decode cL_law 247 = .ok (.iload_n 3, 1) := by decide +kernel
theorem dL_law_248 : decode cL_law 248 = .ok (.iconst 2, 1) := by decide +kernel
theorem dL_law_249 : decode cL_law 249 = .ok (.iadd, 1) := by decide +kernel
theorem dL_law_250 : decode cL_law 250 = .ok (.iaload, 1) := by decide +kernel
theorem dL_law_251 : decode cL_law 251 = .ok (.aload_n 0, 1) := by decide +kernel
theorem dL_law_252 : decode cL_law 252 = .ok (.iload_n 3, 1) := by decide +kernel
theorem dL_law_253 : decode cL_law 253 = .ok (.iconst 3, 1) := by decide +kernel
theorem dL_law_254 : decode cL_law 254 = .ok (.iadd, 1) := by decide +kernel
theorem dL_law_255 : decode cL_law 255 = .ok (.iaload, 1) := by decide +kernel
theorem dL_law_256 : decode cL_law 256 = .ok (.invokevirtual 23, 3) := by decide +kernel
theorem dL_law_259 : decode cL_law 259 = .ok (.aload_n 2, 1) := by decide +kernel
theorem dL_law_260 : decode cL_law 260 = .ok (.aload_n 0, 1) := by decide +kernel
theorem dL_law_261 : decode cL_law 261 = .ok (.iload_n 3, 1) := by decide +kernel
theorem dL_law_262 : decode cL_law 262 = .ok (.iconst 1, 1) := by decide +kernel
theorem dL_law_263 : decode cL_law 263 = .ok (.iadd, 1) := by decide +kernel
theorem dL_law_264 : decode cL_law 264 = .ok (.iaload, 1) := by decide +kernel
theorem dL_law_265 : decode cL_law 265 = .ok (.aload_n 0, 1) := by decide +kernel
theorem dL_law_266 : decode cL_law 266 = .ok (.iload_n 3, 1) := by decide +kernel
theorem dL_law_267 : decode cL_law 267 = .ok (.iconst 2, 1) := by decide +kernel
theorem dL_law_268 : decode cL_law 268 = .ok (.iadd, 1) := by decide +kernel
theorem dL_law_269 : decode cL_law 269 = .ok (.iaload, 1) := by decide +kernel
theorem dL_law_270 : decode cL_law 270 = .ok (.aload_n 0, 1) := by decide +kernel
theorem dL_law_271 : decode cL_law 271 = .ok (.iload_n 3, 1) := by decide +kernel
theorem dL_law_272 : decode cL_law 272 = .ok (.iconst 3, 1) := by decide +kernel
theorem dL_law_273 : decode cL_law 273 = .ok (.iadd, 1) := by decide +kernel
theorem dL_law_274 : decode cL_law 274 = .ok (.iaload, 1) := by decide +kernel
theorem dL_law_275 : decode cL_law 275 = .ok (.invokevirtual 26, 3) := by decide +kernel
theorem dL_law_278 : decode cL_law 278 = .ok (.if_icmp .eq 855, 3) := by decide +kernel
theorem dL_law_281 : decode cL_law 281 = .ok (.iconst 0, 1) := by decide +kernel
theorem dL_law_282 : decode cL_law 282 = .ok (.ireturn, 1) := by decide +kernel
theorem dL_law_283 : decode cL_law 283 = .ok (.aload_n 1, 1) := by decide +kernel
theorem dL_law_284 : decode cL_law 284 = .ok (.aload_n 0, 1) := by decide +kernel
theorem dL_law_285 : decode cL_law 285 = .ok (.iload_n 3, 1) := by decide +kernel
theorem dL_law_286 : decode cL_law 286 = .ok (.iconst 1, 1) := by decide +kernel
theorem dL_law_287 : decode cL_law 287 = .ok (.iadd, 1) := by decide +kernel
theorem dL_law_288 : decode cL_law 288 = .ok (.iaload, 1) := by decide +kernel
theorem dL_law_289 : decode cL_law 289 = .ok (.aload_n 0, 1) := by decide +kernel
theorem dL_law_290 : decode cL_law 290 = .ok (.iload_n 3, 1) := by decide +kernel
theorem dL_law_291 : decode cL_law 291 = .ok (.iconst 2, 1) := by decide +kernel
theorem dL_law_292 : decode cL_law 292 = .ok (.iadd, 1) := by decide +kernel
theorem dL_law_293 : decode cL_law 293 = .ok (.iaload, 1) := by decide +kernel
theorem dL_law_294 : decode cL_law 294 = .ok (.aload_n 0, 1) := by decide +kernel
theorem dL_law_295 : decode cL_law 295 = .ok (.iload_n 3, 1) := by decide +kernel
theorem dL_law_296 : decode cL_law 296 = .ok (.iconst 3, 1) := by decide +kernel
theorem dL_law_297 : decode cL_law 297 = .ok (.iadd, 1) := by decide +kernel
theorem dL_law_298 : decode cL_law 298 = .ok (.iaload, 1) := by decide +kernel
theorem dL_law_299 : decode cL_law 299 = .ok (.invokevirtual 27, 3) := by decide +kernel
theorem dL_law_302 : decode cL_law 302 = .ok (.aload_n 2, 1) := by decide +kernel
theorem dL_law_303 : decode cL_law 303 = .ok (.aload_n 0, 1) := by decide +kernel
theorem dL_law_304 : decode cL_law 304 = .ok (.iload_n 3, 1) := by decide +kernel
theorem dL_law_305 : decode cL_law 305 = .ok (.iconst 1, 1) := by decide +kernel
theorem dL_law_306 : decode cL_law 306 = .ok (.iadd, 1) := by decide +kernel
theorem dL_law_307 : decode cL_law 307 = .ok (.iaload, 1) := by decide +kernel
theorem dL_law_308 : decode cL_law 308 = .ok (.aload_n 0, 1) := by decide +kernel
theorem dL_law_309 : decode cL_law 309 = .ok (.iload_n 3, 1) := by decide +kernel
theorem dL_law_310 : decode cL_law 310 = .ok (.iconst 2, 1) := by decide +kernel
theorem dL_law_311 : decode cL_law 311 = .ok (.iadd, 1) := by decide +kernel
theorem dL_law_312 : decode cL_law 312 = .ok (.iaload, 1) := by decide +kernel
theorem dL_law_313 : decode cL_law 313 = .ok (.aload_n 0, 1) := by decide +kernel
theorem dL_law_314 : decode cL_law 314 = .ok (.iload_n 3, 1) := by decide +kernel
theorem dL_law_315 : decode cL_law 315 = .ok (.iconst 3, 1) := by decide +kernel
theorem dL_law_316 : decode cL_law 316 = .ok (.iadd, 1) := by decide +kernel
theorem dL_law_317 : decode cL_law 317 = .ok (.iaload, 1) := by decide +kernel
theorem dL_law_318 : decode cL_law 318 = .ok (.invokevirtual 30, 3) := by decide +kernel
theorem dL_law_321 : decode cL_law 321 = .ok (.if_icmp .eq 812, 3) := by decide +kernel
theorem dL_law_324 : decode cL_law 324 = .ok (.iconst 0, 1) := by decide +kernel
theorem dL_law_325 : decode cL_law 325 = .ok (.ireturn, 1) := by decide +kernel
theorem dL_law_326 : decode cL_law 326 = .ok (.aload_n 1, 1) := by decide +kernel
theorem dL_law_327 : decode cL_law 327 = .ok (.aload_n 0, 1) := by decide +kernel
theorem dL_law_328 : decode cL_law 328 = .ok (.iload_n 3, 1) := by decide +kernel
theorem dL_law_329 : decode cL_law 329 = .ok (.iconst 1, 1) := by decide +kernel
theorem dL_law_330 : decode cL_law 330 = .ok (.iadd, 1) := by decide +kernel
theorem dL_law_331 : decode cL_law 331 = .ok (.iaload, 1) := by decide +kernel
theorem dL_law_332 : decode cL_law 332 = .ok (.aload_n 0, 1) := by decide +kernel
theorem dL_law_333 : decode cL_law 333 = .ok (.iload_n 3, 1) := by decide +kernel
theorem dL_law_334 : decode cL_law 334 = .ok (.iconst 2, 1) := by decide +kernel
theorem dL_law_335 : decode cL_law 335 = .ok (.iadd, 1) := by decide +kernel
theorem dL_law_336 : decode cL_law 336 = .ok (.iaload, 1) := by decide +kernel
theorem dL_law_337 : decode cL_law 337 = .ok (.invokevirtual 31, 3) := by decide +kernel
theorem dL_law_340 : decode cL_law 340 = .ok (.aload_n 2, 1) := by decide +kernel
theorem dL_law_341 : decode cL_law 341 = .ok (.aload_n 0, 1) := by decide +kernel
theorem dL_law_342 : decode cL_law 342 = .ok (.iload_n 3, 1) := by decide +kernel
theorem dL_law_343 : decode cL_law 343 = .ok (.iconst 1, 1) := by decide +kernel
theorem dL_law_344 : decode cL_law 344 = .ok (.iadd, 1) := by decide +kernel
theorem dL_law_345 : decode cL_law 345 = .ok (.iaload, 1) := by decide +kernel
theorem dL_law_346 : decode cL_law 346 = .ok (.aload_n 0, 1) := by decide +kernel
theorem dL_law_347 : decode cL_law 347 = .ok (.iload_n 3, 1) := by decide +kernel
theorem dL_law_348 : decode cL_law 348 = .ok (.iconst 2, 1) := by decide +kernel
theorem dL_law_349 : decode cL_law 349 = .ok (.iadd, 1) := by decide +kernel
theorem dL_law_350 : decode cL_law 350 = .ok (.iaload, 1) := by decide +kernel
theorem dL_law_351 : decode cL_law 351 = .ok (.invokevirtual 34, 3) := by decide +kernel
theorem dL_law_354 : decode cL_law 354 = .ok (.if_icmp .eq 779, 3) := by decide +kernel
theorem dL_law_357 : decode cL_law 357 = .ok (.iconst 0, 1) := by decide +kernel
theorem dL_law_358 : decode cL_law 358 = .ok (.ireturn, 1) := by decide +kernel
theorem dL_law_359 : decode cL_law 359 = .ok (.aload_n 1, 1) := by decide +kernel
theorem dL_law_360 : decode cL_law 360 = .ok (.aload_n 0, 1) := by decide +kernel
theorem dL_law_361 : decode cL_law 361 = .ok (.iload_n 3, 1) := by decide +kernel
theorem dL_law_362 : decode cL_law 362 = .ok (.iconst 1, 1) := by decide +kernel
theorem dL_law_363 : decode cL_law 363 = .ok (.iadd, 1) := by decide +kernel
theorem dL_law_364 : decode cL_law 364 = .ok (.iaload, 1) := by decide +kernel
theorem dL_law_365 : decode cL_law 365 = .ok (.aload_n 0, 1) := by decide +kernel
theorem dL_law_366 : decode cL_law 366 = .ok (.iload_n 3, 1) := by decide +kernel
theorem dL_law_367 : decode cL_law 367 = .ok (.iconst 2, 1) := by decide +kernel
theorem dL_law_368 : decode cL_law 368 = .ok (.iadd, 1) := by decide +kernel
theorem dL_law_369 : decode cL_law 369 = .ok (.iaload, 1) := by decide +kernel
theorem dL_law_370 : decode cL_law 370 = .ok (.aload_n 0, 1) := by decide +kernel
theorem dL_law_371 : decode cL_law 371 = .ok (.iload_n 3, 1) := by decide +kernel
theorem dL_law_372 : decode cL_law 372 = .ok (.iconst 3, 1) := by decide +kernel
theorem dL_law_373 : decode cL_law 373 = .ok (.iadd, 1) := by decide +kernel
theorem dL_law_374 : decode cL_law 374 = .ok (.iaload, 1) := by decide +kernel
theorem dL_law_375 : decode cL_law 375 = .ok (.invokevirtual 35, 3) := by decide +kernel
theorem dL_law_378 : decode cL_law 378 = .ok (.aload_n 2, 1) := by decide +kernel
theorem dL_law_379 : decode cL_law 379 = .ok (.aload_n 0, 1) := by decide +kernel
theorem dL_law_380 : decode cL_law 380 = .ok (.iload_n 3, 1) := by decide +kernel
theorem dL_law_381 : decode cL_law 381 = .ok (.iconst 1, 1) := by decide +kernel
theorem dL_law_382 : decode cL_law 382 = .ok (.iadd, 1) := by decide +kernel
theorem dL_law_383 : decode cL_law 383 = .ok (.iaload, 1) := by decide +kernel
theorem dL_law_384 : decode cL_law 384 = .ok (.aload_n 0, 1) := by decide +kernel
theorem dL_law_385 : decode cL_law 385 = .ok (.iload_n 3, 1) := by decide +kernel
theorem dL_law_386 : decode cL_law 386 = .ok (.iconst 2, 1) := by decide +kernel
theorem dL_law_387 : decode cL_law 387 = .ok (.iadd, 1) := by decide +kernel
theorem dL_law_388 : decode cL_law 388 = .ok (.iaload, 1) := by decide +kernel
theorem dL_law_389 : decode cL_law 389 = .ok (.aload_n 0, 1) := by decide +kernel
theorem dL_law_390 : decode cL_law 390 = .ok (.iload_n 3, 1) := by decide +kernel
theorem dL_law_391 : decode cL_law 391 = .ok (.iconst 3, 1) := by decide +kernel
theorem dL_law_392 : decode cL_law 392 = .ok (.iadd, 1) := by decide +kernel
theorem dL_law_393 : decode cL_law 393 = .ok (.iaload, 1) := by decide +kernel
theorem dL_law_394 : decode cL_law 394 = .ok (.invokevirtual 38, 3) := by decide +kernel
theorem dL_law_397 : decode cL_law 397 = .ok (.if_icmp .eq 736, 3) := by decide +kernel
theorem dL_law_400 : decode cL_law 400 = .ok (.iconst 0, 1) := by decide +kernel
theorem dL_law_401 : decode cL_law 401 = .ok (.ireturn, 1) := by decide +kernel
theorem dL_law_402 : decode cL_law 402 = .ok (.aload_n 1, 1) := by decide +kernel
theorem dL_law_403 : decode cL_law 403 = .ok (.aload_n 0, 1) := by decide +kernel
theorem dL_law_404 : decode cL_law 404 = .ok (.iload_n 3, 1) := by decide +kernel
theorem dL_law_405 : decode cL_law 405 = .ok (.iconst 1, 1) := by decide +kernel
theorem dL_law_406 : decode cL_law 406 = .ok (.iadd, 1) := by decide +kernel
theorem dL_law_407 : decode cL_law 407 = .ok (.iaload, 1) := by decide +kernel
theorem dL_law_408 : decode cL_law 408 = .ok (.aload_n 0, 1) := by decide +kernel
theorem dL_law_409 : decode cL_law 409 = .ok (.iload_n 3, 1) := by decide +kernel
theorem dL_law_410 : decode cL_law 410 = .ok (.iconst 2, 1) := by decide +kernel
theorem dL_law_411 : decode cL_law 411 = .ok (.iadd, 1) := by decide +kernel
theorem dL_law_412 : decode cL_law 412 = .ok (.iaload, 1) := by decide +kernel
theorem dL_law_413 : decode cL_law 413 = .ok (.i2l, 1) := by decide +kernel
theorem dL_law_414 : decode cL_law 414 = .ok (.bipush 32, 2) := by decide +kernel
theorem dL_law_416 : decode cL_law 416 = .ok (.lshl, 1) := by decide +kernel
theorem dL_law_417 : decode cL_law 417 = .ok (.aload_n 0, 1) := by decide +kernel
theorem dL_law_418 : decode cL_law 418 = .ok (.iload_n 3, 1) := by decide +kernel
theorem dL_law_419 : decode cL_law 419 = .ok (.iconst 3, 1) := by decide +kernel
theorem dL_law_420 : decode cL_law 420 = .ok (.iadd, 1) := by decide +kernel
theorem dL_law_421 : decode cL_law 421 = .ok (.iaload, 1) := by decide +kernel
theorem dL_law_422 : decode cL_law 422 = .ok (.i2l, 1) := by decide +kernel
theorem dL_law_423 : decode cL_law 423 = .ok (.ldc2_w 39, 3) := by decide +kernel
theorem dL_law_426 : decode cL_law 426 = .ok (.land, 1) := by decide +kernel
theorem dL_law_427 : decode cL_law 427 = .ok (.lor, 1) := by decide +kernel
theorem dL_law_428 : decode cL_law 428 = .ok (.invokevirtual 41, 3) := by decide +kernel
theorem dL_law_431 : decode cL_law 431 = .ok (.aload_n 2, 1) := by decide +kernel
theorem dL_law_432 : decode cL_law 432 = .ok (.aload_n 0, 1) := by decide +kernel
theorem dL_law_433 : decode cL_law 433 = .ok (.iload_n 3, 1) := by decide +kernel
theorem dL_law_434 : decode cL_law 434 = .ok (.iconst 1, 1) := by decide +kernel
theorem dL_law_435 : decode cL_law 435 = .ok (.iadd, 1) := by decide +kernel
theorem dL_law_436 : decode cL_law 436 = .ok (.iaload, 1) := by decide +kernel
theorem dL_law_437 : decode cL_law 437 = .ok (.aload_n 0, 1) := by decide +kernel
theorem dL_law_438 : decode cL_law 438 = .ok (.iload_n 3, 1) := by decide +kernel
theorem dL_law_439 : decode cL_law 439 = .ok (.iconst 2, 1) := by decide +kernel
theorem dL_law_440 : decode cL_law 440 = .ok (.iadd, 1) := by decide +kernel
theorem dL_law_441 : decode cL_law 441 = .ok (.iaload, 1) := by decide +kernel
theorem dL_law_442 : decode cL_law 442 = .ok (.i2l, 1) := by decide +kernel
theorem dL_law_443 : decode cL_law 443 = .ok (.bipush 32, 2) := by decide +kernel
theorem dL_law_445 : decode cL_law 445 = .ok (.lshl, 1) := by decide +kernel
theorem dL_law_446 : decode cL_law 446 = .ok (.aload_n 0, 1) := by decide +kernel
theorem dL_law_447 : decode cL_law 447 = .ok (.iload_n 3, 1) := by decide +kernel
theorem dL_law_448 : decode cL_law 448 = .ok (.iconst 3, 1) := by decide +kernel
theorem dL_law_449 : decode cL_law 449 = .ok (.iadd, 1) := by decide +kernel
theorem dL_law_450 : decode cL_law 450 = .ok (.iaload, 1) := by decide +kernel
theorem dL_law_451 : decode cL_law 451 = .ok (.i2l, 1) := by decide +kernel
theorem dL_law_452 : decode cL_law 452 = .ok (.ldc2_w 39, 3) := by decide +kernel
theorem dL_law_455 : decode cL_law 455 = .ok (.land, 1) := by decide +kernel
theorem dL_law_456 : decode cL_law 456 = .ok (.lor, 1) := by decide +kernel
theorem dL_law_457 : decode cL_law 457 = .ok (.invokevirtual 45, 3) := by decide +kernel
theorem dL_law_460 : decode cL_law 460 = .ok (.if_icmp .eq 673, 3) := by decide +kernel
theorem dL_law_463 : decode cL_law 463 = .ok (.iconst 0, 1) := by decide +kernel
theorem dL_law_464 : decode cL_law 464 = .ok (.ireturn, 1) := by decide +kernel
theorem dL_law_465 : decode cL_law 465 = .ok (.aload_n 1, 1) := by decide +kernel
theorem dL_law_466 : decode cL_law 466 = .ok (.invokevirtual 46, 3) := by decide +kernel
theorem dL_law_469 : decode cL_law 469 = .ok (.aload_n 2, 1) := by decide +kernel
theorem dL_law_470 : decode cL_law 470 = .ok (.invokevirtual 50, 3) := by decide +kernel
theorem dL_law_473 : decode cL_law 473 = .ok (.if_icmp .eq 660, 3) := by decide +kernel
theorem dL_law_476 : decode cL_law 476 = .ok (.iconst 0, 1) := by decide +kernel
theorem dL_law_477 : decode cL_law 477 = .ok (.ireturn, 1) := by decide +kernel
theorem dL_law_478 : decode cL_law 478 = .ok (.aload_n 1, 1) := by decide +kernel
theorem dL_law_479 : decode cL_law 479 = .ok (.aload_n 0, 1) := by decide +kernel
theorem dL_law_480 : decode cL_law 480 = .ok (.iload_n 3, 1) := by decide +kernel
theorem dL_law_481 : decode cL_law 481 = .ok (.iconst 1, 1) := by decide +kernel
theorem dL_law_482 : decode cL_law 482 = .ok (.iadd, 1) := by decide +kernel
theorem dL_law_483 : decode cL_law 483 = .ok (.iaload, 1) := by decide +kernel
theorem dL_law_484 : decode cL_law 484 = .ok (.invokevirtual 51, 3) := by decide +kernel
theorem dL_law_487 : decode cL_law 487 = .ok (.aload_n 2, 1) := by decide +kernel
theorem dL_law_488 : decode cL_law 488 = .ok (.aload_n 0, 1) := by decide +kernel
theorem dL_law_489 : decode cL_law 489 = .ok (.iload_n 3, 1) := by decide +kernel
theorem dL_law_490 : decode cL_law 490 = .ok (.iconst 1, 1) := by decide +kernel
theorem dL_law_491 : decode cL_law 491 = .ok (.iadd, 1) := by decide +kernel
theorem dL_law_492 : decode cL_law 492 = .ok (.iaload, 1) := by decide +kernel
theorem dL_law_493 : decode cL_law 493 = .ok (.invokevirtual 55, 3) := by decide +kernel
theorem dL_law_496 : decode cL_law 496 = .ok (.if_icmp .eq 637, 3) := by decide +kernel
theorem dL_law_499 : decode cL_law 499 = .ok (.iconst 0, 1) := by decide +kernel
theorem dL_law_500 : decode cL_law 500 = .ok (.ireturn, 1) := by decide +kernel
theorem dL_law_501 : decode cL_law 501 = .ok (.aload_n 1, 1) := by decide +kernel
theorem dL_law_502 : decode cL_law 502 = .ok (.aload_n 0, 1) := by decide +kernel
theorem dL_law_503 : decode cL_law 503 = .ok (.iload_n 3, 1) := by decide +kernel
theorem dL_law_504 : decode cL_law 504 = .ok (.iconst 1, 1) := by decide +kernel
theorem dL_law_505 : decode cL_law 505 = .ok (.iadd, 1) := by decide +kernel
theorem dL_law_506 : decode cL_law 506 = .ok (.iaload, 1) := by decide +kernel
theorem dL_law_507 : decode cL_law 507 = .ok (.aload_n 0, 1) := by decide +kernel
theorem dL_law_508 : decode cL_law 508 = .ok (.iload_n 3, 1) := by decide +kernel
theorem dL_law_509 : decode cL_law 509 = .ok (.iconst 2, 1) := by decide +kernel
theorem dL_law_510 : decode cL_law 510 = .ok (.iadd, 1) := by decide +kernel
theorem dL_law_511 : decode cL_law 511 = .ok (.iaload, 1) := by decide +kernel
theorem dL_law_512 : decode cL_law 512 = .ok (.invokevirtual 56, 3) := by decide +kernel
theorem dL_law_515 : decode cL_law 515 = .ok (.aload_n 2, 1) := by decide +kernel
theorem dL_law_516 : decode cL_law 516 = .ok (.aload_n 0, 1) := by decide +kernel
theorem dL_law_517 : decode cL_law 517 = .ok (.iload_n 3, 1) := by decide +kernel
theorem dL_law_518 : decode cL_law 518 = .ok (.iconst 1, 1) := by decide +kernel
theorem dL_law_519 : decode cL_law 519 = .ok (.iadd, 1) := by decide +kernel
theorem dL_law_520 : decode cL_law 520 = .ok (.iaload, 1) := by decide +kernel
theorem dL_law_521 : decode cL_law 521 = .ok (.aload_n 0, 1) := by decide +kernel
theorem dL_law_522 : decode cL_law 522 = .ok (.iload_n 3, 1) := by decide +kernel
theorem dL_law_523 : decode cL_law 523 = .ok (.iconst 2, 1) := by decide +kernel
theorem dL_law_524 : decode cL_law 524 = .ok (.iadd, 1) := by decide +kernel
theorem dL_law_525 : decode cL_law 525 = .ok (.iaload, 1) := by decide +kernel
theorem dL_law_526 : decode cL_law 526 = .ok (.invokevirtual 59, 3) := by decide +kernel
theorem dL_law_529 : decode cL_law 529 = .ok (.if_icmp .eq 604, 3) := by decide +kernel
theorem dL_law_532 : decode cL_law 532 = .ok (.iconst 0, 1) := by decide +kernel
theorem dL_law_533 : decode cL_law 533 = .ok (.ireturn, 1) := by decide +kernel
theorem dL_law_534 : decode cL_law 534 = .ok (.aload_n 1, 1) := by decide +kernel
theorem dL_law_535 : decode cL_law 535 = .ok (.aload_n 0, 1) := by decide +kernel
theorem dL_law_536 : decode cL_law 536 = .ok (.iload_n 3, 1) := by decide +kernel
theorem dL_law_537 : decode cL_law 537 = .ok (.iconst 1, 1) := by decide +kernel
theorem dL_law_538 : decode cL_law 538 = .ok (.iadd, 1) := by decide +kernel
theorem dL_law_539 : decode cL_law 539 = .ok (.iaload, 1) := by decide +kernel
theorem dL_law_540 : decode cL_law 540 = .ok (.invokevirtual 60, 3) := by decide +kernel
theorem dL_law_543 : decode cL_law 543 = .ok (.aload_n 2, 1) := by decide +kernel
theorem dL_law_544 : decode cL_law 544 = .ok (.aload_n 0, 1) := by decide +kernel
theorem dL_law_545 : decode cL_law 545 = .ok (.iload_n 3, 1) := by decide +kernel
theorem dL_law_546 : decode cL_law 546 = .ok (.iconst 1, 1) := by decide +kernel
theorem dL_law_547 : decode cL_law 547 = .ok (.iadd, 1) := by decide +kernel
theorem dL_law_548 : decode cL_law 548 = .ok (.iaload, 1) := by decide +kernel
theorem dL_law_549 : decode cL_law 549 = .ok (.invokevirtual 64, 3) := by decide +kernel
theorem dL_law_552 : decode cL_law 552 = .ok (.lcmp, 1) := by decide +kernel
theorem dL_law_553 : decode cL_law 553 = .ok (.ifCond .eq 580, 3) := by decide +kernel
theorem dL_law_556 : decode cL_law 556 = .ok (.iconst 0, 1) := by decide +kernel
theorem dL_law_557 : decode cL_law 557 = .ok (.ireturn, 1) := by decide +kernel
theorem dL_law_558 : decode cL_law 558 = .ok (.aload_n 1, 1) := by decide +kernel
theorem dL_law_559 : decode cL_law 559 = .ok (.aload_n 0, 1) := by decide +kernel
theorem dL_law_560 : decode cL_law 560 = .ok (.iload_n 3, 1) := by decide +kernel
theorem dL_law_561 : decode cL_law 561 = .ok (.iconst 1, 1) := by decide +kernel
theorem dL_law_562 : decode cL_law 562 = .ok (.iadd, 1) := by decide +kernel
theorem dL_law_563 : decode cL_law 563 = .ok (.iaload, 1) := by decide +kernel
theorem dL_law_564 : decode cL_law 564 = .ok (.aload_n 0, 1) := by decide +kernel
theorem dL_law_565 : decode cL_law 565 = .ok (.iload_n 3, 1) := by decide +kernel
theorem dL_law_566 : decode cL_law 566 = .ok (.iconst 2, 1) := by decide +kernel
theorem dL_law_567 : decode cL_law 567 = .ok (.iadd, 1) := by decide +kernel
theorem dL_law_568 : decode cL_law 568 = .ok (.iaload, 1) := by decide +kernel
theorem dL_law_569 : decode cL_law 569 = .ok (.invokevirtual 65, 3) := by decide +kernel
theorem dL_law_572 : decode cL_law 572 = .ok (.aload_n 2, 1) := by decide +kernel
theorem dL_law_573 : decode cL_law 573 = .ok (.aload_n 0, 1) := by decide +kernel
theorem dL_law_574 : decode cL_law 574 = .ok (.iload_n 3, 1) := by decide +kernel
theorem dL_law_575 : decode cL_law 575 = .ok (.iconst 1, 1) := by decide +kernel
theorem dL_law_576 : decode cL_law 576 = .ok (.iadd, 1) := by decide +kernel
theorem dL_law_577 : decode cL_law 577 = .ok (.iaload, 1) := by decide +kernel
theorem dL_law_578 : decode cL_law 578 = .ok (.aload_n 0, 1) := by decide +kernel
theorem dL_law_579 : decode cL_law 579 = .ok (.iload_n 3, 1) := by decide +kernel
theorem dL_law_580 : decode cL_law 580 = .ok (.iconst 2, 1) := by decide +kernel
theorem dL_law_581 : decode cL_law 581 = .ok (.iadd, 1) := by decide +kernel
theorem dL_law_582 : decode cL_law 582 = .ok (.iaload, 1) := by decide +kernel
theorem dL_law_583 : decode cL_law 583 = .ok (.invokevirtual 68, 3) := by decide +kernel
theorem dL_law_586 : decode cL_law 586 = .ok (.if_icmp .eq 547, 3) := by decide +kernel
theorem dL_law_589 : decode cL_law 589 = .ok (.iconst 0, 1) := by decide +kernel
theorem dL_law_590 : decode cL_law 590 = .ok (.ireturn, 1) := by decide +kernel
theorem dL_law_591 : decode cL_law 591 = .ok (.aload_n 1, 1) := by decide +kernel
theorem dL_law_592 : decode cL_law 592 = .ok (.aload_n 0, 1) := by decide +kernel
theorem dL_law_593 : decode cL_law 593 = .ok (.iload_n 3, 1) := by decide +kernel
theorem dL_law_594 : decode cL_law 594 = .ok (.iconst 1, 1) := by decide +kernel
theorem dL_law_595 : decode cL_law 595 = .ok (.iadd, 1) := by decide +kernel
theorem dL_law_596 : decode cL_law 596 = .ok (.iaload, 1) := by decide +kernel
theorem dL_law_597 : decode cL_law 597 = .ok (.aload_n 0, 1) := by decide +kernel
theorem dL_law_598 : decode cL_law 598 = .ok (.iload_n 3, 1) := by decide +kernel
theorem dL_law_599 : decode cL_law 599 = .ok (.iconst 2, 1) := by decide +kernel
theorem dL_law_600 : decode cL_law 600 = .ok (.iadd, 1) := by decide +kernel
theorem dL_law_601 : decode cL_law 601 = .ok (.iaload, 1) := by decide +kernel
theorem dL_law_602 : decode cL_law 602 = .ok (.invokevirtual 69, 3) := by decide +kernel
theorem dL_law_605 : decode cL_law 605 = .ok (.aload_n 2, 1) := by decide +kernel
theorem dL_law_606 : decode cL_law 606 = .ok (.aload_n 0, 1) := by decide +kernel
theorem dL_law_607 : decode cL_law 607 = .ok (.iload_n 3, 1) := by decide +kernel
theorem dL_law_608 : decode cL_law 608 = .ok (.iconst 1, 1) := by decide +kernel
theorem dL_law_609 : decode cL_law 609 = .ok (.iadd, 1) := by decide +kernel
theorem dL_law_610 : decode cL_law 610 = .ok (.iaload, 1) := by decide +kernel
theorem dL_law_611 : decode cL_law 611 = .ok (.aload_n 0, 1) := by decide +kernel
theorem dL_law_612 : decode cL_law 612 = .ok (.iload_n 3, 1) := by decide +kernel
theorem dL_law_613 : decode cL_law 613 = .ok (.iconst 2, 1) := by decide +kernel
theorem dL_law_614 : decode cL_law 614 = .ok (.iadd, 1) := by decide +kernel
theorem dL_law_615 : decode cL_law 615 = .ok (.iaload, 1) := by decide +kernel
theorem dL_law_616 : decode cL_law 616 = .ok (.invokevirtual 72, 3) := by decide +kernel
theorem dL_law_619 : decode cL_law 619 = .ok (.if_icmp .eq 514, 3) := by decide +kernel
theorem dL_law_622 : decode cL_law 622 = .ok (.iconst 0, 1) := by decide +kernel
theorem dL_law_623 : decode cL_law 623 = .ok (.ireturn, 1) := by decide +kernel
theorem dL_law_624 : decode cL_law 624 = .ok (.aload_n 1, 1) := by decide +kernel
theorem dL_law_625 : decode cL_law 625 = .ok (.aload_n 0, 1) := by decide +kernel
theorem dL_law_626 : decode cL_law 626 = .ok (.iload_n 3, 1) := by decide +kernel
theorem dL_law_627 : decode cL_law 627 = .ok (.iconst 1, 1) := by decide +kernel
theorem dL_law_628 : decode cL_law 628 = .ok (.iadd, 1) := by decide +kernel
theorem dL_law_629 : decode cL_law 629 = .ok (.iaload, 1) := by decide +kernel
theorem dL_law_630 : decode cL_law 630 = .ok (.aload_n 0, 1) := by decide +kernel
theorem dL_law_631 : decode cL_law 631 = .ok (.iload_n 3, 1) := by decide +kernel
theorem dL_law_632 : decode cL_law 632 = .ok (.iconst 2, 1) := by decide +kernel
theorem dL_law_633 : decode cL_law 633 = .ok (.iadd, 1) := by decide +kernel
theorem dL_law_634 : decode cL_law 634 = .ok (.iaload, 1) := by decide +kernel
theorem dL_law_635 : decode cL_law 635 = .ok (.aload_n 0, 1) := by decide +kernel
theorem dL_law_636 : decode cL_law 636 = .ok (.iload_n 3, 1) := by decide +kernel
theorem dL_law_637 : decode cL_law 637 = .ok (.iconst 3, 1) := by decide +kernel
theorem dL_law_638 : decode cL_law 638 = .ok (.iadd, 1) := by decide +kernel
theorem dL_law_639 : decode cL_law 639 = .ok (.iaload, 1) := by decide +kernel
theorem dL_law_640 : decode cL_law 640 = .ok (.invokevirtual 73, 3) := by decide +kernel
theorem dL_law_643 : decode cL_law 643 = .ok (.aload_n 2, 1) := by decide +kernel
theorem dL_law_644 : decode cL_law 644 = .ok (.aload_n 0, 1) := by decide +kernel
theorem dL_law_645 : decode cL_law 645 = .ok (.iload_n 3, 1) := by decide +kernel
theorem dL_law_646 : decode cL_law 646 = .ok (.iconst 1, 1) := by decide +kernel
theorem dL_law_647 : decode cL_law 647 = .ok (.iadd, 1) := by decide +kernel
theorem dL_law_648 : decode cL_law 648 = .ok (.iaload, 1) := by decide +kernel
theorem dL_law_649 : decode cL_law 649 = .ok (.aload_n 0, 1) := by decide +kernel
theorem dL_law_650 : decode cL_law 650 = .ok (.iload_n 3, 1) := by decide +kernel
theorem dL_law_651 : decode cL_law 651 = .ok (.iconst 2, 1) := by decide +kernel
theorem dL_law_652 : decode cL_law 652 = .ok (.iadd, 1) := by decide +kernel
theorem dL_law_653 : decode cL_law 653 = .ok (.iaload, 1) := by decide +kernel
theorem dL_law_654 : decode cL_law 654 = .ok (.aload_n 0, 1) := by decide +kernel
theorem dL_law_655 : decode cL_law 655 = .ok (.iload_n 3, 1) := by decide +kernel
theorem dL_law_656 : decode cL_law 656 = .ok (.iconst 3, 1) := by decide +kernel
theorem dL_law_657 : decode cL_law 657 = .ok (.iadd, 1) := by decide +kernel
theorem dL_law_658 : decode cL_law 658 = .ok (.iaload, 1) := by decide +kernel
theorem dL_law_659 : decode cL_law 659 = .ok (.invokevirtual 76, 3) := by decide +kernel
theorem dL_law_662 : decode cL_law 662 = .ok (.if_icmp .eq 471, 3) := by decide +kernel
theorem dL_law_665 : decode cL_law 665 = .ok (.iconst 0, 1) := by decide +kernel
theorem dL_law_666 : decode cL_law 666 = .ok (.ireturn, 1) := by decide +kernel
theorem dL_law_667 : decode cL_law 667 = .ok (.aload_n 1, 1) := by decide +kernel
theorem dL_law_668 : decode cL_law 668 = .ok (.aload_n 0, 1) := by decide +kernel
theorem dL_law_669 : decode cL_law 669 = .ok (.iload_n 3, 1) := by decide +kernel
theorem dL_law_670 : decode cL_law 670 = .ok (.iconst 1, 1) := by decide +kernel
theorem dL_law_671 : decode cL_law 671 = .ok (.iadd, 1) := by decide +kernel
theorem dL_law_672 : decode cL_law 672 = .ok (.iaload, 1) := by decide +kernel
theorem dL_law_673 : decode cL_law 673 = .ok (.aload_n 0, 1) := by decide +kernel
theorem dL_law_674 : decode cL_law 674 = .ok (.iload_n 3, 1) := by decide +kernel
theorem dL_law_675 : decode cL_law 675 = .ok (.iconst 2, 1) := by decide +kernel
theorem dL_law_676 : decode cL_law 676 = .ok (.iadd, 1) := by decide +kernel
theorem dL_law_677 : decode cL_law 677 = .ok (.iaload, 1) := by decide +kernel
theorem dL_law_678 : decode cL_law 678 = .ok (.invokevirtual 77, 3) := by decide +kernel
theorem dL_law_681 : decode cL_law 681 = .ok (.aload_n 2, 1) := by decide +kernel
theorem dL_law_682 : decode cL_law 682 = .ok (.aload_n 0, 1) := by decide +kernel
theorem dL_law_683 : decode cL_law 683 = .ok (.iload_n 3, 1) := by decide +kernel
theorem dL_law_684 : decode cL_law 684 = .ok (.iconst 1, 1) := by decide +kernel
theorem dL_law_685 : decode cL_law 685 = .ok (.iadd, 1) := by decide +kernel
theorem dL_law_686 : decode cL_law 686 = .ok (.iaload, 1) := by decide +kernel
theorem dL_law_687 : decode cL_law 687 = .ok (.aload_n 0, 1) := by decide +kernel
theorem dL_law_688 : decode cL_law 688 = .ok (.iload_n 3, 1) := by decide +kernel
theorem dL_law_689 : decode cL_law 689 = .ok (.iconst 2, 1) := by decide +kernel
theorem dL_law_690 : decode cL_law 690 = .ok (.iadd, 1) := by decide +kernel
theorem dL_law_691 : decode cL_law 691 = .ok (.iaload, 1) := by decide +kernel
theorem dL_law_692 : decode cL_law 692 = .ok (.invokevirtual 80, 3) := by decide +kernel
theorem dL_law_695 : decode cL_law 695 = .ok (.if_icmp .eq 438, 3) := by decide +kernel
theorem dL_law_698 : decode cL_law 698 = .ok (.iconst 0, 1) := by decide +kernel
theorem dL_law_699 : decode cL_law 699 = .ok (.ireturn, 1) := by decide +kernel
theorem dL_law_700 : decode cL_law 700 = .ok (.aload_n 1, 1) := by decide +kernel
theorem dL_law_701 : decode cL_law 701 = .ok (.aload_n 0, 1) := by decide +kernel
theorem dL_law_702 : decode cL_law 702 = .ok (.iload_n 3, 1) := by decide +kernel
theorem dL_law_703 : decode cL_law 703 = .ok (.iconst 1, 1) := by decide +kernel
theorem dL_law_704 : decode cL_law 704 = .ok (.iadd, 1) := by decide +kernel
theorem dL_law_705 : decode cL_law 705 = .ok (.iaload, 1) := by decide +kernel
theorem dL_law_706 : decode cL_law 706 = .ok (.aload_n 0, 1) := by decide +kernel
theorem dL_law_707 : decode cL_law 707 = .ok (.iload_n 3, 1) := by decide +kernel
theorem dL_law_708 : decode cL_law 708 = .ok (.iconst 2, 1) := by decide +kernel
theorem dL_law_709 : decode cL_law 709 = .ok (.iadd, 1) := by decide +kernel
theorem dL_law_710 : decode cL_law 710 = .ok (.iaload, 1) := by decide +kernel
theorem dL_law_711 : decode cL_law 711 = .ok (.invokevirtual 81, 3) := by decide +kernel
theorem dL_law_714 : decode cL_law 714 = .ok (.aload_n 2, 1) := by decide +kernel
theorem dL_law_715 : decode cL_law 715 = .ok (.aload_n 0, 1) := by decide +kernel
theorem dL_law_716 : decode cL_law 716 = .ok (.iload_n 3, 1) := by decide +kernel
theorem dL_law_717 : decode cL_law 717 = .ok (.iconst 1, 1) := by decide +kernel
theorem dL_law_718 : decode cL_law 718 = .ok (.iadd, 1) := by decide +kernel
theorem dL_law_719 : decode cL_law 719 = .ok (.iaload, 1) := by decide +kernel
theorem dL_law_720 : decode cL_law 720 = .ok (.aload_n 0, 1) := by decide +kernel
theorem dL_law_721 : decode cL_law 721 = .ok (.iload_n 3, 1) := by decide +kernel
theorem dL_law_722 : decode cL_law 722 = .ok (.iconst 2, 1) := by decide +kernel
theorem dL_law_723 : decode cL_law 723 = .ok (.iadd, 1) := by decide +kernel
theorem dL_law_724 : decode cL_law 724 = .ok (.iaload, 1) := by decide +kernel
theorem dL_law_725 : decode cL_law 725 = .ok (.invokevirtual 84, 3) := by decide +kernel
theorem dL_law_728 : decode cL_law 728 = .ok (.if_icmp .eq 405, 3) := by decide +kernel
theorem dL_law_731 : decode cL_law 731 = .ok (.iconst 0, 1) := by decide +kernel
theorem dL_law_732 : decode cL_law 732 = .ok (.ireturn, 1) := by decide +kernel
theorem dL_law_733 : decode cL_law 733 = .ok (.aload_n 1, 1) := by decide +kernel
theorem dL_law_734 : decode cL_law 734 = .ok (.aload_n 0, 1) := by decide +kernel
theorem dL_law_735 : decode cL_law 735 = .ok (.iload_n 3, 1) := by decide +kernel
theorem dL_law_736 : decode cL_law 736 = .ok (.iconst 1, 1) := by decide +kernel
theorem dL_law_737 : decode cL_law 737 = .ok (.iadd, 1) := by decide +kernel
theorem dL_law_738 : decode cL_law 738 = .ok (.iaload, 1) := by decide +kernel
theorem dL_law_739 : decode cL_law 739 = .ok (.aload_n 0, 1) := by decide +kernel
theorem dL_law_740 : decode cL_law 740 = .ok (.iload_n 3, 1) := by decide +kernel
theorem dL_law_741 : decode cL_law 741 = .ok (.iconst 2, 1) := by decide +kernel
theorem dL_law_742 : decode cL_law 742 = .ok (.iadd, 1) := by decide +kernel
theorem dL_law_743 : decode cL_law 743 = .ok (.iaload, 1) := by decide +kernel
theorem dL_law_744 : decode cL_law 744 = .ok (.invokevirtual 85, 3) := by decide +kernel
theorem dL_law_747 : decode cL_law 747 = .ok (.aload_n 2, 1) := by decide +kernel
theorem dL_law_748 : decode cL_law 748 = .ok (.aload_n 0, 1) := by decide +kernel
theorem dL_law_749 : decode cL_law 749 = .ok (.iload_n 3, 1) := by decide +kernel
theorem dL_law_750 : decode cL_law 750 = .ok (.iconst 1, 1) := by decide +kernel
theorem dL_law_751 : decode cL_law 751 = .ok (.iadd, 1) := by decide +kernel
theorem dL_law_752 : decode cL_law 752 = .ok (.iaload, 1) := by decide +kernel
theorem dL_law_753 : decode cL_law 753 = .ok (.aload_n 0, 1) := by decide +kernel
theorem dL_law_754 : decode cL_law 754 = .ok (.iload_n 3, 1) := by decide +kernel
theorem dL_law_755 : decode cL_law 755 = .ok (.iconst 2, 1) := by decide +kernel
theorem dL_law_756 : decode cL_law 756 = .ok (.iadd, 1) := by decide +kernel
theorem dL_law_757 : decode cL_law 757 = .ok (.iaload, 1) := by decide +kernel
theorem dL_law_758 : decode cL_law 758 = .ok (.invokevirtual 88, 3) := by decide +kernel
theorem dL_law_761 : decode cL_law 761 = .ok (.if_icmp .eq 372, 3) := by decide +kernel
theorem dL_law_764 : decode cL_law 764 = .ok (.iconst 0, 1) := by decide +kernel
theorem dL_law_765 : decode cL_law 765 = .ok (.ireturn, 1) := by decide +kernel
theorem dL_law_766 : decode cL_law 766 = .ok (.aload_n 1, 1) := by decide +kernel
theorem dL_law_767 : decode cL_law 767 = .ok (.aload_n 0, 1) := by decide +kernel
theorem dL_law_768 : decode cL_law 768 = .ok (.iload_n 3, 1) := by decide +kernel
theorem dL_law_769 : decode cL_law 769 = .ok (.iconst 1, 1) := by decide +kernel
theorem dL_law_770 : decode cL_law 770 = .ok (.iadd, 1) := by decide +kernel
theorem dL_law_771 : decode cL_law 771 = .ok (.iaload, 1) := by decide +kernel
theorem dL_law_772 : decode cL_law 772 = .ok (.invokevirtual 89, 3) := by decide +kernel
theorem dL_law_775 : decode cL_law 775 = .ok (.aload_n 2, 1) := by decide +kernel
theorem dL_law_776 : decode cL_law 776 = .ok (.aload_n 0, 1) := by decide +kernel
theorem dL_law_777 : decode cL_law 777 = .ok (.iload_n 3, 1) := by decide +kernel
theorem dL_law_778 : decode cL_law 778 = .ok (.iconst 1, 1) := by decide +kernel
theorem dL_law_779 : decode cL_law 779 = .ok (.iadd, 1) := by decide +kernel
theorem dL_law_780 : decode cL_law 780 = .ok (.iaload, 1) := by decide +kernel
theorem dL_law_781 : decode cL_law 781 = .ok (.invokevirtual 92, 3) := by decide +kernel
theorem dL_law_784 : decode cL_law 784 = .ok (.lcmp, 1) := by decide +kernel
theorem dL_law_785 : decode cL_law 785 = .ok (.ifCond .eq 348, 3) := by decide +kernel
theorem dL_law_788 : decode cL_law 788 = .ok (.iconst 0, 1) := by decide +kernel
theorem dL_law_789 : decode cL_law 789 = .ok (.ireturn, 1) := by decide +kernel
theorem dL_law_790 : decode cL_law 790 = .ok (.aload_n 1, 1) := by decide +kernel
theorem dL_law_791 : decode cL_law 791 = .ok (.invokevirtual 93, 3) := by decide +kernel
theorem dL_law_794 : decode cL_law 794 = .ok (.aload_n 2, 1) := by decide +kernel
theorem dL_law_795 : decode cL_law 795 = .ok (.invokevirtual 96, 3) := by decide +kernel
theorem dL_law_798 : decode cL_law 798 = .ok (.if_icmp .eq 335, 3) := by decide +kernel
theorem dL_law_801 : decode cL_law 801 = .ok (.iconst 0, 1) := by decide +kernel
theorem dL_law_802 : decode cL_law 802 = .ok (.ireturn, 1) := by decide +kernel
theorem dL_law_803 : decode cL_law 803 = .ok (.aload_n 1, 1) := by decide +kernel
theorem dL_law_804 : decode cL_law 804 = .ok (.aload_n 0, 1) := by decide +kernel
theorem dL_law_805 : decode cL_law 805 = .ok (.iload_n 3, 1) := by decide +kernel
theorem dL_law_806 : decode cL_law 806 = .ok (.iconst 1, 1) := by decide +kernel
theorem dL_law_807 : decode cL_law 807 = .ok (.iadd, 1) := by decide +kernel
theorem dL_law_808 : decode cL_law 808 = .ok (.iaload, 1) := by decide +kernel
theorem dL_law_809 : decode cL_law 809 = .ok (.invokevirtual 97, 3) := by decide +kernel
theorem dL_law_812 : decode cL_law 812 = .ok (.aload_n 2, 1) := by decide +kernel
theorem dL_law_813 : decode cL_law 813 = .ok (.aload_n 0, 1) := by decide +kernel
theorem dL_law_814 : decode cL_law 814 = .ok (.iload_n 3, 1) := by decide +kernel
theorem dL_law_815 : decode cL_law 815 = .ok (.iconst 1, 1) := by decide +kernel
theorem dL_law_816 : decode cL_law 816 = .ok (.iadd, 1) := by decide +kernel
theorem dL_law_817 : decode cL_law 817 = .ok (.iaload, 1) := by decide +kernel
theorem dL_law_818 : decode cL_law 818 = .ok (.invokevirtual 100, 3) := by decide +kernel
theorem dL_law_821 : decode cL_law 821 = .ok (.if_icmp .eq 312, 3) := by decide +kernel
theorem dL_law_824 : decode cL_law 824 = .ok (.iconst 0, 1) := by decide +kernel
theorem dL_law_825 : decode cL_law 825 = .ok (.ireturn, 1) := by decide +kernel
theorem dL_law_826 : decode cL_law 826 = .ok (.aload_n 1, 1) := by decide +kernel
theorem dL_law_827 : decode cL_law 827 = .ok (.aload_n 0, 1) := by decide +kernel
theorem dL_law_828 : decode cL_law 828 = .ok (.iload_n 3, 1) := by decide +kernel
theorem dL_law_829 : decode cL_law 829 = .ok (.iconst 1, 1) := by decide +kernel
theorem dL_law_830 : decode cL_law 830 = .ok (.iadd, 1) := by decide +kernel
theorem dL_law_831 : decode cL_law 831 = .ok (.iaload, 1) := by decide +kernel
theorem dL_law_832 : decode cL_law 832 = .ok (.invokevirtual 101, 3) := by decide +kernel
theorem dL_law_835 : decode cL_law 835 = .ok (.aload_n 2, 1) := by decide +kernel
theorem dL_law_836 : decode cL_law 836 = .ok (.aload_n 0, 1) := by decide +kernel
theorem dL_law_837 : decode cL_law 837 = .ok (.iload_n 3, 1) := by decide +kernel
theorem dL_law_838 : decode cL_law 838 = .ok (.iconst 1, 1) := by decide +kernel
theorem dL_law_839 : decode cL_law 839 = .ok (.iadd, 1) := by decide +kernel
theorem dL_law_840 : decode cL_law 840 = .ok (.iaload, 1) := by decide +kernel
theorem dL_law_841 : decode cL_law 841 = .ok (.invokevirtual 104, 3) := by decide +kernel
theorem dL_law_844 : decode cL_law 844 = .ok (.if_icmp .eq 289, 3) := by decide +kernel
theorem dL_law_847 : decode cL_law 847 = .ok (.iconst 0, 1) := by decide +kernel
theorem dL_law_848 : decode cL_law 848 = .ok (.ireturn, 1) := by decide +kernel
theorem dL_law_849 : decode cL_law 849 = .ok (.aload_n 1, 1) := by decide +kernel
theorem dL_law_850 : decode cL_law 850 = .ok (.invokevirtual 105, 3) := by decide +kernel
theorem dL_law_853 : decode cL_law 853 = .ok (.aload_n 2, 1) := by decide +kernel
theorem dL_law_854 : decode cL_law 854 = .ok (.invokevirtual 108, 3) := by decide +kernel
theorem dL_law_857 : decode cL_law 857 = .ok (.if_icmp .eq 276, 3) := by decide +kernel
theorem dL_law_860 : decode cL_law 860 = .ok (.iconst 0, 1) := by decide +kernel
theorem dL_law_861 : decode cL_law 861 = .ok (.ireturn, 1) := by decide +kernel
theorem dL_law_862 : decode cL_law 862 = .ok (.aload_n 1, 1) := by decide +kernel
theorem dL_law_863 : decode cL_law 863 = .ok (.invokevirtual 109, 3) := by decide +kernel
theorem dL_law_866 : decode cL_law 866 = .ok (.aload_n 2, 1) := by decide +kernel
theorem dL_law_867 : decode cL_law 867 = .ok (.invokevirtual 112, 3) := by decide +kernel
theorem dL_law_870 : decode cL_law 870 = .ok (.if_icmp .eq 263, 3) := by decide +kernel
theorem dL_law_873 : decode cL_law 873 = .ok (.iconst 0, 1) := by decide +kernel
theorem dL_law_874 : decode cL_law 874 = .ok (.ireturn, 1) := by decide +kernel
theorem dL_law_875 : decode cL_law 875 = .ok (.aload_n 1, 1) := by decide +kernel
theorem dL_law_876 : decode cL_law 876 = .ok (.aload_n 0, 1) := by decide +kernel
theorem dL_law_877 : decode cL_law 877 = .ok (.iload_n 3, 1) := by decide +kernel
theorem dL_law_878 : decode cL_law 878 = .ok (.iconst 1, 1) := by decide +kernel
theorem dL_law_879 : decode cL_law 879 = .ok (.iadd, 1) := by decide +kernel
theorem dL_law_880 : decode cL_law 880 = .ok (.iaload, 1) := by decide +kernel
theorem dL_law_881 : decode cL_law 881 = .ok (.invokevirtual 113, 3) := by decide +kernel
theorem dL_law_884 : decode cL_law 884 = .ok (.aload_n 2, 1) := by decide +kernel
theorem dL_law_885 : decode cL_law 885 = .ok (.aload_n 0, 1) := by decide +kernel
theorem dL_law_886 : decode cL_law 886 = .ok (.iload_n 3, 1) := by decide +kernel
theorem dL_law_887 : decode cL_law 887 = .ok (.iconst 1, 1) := by decide +kernel
theorem dL_law_888 : decode cL_law 888 = .ok (.iadd, 1) := by decide +kernel
theorem dL_law_889 : decode cL_law 889 = .ok (.iaload, 1) := by decide +kernel
theorem dL_law_890 : decode cL_law 890 = .ok (.invokevirtual 116, 3) := by decide +kernel
theorem dL_law_893 : decode cL_law 893 = .ok (.if_icmp .eq 240, 3) := by decide +kernel
theorem dL_law_896 : decode cL_law 896 = .ok (.iconst 0, 1) := by decide +kernel
theorem dL_law_897 : decode cL_law 897 = .ok (.ireturn, 1) := by decide +kernel
theorem dL_law_898 : decode cL_law 898 = .ok (.aload_n 1, 1) := by decide +kernel
theorem dL_law_899 : decode cL_law 899 = .ok (.aload_n 0, 1) := by decide +kernel
theorem dL_law_900 : decode cL_law 900 = .ok (.iload_n 3, 1) := by decide +kernel
theorem dL_law_901 : decode cL_law 901 = .ok (.iconst 1, 1) := by decide +kernel
theorem dL_law_902 : decode cL_law 902 = .ok (.iadd, 1) := by decide +kernel
theorem dL_law_903 : decode cL_law 903 = .ok (.iaload, 1) := by decide +kernel
theorem dL_law_904 : decode cL_law 904 = .ok (.aload_n 0, 1) := by decide +kernel
theorem dL_law_905 : decode cL_law 905 = .ok (.iload_n 3, 1) := by decide +kernel
theorem dL_law_906 : decode cL_law 906 = .ok (.iconst 2, 1) := by decide +kernel
theorem dL_law_907 : decode cL_law 907 = .ok (.iadd, 1) := by decide +kernel
theorem dL_law_908 : decode cL_law 908 = .ok (.iaload, 1) := by decide +kernel
theorem dL_law_909 : decode cL_law 909 = .ok (.aload_n 0, 1) := by decide +kernel
theorem dL_law_910 : decode cL_law 910 = .ok (.iload_n 3, 1) := by decide +kernel
theorem dL_law_911 : decode cL_law 911 = .ok (.iconst 3, 1) := by decide +kernel
theorem dL_law_912 : decode cL_law 912 = .ok (.iadd, 1) := by decide +kernel
theorem dL_law_913 : decode cL_law 913 = .ok (.iaload, 1) := by decide +kernel
theorem dL_law_914 : decode cL_law 914 = .ok (.invokevirtual 117, 3) := by decide +kernel
theorem dL_law_917 : decode cL_law 917 = .ok (.aload_n 2, 1) := by decide +kernel
theorem dL_law_918 : decode cL_law 918 = .ok (.aload_n 0, 1) := by decide +kernel
theorem dL_law_919 : decode cL_law 919 = .ok (.iload_n 3, 1) := by decide +kernel
theorem dL_law_920 : decode cL_law 920 = .ok (.iconst 1, 1) := by decide +kernel
theorem dL_law_921 : decode cL_law 921 = .ok (.iadd, 1) := by decide +kernel
theorem dL_law_922 : decode cL_law 922 = .ok (.iaload, 1) := by decide +kernel
theorem dL_law_923 : decode cL_law 923 = .ok (.aload_n 0, 1) := by decide +kernel
theorem dL_law_924 : decode cL_law 924 = .ok (.iload_n 3, 1) := by decide +kernel
theorem dL_law_925 : decode cL_law 925 = .ok (.iconst 2, 1) := by decide +kernel
theorem dL_law_926 : decode cL_law 926 = .ok (.iadd, 1) := by decide +kernel
theorem dL_law_927 : decode cL_law 927 = .ok (.iaload, 1) := by decide +kernel
theorem dL_law_928 : decode cL_law 928 = .ok (.aload_n 0, 1) := by decide +kernel
theorem dL_law_929 : decode cL_law 929 = .ok (.iload_n 3, 1) := by decide +kernel
theorem dL_law_930 : decode cL_law 930 = .ok (.iconst 3, 1) := by decide +kernel
theorem dL_law_931 : decode cL_law 931 = .ok (.iadd, 1) := by decide +kernel
theorem dL_law_932 : decode cL_law 932 = .ok (.iaload, 1) := by decide +kernel
theorem dL_law_933 : decode cL_law 933 = .ok (.invokevirtual 120, 3) := by decide +kernel
theorem dL_law_936 : decode cL_law 936 = .ok (.if_icmp .eq 197, 3) := by decide +kernel
theorem dL_law_939 : decode cL_law 939 = .ok (.iconst 0, 1) := by decide +kernel
theorem dL_law_940 : decode cL_law 940 = .ok (.ireturn, 1) := by decide +kernel
theorem dL_law_941 : decode cL_law 941 = .ok (.aload_n 1, 1) := by decide +kernel
theorem dL_law_942 : decode cL_law 942 = .ok (.aload_n 0, 1) := by decide +kernel
theorem dL_law_943 : decode cL_law 943 = .ok (.iload_n 3, 1) := by decide +kernel
theorem dL_law_944 : decode cL_law 944 = .ok (.iconst 1, 1) := by decide +kernel
theorem dL_law_945 : decode cL_law 945 = .ok (.iadd, 1) := by decide +kernel
theorem dL_law_946 : decode cL_law 946 = .ok (.iaload, 1) := by decide +kernel
theorem dL_law_947 : decode cL_law 947 = .ok (.aload_n 0, 1) := by decide +kernel
theorem dL_law_948 : decode cL_law 948 = .ok (.iload_n 3, 1) := by decide +kernel
theorem dL_law_949 : decode cL_law 949 = .ok (.iconst 2, 1) := by decide +kernel
theorem dL_law_950 : decode cL_law 950 = .ok (.iadd, 1) := by decide +kernel
theorem dL_law_951 : decode cL_law 951 = .ok (.iaload, 1) := by decide +kernel
theorem dL_law_952 : decode cL_law 952 = .ok (.aload_n 0, 1) := by decide +kernel
theorem dL_law_953 : decode cL_law 953 = .ok (.iload_n 3, 1) := by decide +kernel
theorem dL_law_954 : decode cL_law 954 = .ok (.iconst 3, 1) := by decide +kernel
theorem dL_law_955 : decode cL_law 955 = .ok (.iadd, 1) := by decide +kernel
theorem dL_law_956 : decode cL_law 956 = .ok (.iaload, 1) := by decide +kernel
theorem dL_law_957 : decode cL_law 957 = .ok (.invokevirtual 121, 3) := by decide +kernel
theorem dL_law_960 : decode cL_law 960 = .ok (.aload_n 2, 1) := by decide +kernel
theorem dL_law_961 : decode cL_law 961 = .ok (.aload_n 0, 1) := by decide +kernel
theorem dL_law_962 : decode cL_law 962 = .ok (.iload_n 3, 1) := by decide +kernel
theorem dL_law_963 : decode cL_law 963 = .ok (.iconst 1, 1) := by decide +kernel
theorem dL_law_964 : decode cL_law 964 = .ok (.iadd, 1) := by decide +kernel
theorem dL_law_965 : decode cL_law 965 = .ok (.iaload, 1) := by decide +kernel
theorem dL_law_966 : decode cL_law 966 = .ok (.aload_n 0, 1) := by decide +kernel
theorem dL_law_967 : decode cL_law 967 = .ok (.iload_n 3, 1) := by decide +kernel
theorem dL_law_968 : decode cL_law 968 = .ok (.iconst 2, 1) := by decide +kernel
theorem dL_law_969 : decode cL_law 969 = .ok (.iadd, 1) := by decide +kernel
theorem dL_law_970 : decode cL_law 970 = .ok (.iaload, 1) := by decide +kernel
theorem dL_law_971 : decode cL_law 971 = .ok (.aload_n 0, 1) := by decide +kernel
theorem dL_law_972 : decode cL_law 972 = .ok (.iload_n 3, 1) := by decide +kernel
theorem dL_law_973 : decode cL_law 973 = .ok (.iconst 3, 1) := by decide +kernel
theorem dL_law_974 : decode cL_law 974 = .ok (.iadd, 1) := by decide +kernel
theorem dL_law_975 : decode cL_law 975 = .ok (.iaload, 1) := by decide +kernel
theorem dL_law_976 : decode cL_law 976 = .ok (.invokevirtual 124, 3) := by decide +kernel
theorem dL_law_979 : decode cL_law 979 = .ok (.if_icmp .eq 154, 3) := by decide +kernel
theorem dL_law_982 : decode cL_law 982 = .ok (.iconst 0, 1) := by decide +kernel
theorem dL_law_983 : decode cL_law 983 = .ok (.ireturn, 1) := by decide +kernel
theorem dL_law_984 : decode cL_law 984 = .ok (.aload_n 1, 1) := by decide +kernel
theorem dL_law_985 : decode cL_law 985 = .ok (.aload_n 0, 1) := by decide +kernel
theorem dL_law_986 : decode cL_law 986 = .ok (.iload_n 3, 1) := by decide +kernel
theorem dL_law_987 : decode cL_law 987 = .ok (.iconst 1, 1) := by decide +kernel
theorem dL_law_988 : decode cL_law 988 = .ok (.iadd, 1) := by decide +kernel
theorem dL_law_989 : decode cL_law 989 = .ok (.iaload, 1) := by decide +kernel
theorem dL_law_990 : decode cL_law 990 = .ok (.aload_n 0, 1) := by decide +kernel
theorem dL_law_991 : decode cL_law 991 = .ok (.iload_n 3, 1) := by decide +kernel
theorem dL_law_992 : decode cL_law 992 = .ok (.iconst 2, 1) := by decide +kernel
theorem dL_law_993 : decode cL_law 993 = .ok (.iadd, 1) := by decide +kernel
theorem dL_law_994 : decode cL_law 994 = .ok (.iaload, 1) := by decide +kernel
theorem dL_law_995 : decode cL_law 995 = .ok (.aload_n 0, 1) := by decide +kernel
theorem dL_law_996 : decode cL_law 996 = .ok (.iload_n 3, 1) := by decide +kernel
theorem dL_law_997 : decode cL_law 997 = .ok (.iconst 3, 1) := by decide +kernel
theorem dL_law_998 : decode cL_law 998 = .ok (.iadd, 1) := by decide +kernel
theorem dL_law_999 : decode cL_law 999 = .ok (.iaload, 1) := by decide +kernel
theorem dL_law_1000 : decode cL_law 1000 = .ok (.aload_n 0, 1) := by decide +kernel
theorem dL_law_1001 : decode cL_law 1001 = .ok (.iload_n 3, 1) := by decide +kernel
theorem dL_law_1002 : decode cL_law 1002 = .ok (.iconst 4, 1) := by decide +kernel
theorem dL_law_1003 : decode cL_law 1003 = .ok (.iadd, 1) := by decide +kernel
theorem dL_law_1004 : decode cL_law 1004 = .ok (.iaload, 1) := by decide +kernel
theorem dL_law_1005 : decode cL_law 1005 = .ok (.aload_n 0, 1) := by decide +kernel
theorem dL_law_1006 : decode cL_law 1006 = .ok (.iload_n 3, 1) := by decide +kernel
theorem dL_law_1007 : decode cL_law 1007 = .ok (.iconst 5, 1) := by decide +kernel
theorem dL_law_1008 : decode cL_law 1008 = .ok (.iadd, 1) := by decide +kernel
theorem dL_law_1009 : decode cL_law 1009 = .ok (.iaload, 1) := by decide +kernel
theorem dL_law_1010 : decode cL_law 1010 = .ok (.invokevirtual 125, 3) := by decide +kernel
theorem dL_law_1013 : decode cL_law 1013 = .ok (.aload_n 2, 1) := by decide +kernel
theorem dL_law_1014 : decode cL_law 1014 = .ok (.aload_n 0, 1) := by decide +kernel
theorem dL_law_1015 : decode cL_law 1015 = .ok (.iload_n 3, 1) := by decide +kernel
theorem dL_law_1016 : decode cL_law 1016 = .ok (.iconst 1, 1) := by decide +kernel
theorem dL_law_1017 : decode cL_law 1017 = .ok (.iadd, 1) := by decide +kernel
theorem dL_law_1018 : decode cL_law 1018 = .ok (.iaload, 1) := by decide +kernel
theorem dL_law_1019 : decode cL_law 1019 = .ok (.aload_n 0, 1) := by decide +kernel
theorem dL_law_1020 : decode cL_law 1020 = .ok (.iload_n 3, 1) := by decide +kernel
theorem dL_law_1021 : decode cL_law 1021 = .ok (.iconst 2, 1) := by decide +kernel
theorem dL_law_1022 : decode cL_law 1022 = .ok (.iadd, 1) := by decide +kernel
theorem dL_law_1023 : decode cL_law 1023 = .ok (.iaload, 1) := by decide +kernel
theorem dL_law_1024 : decode cL_law 1024 = .ok (.aload_n 0, 1) := by decide +kernel
theorem dL_law_1025 : decode cL_law 1025 = .ok (.iload_n 3, 1) := by decide +kernel
theorem dL_law_1026 : decode cL_law 1026 = .ok (.iconst 3, 1) := by decide +kernel
theorem dL_law_1027 : decode cL_law 1027 = .ok (.iadd, 1) := by decide +kernel
theorem dL_law_1028 : decode cL_law 1028 = .ok (.iaload, 1) := by decide +kernel
theorem dL_law_1029 : decode cL_law 1029 = .ok (.aload_n 0, 1) := by decide +kernel
theorem dL_law_1030 : decode cL_law 1030 = .ok (.iload_n 3, 1) := by decide +kernel
theorem dL_law_1031 : decode cL_law 1031 = .ok (.iconst 4, 1) := by decide +kernel
theorem dL_law_1032 : decode cL_law 1032 = .ok (.iadd, 1) := by decide +kernel
theorem dL_law_1033 : decode cL_law 1033 = .ok (.iaload, 1) := by decide +kernel
theorem dL_law_1034 : decode cL_law 1034 = .ok (.aload_n 0, 1) := by decide +kernel
theorem dL_law_1035 : decode cL_law 1035 = .ok (.iload_n 3, 1) := by decide +kernel
theorem dL_law_1036 : decode cL_law 1036 = .ok (.iconst 5, 1) := by decide +kernel
theorem dL_law_1037 : decode cL_law 1037 = .ok (.iadd, 1) := by decide +kernel
theorem dL_law_1038 : decode cL_law 1038 = .ok (.iaload, 1) := by decide +kernel
theorem dL_law_1039 : decode cL_law 1039 = .ok (.invokevirtual 129, 3) := by decide +kernel
theorem dL_law_1042 : decode cL_law 1042 = .ok (.if_icmp .eq 91, 3) := by decide +kernel
theorem dL_law_1045 : decode cL_law 1045 = .ok (.iconst 0, 1) := by decide +kernel
theorem dL_law_1046 : decode cL_law 1046 = .ok (.ireturn, 1) := by decide +kernel
theorem dL_law_1047 : decode cL_law 1047 = .ok (.aload_n 1, 1) := by decide +kernel
theorem dL_law_1048 : decode cL_law 1048 = .ok (.aload_n 0, 1) := by decide +kernel
theorem dL_law_1049 : decode cL_law 1049 = .ok (.iload_n 3, 1) := by decide +kernel
theorem dL_law_1050 : decode cL_law 1050 = .ok (.iconst 1, 1) := by decide +kernel
theorem dL_law_1051 : decode cL_law 1051 = .ok (.iadd, 1) := by decide +kernel
theorem dL_law_1052 : decode cL_law 1052 = .ok (.iaload, 1) := by decide +kernel
theorem dL_law_1053 : decode cL_law 1053 = .ok (.aload_n 0, 1) := by decide +kernel
theorem dL_law_1054 : decode cL_law 1054 = .ok (.iload_n 3, 1) := by decide +kernel
theorem dL_law_1055 : decode cL_law 1055 = .ok (.iconst 2, 1) := by decide +kernel
theorem dL_law_1056 : decode cL_law 1056 = .ok (.iadd, 1) := by decide +kernel
theorem dL_law_1057 : decode cL_law 1057 = .ok (.iaload, 1) := by decide +kernel
theorem dL_law_1058 : decode cL_law 1058 = .ok (.aload_n 0, 1) := by decide +kernel
theorem dL_law_1059 : decode cL_law 1059 = .ok (.iload_n 3, 1) := by decide +kernel
theorem dL_law_1060 : decode cL_law 1060 = .ok (.iconst 3, 1) := by decide +kernel
theorem dL_law_1061 : decode cL_law 1061 = .ok (.iadd, 1) := by decide +kernel
theorem dL_law_1062 : decode cL_law 1062 = .ok (.iaload, 1) := by decide +kernel
theorem dL_law_1063 : decode cL_law 1063 = .ok (.aload_n 0, 1) := by decide +kernel
theorem dL_law_1064 : decode cL_law 1064 = .ok (.iload_n 3, 1) := by decide +kernel
theorem dL_law_1065 : decode cL_law 1065 = .ok (.iconst 4, 1) := by decide +kernel
theorem dL_law_1066 : decode cL_law 1066 = .ok (.iadd, 1) := by decide +kernel
theorem dL_law_1067 : decode cL_law 1067 = .ok (.iaload, 1) := by decide +kernel
theorem dL_law_1068 : decode cL_law 1068 = .ok (.invokevirtual 130, 3) := by decide +kernel
theorem dL_law_1071 : decode cL_law 1071 = .ok (.aload_n 2, 1) := by decide +kernel
theorem dL_law_1072 : decode cL_law 1072 = .ok (.aload_n 0, 1) := by decide +kernel
theorem dL_law_1073 : decode cL_law 1073 = .ok (.iload_n 3, 1) := by decide +kernel
theorem dL_law_1074 : decode cL_law 1074 = .ok (.iconst 1, 1) := by decide +kernel
theorem dL_law_1075 : decode cL_law 1075 = .ok (.iadd, 1) := by decide +kernel
theorem dL_law_1076 : decode cL_law 1076 = .ok (.iaload, 1) := by decide +kernel
theorem dL_law_1077 : decode cL_law 1077 = .ok (.aload_n 0, 1) := by decide +kernel
theorem dL_law_1078 : decode cL_law 1078 = .ok (.iload_n 3, 1) := by decide +kernel
theorem dL_law_1079 : decode cL_law 1079 = .ok (.iconst 2, 1) := by decide +kernel
theorem dL_law_1080 : decode cL_law 1080 = .ok (.iadd, 1) := by decide +kernel
theorem dL_law_1081 : decode cL_law 1081 = .ok (.iaload, 1) := by decide +kernel
theorem dL_law_1082 : decode cL_law 1082 = .ok (.aload_n 0, 1) := by decide +kernel
theorem dL_law_1083 : decode cL_law 1083 = .ok (.iload_n 3, 1) := by decide +kernel
theorem dL_law_1084 : decode cL_law 1084 = .ok (.iconst 3, 1) := by decide +kernel
theorem dL_law_1085 : decode cL_law 1085 = .ok (.iadd, 1) := by decide +kernel
theorem dL_law_1086 : decode cL_law 1086 = .ok (.iaload, 1) := by decide +kernel
theorem dL_law_1087 : decode cL_law 1087 = .ok (.aload_n 0, 1) := by decide +kernel
theorem dL_law_1088 : decode cL_law 1088 = .ok (.iload_n 3, 1) := by decide +kernel
theorem dL_law_1089 : decode cL_law 1089 = .ok (.iconst 4, 1) := by decide +kernel
theorem dL_law_1090 : decode cL_law 1090 = .ok (.iadd, 1) := by decide +kernel
theorem dL_law_1091 : decode cL_law 1091 = .ok (.iaload, 1) := by decide +kernel
theorem dL_law_1092 : decode cL_law 1092 = .ok (.invokevirtual 134, 3) := by decide +kernel
theorem dL_law_1095 : decode cL_law 1095 = .ok (.if_icmp .eq 38, 3) := by decide +kernel
theorem dL_law_1098 : decode cL_law 1098 = .ok (.iconst 0, 1) := by decide +kernel
theorem dL_law_1099 : decode cL_law 1099 = .ok (.ireturn, 1) := by decide +kernel
theorem dL_law_1100 : decode cL_law 1100 = .ok (.aload_n 1, 1) := by decide +kernel
theorem dL_law_1101 : decode cL_law 1101 = .ok (.aload_n 0, 1) := by decide +kernel
theorem dL_law_1102 : decode cL_law 1102 = .ok (.iload_n 3, 1) := by decide +kernel
theorem dL_law_1103 : decode cL_law 1103 = .ok (.iconst 1, 1) := by decide +kernel
theorem dL_law_1104 : decode cL_law 1104 = .ok (.iadd, 1) := by decide +kernel
theorem dL_law_1105 : decode cL_law 1105 = .ok (.iaload, 1) := by decide +kernel
theorem dL_law_1106 : decode cL_law 1106 = .ok (.aload_n 0, 1) := by decide +kernel
theorem dL_law_1107 : decode cL_law 1107 = .ok (.iload_n 3, 1) := by decide +kernel
theorem dL_law_1108 : decode cL_law 1108 = .ok (.iconst 2, 1) := by decide +kernel
theorem dL_law_1109 : decode cL_law 1109 = .ok (.iadd, 1) := by decide +kernel
theorem dL_law_1110 : decode cL_law 1110 = .ok (.iaload, 1) := by decide +kernel
theorem dL_law_1111 : decode cL_law 1111 = .ok (.invokevirtual 135, 3) := by decide +kernel
theorem dL_law_1114 : decode cL_law 1114 = .ok (.aload_n 2, 1) := by decide +kernel
theorem dL_law_1115 : decode cL_law 1115 = .ok (.aload_n 0, 1) := by decide +kernel
theorem dL_law_1116 : decode cL_law 1116 = .ok (.iload_n 3, 1) := by decide +kernel
theorem dL_law_1117 : decode cL_law 1117 = .ok (.iconst 1, 1) := by decide +kernel
theorem dL_law_1118 : decode cL_law 1118 = .ok (.iadd, 1) := by decide +kernel
theorem dL_law_1119 : decode cL_law 1119 = .ok (.iaload, 1) := by decide +kernel
theorem dL_law_1120 : decode cL_law 1120 = .ok (.aload_n 0, 1) := by decide +kernel
theorem dL_law_1121 : decode cL_law 1121 = .ok (.iload_n 3, 1) := by decide +kernel
theorem dL_law_1122 : decode cL_law 1122 = .ok (.iconst 2, 1) := by decide +kernel
theorem dL_law_1123 : decode cL_law 1123 = .ok (.iadd, 1) := by decide +kernel
theorem dL_law_1124 : decode cL_law 1124 = .ok (.iaload, 1) := by decide +kernel
theorem dL_law_1125 : decode cL_law 1125 = .ok (.invokevirtual 138, 3) := by decide +kernel
theorem dL_law_1128 : decode cL_law 1128 = .ok (.if_icmp .eq 5, 3) := by decide +kernel
theorem dL_law_1131 : decode cL_law 1131 = .ok (.iconst 0, 1) := by decide +kernel
theorem dL_law_1132 : decode cL_law 1132 = .ok (.ireturn, 1) := by decide +kernel
theorem dL_law_1133 : decode cL_law 1133 = .ok (.iinc 3 6, 3) := by decide +kernel
theorem dL_law_1136 : decode cL_law 1136 = .ok (.goto (-1118), 3) := by decide +kernel
theorem dL_law_1139 : decode cL_law 1139 = .ok (.iconst 1, 1) := by decide +kernel
theorem dL_law_1140 : decode cL_law 1140 = .ok (.ireturn, 1) := by decide +kernel
end
section
-- THE BASE: what a state is, what a contract says, the rows of the walk. All of it is this project's own.
abbrev MS : Type := (Nat → Int32) × (Nat → Nat → Int32)
/-- a scalar field becomes x -/
def sp (s : MS) (k : Nat) (x : Int32) : MS := (va_up s.1 k x, s.2)
/-- an array's place becomes x -/
def ap (s : MS) (k i : Nat) (x : Int32) : MS := (s.1, va_up s.2 k (upd (s.2 k) i x))
/-- a point where ways meet -/
def jn {X ρ : Type} (K : X → Option ρ) (b : (X → Option ρ) → Option ρ) : Option ρ := b K
/-- a loop's head, at most n times -/
def lp {X ρ : Type} (F : (X → Option ρ) → X → Option ρ) : Nat → X → Option ρ
  | 0, _ => none
  | n + 1, x => F (lp F n) x
def bn {X ρ : Type} (x : X) (K : X → Option ρ) : Option ρ := K x
def cl {X ρ : Type} (o : Option X) (K : X → Option ρ) : Option ρ := match o with
  | none => none
  | some x => K x
def ib (i : Int32) (n : Nat) : Bool := decide (¬ (i < 0 ∨ n ≤ i.toNatClampNeg))
def ck {ρ : Type} (b : Bool) (K : Option ρ) : Option ρ := if b = true then K else none
theorem ck_inv {ρ : Type} {b : Bool} {K : Option ρ} {r : ρ} (h : ck b K = some r) : b = true ∧ K = some r := by
  unfold ck at h
  split at h
  next hb => exact ⟨hb, h⟩
  next => cases h
theorem ib_in {i : Int32} {n : Nat} (h : ib i n = true) : vp_in i n := of_decide_eq_true (p := ¬ (i < 0 ∨ n ≤ i.toNatClampNeg)) h
theorem cl_inv {X ρ : Type} {o : Option X} {K : X → Option ρ} {r : ρ} (h : cl o K = some r) : ∃ x, o = some x ∧ K x = some r := by
  cases o with
  | none => cases h
  | some x => exact ⟨x, rfl, h⟩
theorem ite_t {ρ : Type} {c : Prop} [Decidable c] {a b : Option ρ} {r : ρ} (h : (if c then a else b) = some r) (hc : c) : a = some r := by rw [if_pos hc] at h; exact h
theorem ite_f {ρ : Type} {c : Prop} [Decidable c] {a b : Option ρ} {r : ρ} (h : (if c then a else b) = some r) (hc : ¬ c) : b = some r := by rw [if_neg hc] at h; exact h
theorem jn_use {X ρ : Type} {K : X → Option ρ} {b : (X → Option ρ) → Option ρ} {r : ρ} {G : Prop} {P : X → Prop} (h : jn K b = some r) (hK : ∀ x, K x = some r → P x) (hb : ∀ K : X → Option ρ, (∀ x, K x = some r → P x) → b K = some r → G) : G := hb K hK h
theorem lp_use {X ρ : Type} {F : (X → Option ρ) → X → Option ρ} {n : Nat} {r : ρ} {P : X → Prop} (hF : ∀ self : X → Option ρ, (∀ x, self x = some r → P x) → ∀ x, F self x = some r → P x) : ∀ x, lp F n x = some r → P x := by
  induction n with
  | zero => intro x h; cases h
  | succ n ih => intro x h; exact hF (lp F n) ih x h
-- words
def TW : List Cond := lw_tbl.filter goodWord
theorem TW_mem {w : Cond} (h : (decide (w ∈ lw_tbl) && goodWord w) = true) : w ∈ TW := by
  rw [Bool.and_eq_true] at h
  exact List.mem_filter.mpr ⟨of_decide_eq_true h.1, h.2⟩
theorem TW_good {w : Cond} (h : w ∈ TW) : (w.onTables && w.keeps) = true ∨ ∃ ty, w = .arrayClass ty := good_of_word (List.mem_filter.mp h).2
def NW : List Cond := lw_tbl.filter (fun w => match w with
  | .methodLinkNest _ _ _ _ => true
  | .fieldLinkNest _ _ _ _ _ _ => true
  | _ => false)
theorem NW_mem {w : Cond} (h : (decide (w ∈ NW)) = true) : w ∈ NW := of_decide_eq_true h
-- what every method may take of the machine: the classes of arrays, the static arrays, the texts
abbrev GT : Type := va_G × (Nat → ClassId) × (Nat → Nat) × (Nat → Nat) × (Nat → Nat)
abbrev tysG (g : GT) : List (ClassId × FieldType) := [(g.2.1 0, .int), (g.2.1 1, .byte), (g.2.1 2, .array .int), (g.2.1 3, .object "LastCar$Text"), (g.2.1 4, .object "LastCar$Sheet"), (g.2.1 5, .object "LastCar$Way")]
def K_own : List (String × Nat × String) := [("LastCar", 82, "go heard * 3 - sun ; rush 0 ; harm 1 ;"), ("LastCar$Tape", 99, "up"), ("LastCar$Tape", 105, "wait"), ("LastCar$Tape", 107, "left"), ("LastCar$Tape", 109, "price"), ("LastCar$Tape", 111, "heard"), ("LastCar$Tape", 113, "sun"), ("LastCar$Tape", 115, "go"), ("LastCar$Tape", 117, "rush"), ("LastCar$Tape", 119, "harm"), ("LastCar$Tape", 121, "or"), ("LastCar$Tape", 123, "and"), ("LastCar$Tape", 125, "not")]
def K_len : List Nat := [38, 2, 4, 4, 5, 5, 3, 2, 4, 4, 2, 3, 3]
def K_byt : List (List Int32) := [[103, 111, 32, 104, 101, 97, 114, 100, 32, 42, 32, 51, 32, 45, 32, 115, 117, 110, 32, 59, 32, 114, 117, 115, 104, 32, 48, 32, 59, 32, 104, 97, 114, 109, 32, 49, 32, 59], [117, 112], [119, 97, 105, 116], [108, 101, 102, 116], [112, 114, 105, 99, 101], [104, 101, 97, 114, 100], [115, 117, 110], [103, 111], [114, 117, 115, 104], [104, 97, 114, 109], [111, 114], [97, 110, 100], [110, 111, 116]]
def st_least : Nat → Value := fun j => .int (match j with | 0 => 0 | 1 => 0 | 2 => 1 | 3 => 0 | 4 => 0 | _ => 1)
def st_most : Nat → Value := fun j => .int (match j with | 0 => 400 | 1 => 40 | 2 => 60 | 3 => 9 | 4 => 9 | _ => 120)
def st_under : Nat → Value := fun j => .int (match j with | 0 => -1 | 1 => 0 | 2 => 0 | 3 => 1 | 4 => 2 | _ => 3)
def ao2 (U : State) : Prop := (Cond.arrayOver (.array .int)).before #[] U = true
theorem ao2_spec {s : State} (h : ao2 s) :
    ∃ comp c k, s.vm.findClass (FieldType.array .int).toString = some comp ∧ (s.vm.classes.findIdx? fun (x : Class) => match x.kind with | .array component _ => component == comp | _ => false) = some c ∧ s.vm.classes[c]? = some k ∧ k.kind = .array comp (.array .int) ∧
      s.vm.findClass ("[" ++ (FieldType.array .int).toString) = some c := by
  unfold ao2 Cond.before at h
  simp only [Cond.holds, Cond.value, beq_iff_eq] at h
  cases hc : s.vm.findClass (FieldType.array .int).toString with
  | none => simp [hc] at h
  | some comp =>
    simp only [hc, Option.bind_some, Option.bind_eq_some_iff, Option.map_eq_some_iff] at h
    obtain ⟨c, hi, k, hk, hb⟩ := h
    obtain ⟨hlt, hp, -⟩ := Array.findIdx?_eq_some_iff_getElem.mp hi
    have hkk : s.vm.classes[c] = k := (Array.getElem?_eq_some_iff.mp hk).2
    rw [hkk] at hp
    cases hkind : k.kind with
    | array component ty =>
      rw [hkind] at hb hp
      simp at hb hp
      exact ⟨comp, c, k, rfl, hi, hk, by rw [hkind, hp, hb.1], hb.2⟩
    | _ => rw [hkind] at hb; simp at hb
theorem ao2.moved {u U : State} (hvm : u.vm.Alike U.vm) (h : ao2 u) : ao2 U := by
  obtain ⟨comp, c, k, h1, h2, h3, h4, h5⟩ := ao2_spec h
  obtain ⟨k', hk', he⟩ := hvm.2.2 _ _ h3
  have hi : (U.vm.classes.findIdx? fun (x : Class) => match x.kind with | .array component _ => component == comp | _ => false) = some c := by
    refine (va_idx_bare U.vm comp).symm.trans ?_
    first | rw [hvm.bare_eq] | rw [← hvm.bare_eq]
    exact (va_idx_bare u.vm comp).trans h2
  have hkind : k'.kind = .array comp (.array .int) := by rw [he]; exact h4
  have f1 : U.vm.findClass (FieldType.array .int).toString = some comp := by rw [hvm.findClass]; exact h1
  have f2 : U.vm.findClass ("[" ++ (FieldType.array .int).toString) = some c := by rw [hvm.findClass]; exact h5
  unfold ao2 Cond.before Cond.holds
  simp only [Cond.value]
  rw [f1, Option.bind_some]
  refine (congrArg (fun o : Option Nat => (o.bind (fun c => (U.vm.classes[c]?).map fun (k : Class) => match k.kind with | .array _ ty => decide (ty = FieldType.array .int) && decide (U.vm.findClass ("[" ++ (FieldType.array .int).toString) = some c) | _ => false) == some true)) hi).trans ?_
  simp [hk', hkind, f2]
def ZS (g : GT) (A : Nat → Prop) (U : State) (H : Heap) : Prop :=
  (∀ w ∈ NW, va_Nw w U) ∧
  (va_Z "LastCar" "LEAST" "[I" (.ref (g.2.2.1 0)) A U H ∧ va_T .int (g.2.2.1 0) 6 st_least A U H) ∧
  (va_Z "LastCar" "MOST" "[I" (.ref (g.2.2.1 1)) A U H ∧ va_T .int (g.2.2.1 1) 6 st_most A U H) ∧
  (va_Z "LastCar" "UNDER" "[I" (.ref (g.2.2.1 2)) A U H ∧ va_T .int (g.2.2.1 2) 6 st_under A U H) ∧
  (∀ i q, K_own[i]? = some q → vk_R q.1 q.2.1 q.2.2 (g.2.2.2.1 i) U) ∧ vk_S 13 K_len K_byt g.2.2.2.1 g.2.2.2.2 A U H ∧
  va_Z "java/lang/String" "COMPACT_STRINGS" "Z" (.int 1) A U H ∧ va_Zq "jdk/internal/util/Preconditions" "SIOOBE_FORMATTER" "Ljava/util/function/BiFunction;" A U H ∧
  va_AO "LastCar$Text" U ∧ va_AO "LastCar$Sheet" U ∧ va_AO "LastCar$Way" U ∧ ao2 U
def KS (g : GT) (A : Nat → Prop) (U : State) (H : Heap) : Prop := va_K g.1 vwCl (tysG g) U ∧ ZS g A U H
theorem NW_warm {s U : State} (hW : s.WarmedH U.vm) (h : ∀ w ∈ NW, va_Nw w s) : ∀ w ∈ NW, va_Nw w U := by
  intro w hw
  have h1 := h w hw
  have h2 := (List.mem_filter.mp hw).2
  cases w <;> first | (exact va_Nw.warmM hW h1) | (exact va_Nw.warmF hW h1) | (exact absurd h2 (by simp))
theorem NW_same {s U : State} (hv : s.vm = U.vm) (h : ∀ w ∈ NW, va_Nw w s) : ∀ w ∈ NW, va_Nw w U := by
  intro w hw
  have h1 := h w hw
  have h2 := (List.mem_filter.mp hw).2
  cases w <;> first | (exact va_Nw.same rfl hv h1) | (exact absurd h2 (by simp))
theorem ZS.call {g : GT} {A B : Nat → Prop} {s U : State} {H : Heap} (h : ZS g A s s.heap) (hq : ∀ a : Nat, a < s.heap.size → ¬ A a → H[a]? = s.heap[a]?) (hAB : ∀ q, B q → A q) (hW : s.WarmedH U.vm) : ZS g B U H := by
  obtain ⟨h1, ⟨h2, h3⟩, ⟨h4, h5⟩, ⟨h6, h7⟩, h8, h9, ha, hb, hc, hd, he, hf⟩ := h
  exact ⟨NW_warm hW h1, ⟨((h2.moved hW.alike).kept hq).narrow hAB, ((h3.moved hW.alike).kept hq).narrow hAB⟩, ⟨((h4.moved hW.alike).kept hq).narrow hAB, ((h5.moved hW.alike).kept hq).narrow hAB⟩, ⟨((h6.moved hW.alike).kept hq).narrow hAB, ((h7.moved hW.alike).kept hq).narrow hAB⟩, fun i q hi => (h8 i q hi).warm hW, ((h9.moved hW.alike).kept hq).narrow hAB, ((ha.moved hW.alike).kept hq).narrow hAB, ((hb.moved hW.alike).kept hq).narrow hAB, hc.moved hW.alike, hd.moved hW.alike, he.moved hW.alike, hf.moved hW.alike⟩
theorem ZS.same {g : GT} {A : Nat → Prop} {s U : State} {H : Heap} (hv : s.vm = U.vm) (h : ZS g A s H) : ZS g A U H := by
  obtain ⟨h1, ⟨h2, h3⟩, ⟨h4, h5⟩, ⟨h6, h7⟩, h8, h9, ha, hb, hc, hd, he, hf⟩ := h
  have hal : s.vm.Alike U.vm := hv ▸ Vm.Alike.refl s.vm
  exact ⟨NW_same hv h1, ⟨h2.moved hal, h3.moved hal⟩, ⟨h4.moved hal, h5.moved hal⟩, ⟨h6.moved hal, h7.moved hal⟩, fun i q hi => (h8 i q hi).same hv.symm, h9.moved hal, ha.moved hal, hb.moved hal, hc.moved hal, hd.moved hal, he.moved hal, hf.moved hal⟩
def FX (g : GT) (p : Program) (s : State) (m : MethodId) (args : Array Value) (meth : Method) (c : Code) (cc : ByteArray) (nL : Nat) (own : String) (ret : Option FieldType) (A : Nat → Prop) : Prop :=
  p.tables.exec = Jvm.exec ∧ c.code = cc ∧ c.maxLocals = nL ∧ s.vm.findClass own = some m.cls ∧ (∀ w ∈ TW, w.before args s = true) ∧ KS g A s s.heap ∧ (∀ q, s.heap.size ≤ q → A q) ∧ meth.sig.returnType = ret ∧ meth.locks = false
def GM (g : GT) (A : Nat → Prop) (H0 H : Heap) (locs : List Loc) (bs : List va_W) : Prop := va_P g.1 vwCl bs.flatten H ∧ va_D A bs.flatten ∧ va_S A H0 H locs
def PC (g : GT) (sz : Nat) (av : List Value) (bs : List va_W) : Array Value → State → Prop := va_Pc av (fun U => U.heap.size = sz ∧ va_P g.1 vwCl bs.flatten U.heap ∧ va_D (fun _ => True) bs.flatten ∧ KS g (va_A bs.flatten sz) U U.heap)
def BW (g : GT) (A : Nat → Prop) (bs : List va_W) : Unit → State → Prop := fun _ t => va_P g.1 vwCl bs.flatten t.heap ∧ va_D A bs.flatten
def QI (g : GT) (A : Nat → Prop) (bs : List va_W) (rv : Int32) : Array Value → State → Outcome → State → Prop := va_Qi (fun (r : Int32) (_ : Unit) => r = rv) (BW g A bs) A
def QL (g : GT) (A : Nat → Prop) (bs : List va_W) (rv : Int64) : Array Value → State → Outcome → State → Prop := va_Ql (fun (r : Int64) (_ : Unit) => r = rv) (BW g A bs) A
def QV (g : GT) (A : Nat → Prop) (bs : List va_W) : Array Value → State → Outcome → State → Prop := va_Qv (fun (_ : Unit) => True) (BW g A bs) A
abbrev WY (y : MethodName) (b : ByteArray) (nL : Nat) (ret : Option FieldType) : List Cond := Cond.code y b nL ret :: TW
def CI (g : GT) (l : Launch) (y : MethodName) (b : ByteArray) (nL : Nat) (ret : Option FieldType) (rm : Room) (av : List Value) (bs : List va_W) (rv : Int32) (bs' : List va_W) : Prop := ∀ sz : Nat, Met l y (WY y b nL ret) rm (PC g sz av bs) (QI g (va_A bs.flatten sz) bs' rv) 0 0 (va_A bs.flatten sz)
def CL (g : GT) (l : Launch) (y : MethodName) (b : ByteArray) (nL : Nat) (ret : Option FieldType) (rm : Room) (av : List Value) (bs : List va_W) (rv : Int64) (bs' : List va_W) : Prop := ∀ sz : Nat, Met l y (WY y b nL ret) rm (PC g sz av bs) (QL g (va_A bs.flatten sz) bs' rv) 0 0 (va_A bs.flatten sz)
def CV (g : GT) (l : Launch) (y : MethodName) (b : ByteArray) (nL : Nat) (ret : Option FieldType) (rm : Room) (av : List Value) (bs : List va_W) (bs' : List va_W) : Prop := ∀ sz : Nat, Met l y (WY y b nL ret) rm (PC g sz av bs) (QV g (va_A bs.flatten sz) bs') 0 0 (va_A bs.flatten sz)
theorem M_intro {g : GT} {l : Launch} {y : MethodName} {b : ByteArray} {nL : Nat} {ret : Option FieldType} {rm : Room} {av : List Value} {bs : List va_W} {Qc : (Nat → Prop) → Array Value → State → Outcome → State → Prop} (hy : plainName y.cls = true) (hav : (lg_sl av).length ≤ nL) (mc ms : Nat)
    (h : ∀ (p : Program) (e : Env) (s : State) (m : MethodId) (below : List Frame) (meth : Method) (c : Code) (A : Nat → Prop) (ls : Array Slot), FX g p s m av.toArray meth c b nL y.cls ret A → lv_has ls nL (lv_args 0 av) → meth.name = y.name → GM g A s.heap s.heap [] bs → W p l e rm s m av.toArray below meth c s.heap [] 0 0 (MQ below (Qc A) av.toArray s mc ms A) (F0 m 0 ls [])) (sz : Nat) : Met l y (WY y b nL ret) rm (PC g sz av bs) (Qc (va_A bs.flatten sz)) mc ms (va_A bs.flatten sz) := by
  refine Met.ofW (cc := b) (maxL := nL) (ret := ret) hy rfl ?_
  intro p e s m args below meth c s₁ B hml hv
  obtain ⟨rfl, hsz, hP, hD0, hK⟩ := hv
  have hts := atoms_spec (ws := WY y b nL ret) B.pre
  have hown : s.vm.findClass y.cls = some m.cls := findClass_of_methodNamed B.named
  subst hsz
  rw [lg_entry_eq]
  exact h p e s m below meth c (va_A bs.flatten s.heap.size) _ ⟨B.exec, B.bytes, hml, hown, fun w hw => hts w (List.mem_cons_of_mem _ hw), hK, fun q hq => Or.inr hq, B.returns, B.notSynchronized⟩ (lv_entry av hav) (name_of_methodNamed B.named B.method).1 ⟨hP, hD0.self, va_S.rf⟩
-- worlds as blocks
theorem P_iff {D : va_G} {cl : List vw_C} {ws : va_W} {H : Heap} : va_P D cl ws H ↔ ∀ q ∈ ws, va_at D cl q H :=
  ⟨fun h q hq => by obtain ⟨k, hk⟩ := List.getElem?_of_mem hq; exact h k q hk, fun h k q hk => h q (List.mem_of_getElem? hk)⟩
theorem D_iff {A : Nat → Prop} {ws : va_W} : va_D A ws ↔ (ws.map Prod.fst).Nodup ∧ ∀ q ∈ ws, A q.1 := by
  constructor
  · intro h
    refine ⟨?_, fun q hq => by obtain ⟨k, hk⟩ := List.getElem?_of_mem hq; exact h.2 k q hk⟩
    rw [List.Nodup, List.pairwise_iff_getElem]
    intro i j hi hj hij he
    rw [List.length_map] at hi hj
    rw [List.getElem_map, List.getElem_map] at he
    have := h.1 i j ws[i] ws[j] (List.getElem?_eq_getElem hi) (List.getElem?_eq_getElem hj) he
    omega
  · intro ⟨h1, h2⟩
    refine ⟨fun i j p q hp hq he => ?_, fun k q hk => h2 q (List.mem_of_getElem? hk)⟩
    rw [List.Nodup, List.pairwise_iff_getElem] at h1
    obtain ⟨hi, rfl⟩ := List.getElem?_eq_some_iff.mp hp
    obtain ⟨hj, rfl⟩ := List.getElem?_eq_some_iff.mp hq
    rcases Nat.lt_trichotomy i j with h | h | h
    · exact absurd (by rw [List.getElem_map, List.getElem_map]; exact he) (h1 i j (by rw [List.length_map]; exact hi) (by rw [List.length_map]; exact hj) h)
    · exact h
    · exact absurd (by rw [List.getElem_map, List.getElem_map]; exact he.symm) (h1 j i (by rw [List.length_map]; exact hj) (by rw [List.length_map]; exact hi) h)
theorem P_perm {D : va_G} {cl : List vw_C} {w1 w2 : va_W} {H : Heap} (hp : w1.Perm w2) (h : va_P D cl w1 H) : va_P D cl w2 H := P_iff.mpr fun q hq => P_iff.mp h q (hp.mem_iff.mpr hq)
theorem D_perm {A : Nat → Prop} {w1 w2 : va_W} (hp : w1.Perm w2) (h : va_D A w1) : va_D A w2 := by
  obtain ⟨h1, h2⟩ := D_iff.mp h
  exact D_iff.mpr ⟨(hp.map Prod.fst).nodup_iff.mp h1, fun q hq => h2 q (hp.mem_iff.mpr hq)⟩
theorem GM.perm {g : GT} {A : Nat → Prop} {H0 H : Heap} {locs : List Loc} {b1 b2 : List va_W} (hp : b1.flatten.Perm b2.flatten) (h : GM g A H0 H locs b1) : GM g A H0 H locs b2 := ⟨P_perm hp h.1, D_perm hp h.2.1, h.2.2⟩
theorem blk_set {bs : List va_W} {j k : Nat} {b : va_W} {x : Nat × va_E} (hj : bs[j]? = some b) (hk : b[k]? = some x) : ∃ i : Nat, bs.flatten[i]? = some x ∧ ∀ y : Nat × va_E, bs.flatten.set i y = (bs.set j (b.set k y)).flatten := by
  induction bs generalizing j with
  | nil => simp at hj
  | cons b0 bs ih =>
    cases j with
    | zero =>
      simp at hj
      subst hj
      obtain ⟨hk2, hx⟩ := List.getElem?_eq_some_iff.mp hk
      refine ⟨k, ?_, fun y => ?_⟩
      · rw [List.flatten_cons, List.getElem?_append_left hk2]; exact hk
      · rw [List.flatten_cons, List.set_append_left _ _ hk2]; simp
    | succ j =>
      simp at hj
      obtain ⟨i, h1, h2⟩ := ih hj
      refine ⟨b0.length + i, ?_, fun y => ?_⟩
      · rw [List.flatten_cons, List.getElem?_append_right (by omega)]
        rw [show b0.length + i - b0.length = i by omega]; exact h1
      · rw [List.flatten_cons, List.set_append_right _ _ (by omega), show b0.length + i - b0.length = i by omega, h2]; simp
end
section
-- THE ROWS: one for each kind of instruction that touches the heap, calls or ends
section RW
variable {p : Program} {l : Launch} {e : Env} {R : Room} {s : State} {m : MethodId} {args : Array Value} {below : List Frame} {meth : Method} {c : Code} {H : Heap} {locs : List Loc} {cells slots : Nat} {Q : State → Prop}
variable {g : GT} {cc : ByteArray} {nL pc : Nat} {own : String} {ret : Option FieldType} {A : Nat → Prop} {ls : Array Slot} {rest : List Value} {bs bs' : List va_W}
theorem r_iret {rv : Int32} (X : FX g p s m args meth c cc nL own (some .int) A) (hG : GM g A s.heap H locs bs') (hdg : decode cc pc = .ok (.ireturn, 1)) : W p l e R s m args below meth c H locs cells slots (MQ below (QI g A bs' rv) args s cells slots A) (F0 m pc ls [.int rv]) :=
  W.iret (hlocks := X.2.2.2.2.2.2.2.2) X.1 X.2.1 X.2.2.2.2.2.2.2.1 (fun t ht hW => ⟨⟨rv, (), rfl, rfl, by rw [ht]; exact hG.1, hG.2.1⟩, hG.2.2.F ht⟩) hG.2.2.2.2 hdg
theorem r_zret {rv : Int32} (X : FX g p s m args meth c cc nL own (some .boolean) A) (hG : GM g A s.heap H locs bs') (hz : rv = 0 ∨ rv = 1) (hdg : decode cc pc = .ok (.ireturn, 1)) : W p l e R s m args below meth c H locs cells slots (MQ below (QI g A bs' rv) args s cells slots A) (F0 m pc ls [.int rv]) :=
  W.zret (hlocks := X.2.2.2.2.2.2.2.2) X.1 X.2.1 X.2.2.2.2.2.2.2.1 (by rcases hz with rfl | rfl <;> decide) (fun t ht hW => ⟨⟨rv, (), rfl, rfl, by rw [ht]; exact hG.1, hG.2.1⟩, hG.2.2.F ht⟩) hG.2.2.2.2 hdg
theorem r_lret {rv : Int64} (X : FX g p s m args meth c cc nL own (some .long) A) (hG : GM g A s.heap H locs bs') (hdg : decode cc pc = .ok (.lreturn, 1)) : W p l e R s m args below meth c H locs cells slots (MQ below (QL g A bs' rv) args s cells slots A) (F0 m pc ls [.long rv]) :=
  W.lret (hlocks := X.2.2.2.2.2.2.2.2) X.1 X.2.1 X.2.2.2.2.2.2.2.1 (fun t ht hW => ⟨⟨rv, (), rfl, rfl, by rw [ht]; exact hG.1, hG.2.1⟩, hG.2.2.F ht⟩) hG.2.2.2.2 hdg
theorem r_vret (X : FX g p s m args meth c cc nL own none A) (hG : GM g A s.heap H locs bs') (hdg : decode cc pc = .ok (.return_, 1)) : W p l e R s m args below meth c H locs cells slots (MQ below (QV g A bs') args s cells slots A) (F0 m pc ls []) :=
  W.vret (hlocks := X.2.2.2.2.2.2.2.2) X.1 X.2.1 X.2.2.2.2.2.2.2.1 (fun t ht hW => ⟨⟨(), rfl, trivial, by rw [ht]; exact hG.1, hG.2.1⟩, hG.2.2.F ht⟩) hG.2.2.2.2 hdg
/-- reading a field -/
theorem r_get (X : FX g p s m args meth c cc nL own ret A) {H0 : Heap} (hG : GM g A H0 H locs bs) (j k : Nat) {b : va_W} (hj : bs[j]? = some b) {a ci : Nat} {fs : List Value} (hk : b[k]? = some (a, .inr (ci, fs))) {C : String} {T : u_T} {N : Nat} (hc : vwCl[ci]? = some (C, T, N)) (f : Nat) (hf : f < N) (hin : ∀ w ∈ u_ws C T N, w ∈ TW) {index : Nat} (hlink : Cond.fieldLink own index (T f).1 (T f).2.1 (T f).2.2.1 ∈ TW) {v : Value} (hv : fs[f]? = some v) (hdg : decode cc pc = .ok (.getfield index, 3))
    (kk : W p l e R s m args below meth c H locs cells slots Q (F0 m (pc + 3) ls (v :: rest))) : W p l e R s m args below meth c H locs cells slots Q (F0 m pc ls (.ref a :: rest)) := by
  obtain ⟨i, hi, -⟩ := blk_set hj hk
  exact va_get (D := g.1) (v := v) X.1 X.2.1 X.2.2.2.2.1 hin X.2.2.2.1 X.2.2.2.2.2.1.1 hG.1 i hi hc f hf (X.2.2.2.2.1 _ hlink) (fun _ h => h) hv hdg kk
/-- writing a field that isn't final -/
theorem r_put (X : FX g p s m args meth c cc nL own ret A) {H0 : Heap} (hG : GM g A H0 H locs bs) (j k : Nat) {b : va_W} (hj : bs[j]? = some b) {a ci : Nat} {fs : List Value} (hk : b[k]? = some (a, .inr (ci, fs))) {C : String} {T : u_T} {N : Nat} (hc : vwCl[ci]? = some (C, T, N)) (f : Nat) (hf : f < N) (hin : ∀ w ∈ u_ws C T N, w ∈ TW) (ty0 : Nat → FieldType) (hty : ∀ k, k < N → parseFieldDescriptor (T k).2.2.1 = some (ty0 k)) (hnm : ∀ a, a < N → ∀ b, b < N → a ≠ b → (T a).2.1 ≠ (T b).2.1) {index : Nat} (hlink : Cond.fieldLink own index (T f).1 (T f).2.1 (T f).2.2.1 ∈ TW) (hfin : (T f).2.2.2 = false) {ty : FieldType} {v : Value} (hd : parseFieldDescriptor (T f).2.2.1 = some ty) (hn : narrow ty v = v) (hfit : fits ty v = true) (hl : f < fs.length) (hdg : decode cc pc = .ok (.putfield index, 3))
    (kk : ∀ (H1 : Heap) (locs1 : List Loc), GM g A H0 H1 locs1 (bs.set j (b.set k (a, .inr (ci, fs.set f v)))) → W p l e R s m args below meth c H1 locs1 cells slots Q (F0 m (pc + 3) ls rest)) : W p l e R s m args below meth c H locs cells slots Q (F0 m pc ls (v :: .ref a :: rest)) := by
  obtain ⟨i, hi, hs⟩ := blk_set hj hk
  exact va_put (D := g.1) (v := v) (ty := ty) X.1 X.2.1 X.2.2.2.2.1 hin ty0 hty hnm X.2.2.2.1 X.2.2.2.2.2.1.1 hG.1 hG.2.1 hG.2.2 i hi hc f hf (X.2.2.2.2.1 _ hlink) (fun _ h => h) hfin hd hn hfit hl hdg (fun H1 locs1 h1 h2 h3 => kk H1 locs1 ⟨by rw [← hs]; exact h1, by rw [← hs]; exact h2, h3⟩)
/-- reading an int out of a row -/
theorem r_iald {ρ : Type} {r : ρ} (X : FX g p s m args meth c cc nL own ret A) {H0 : Heap} (hG : GM g A H0 H locs bs) (j k : Nat) {b : va_W} (hj : bs[j]? = some b) {a n : Nat} {f : Nat → Int32} (hk : b[k]? = some (a, .inl (g.2.1 0, n, .inl f))) {i : Int32} {K : Int32 → Option ρ} (hf : ck (ib i n) (bn (f i.toNatClampNeg) K) = some r) (hdg : decode cc pc = .ok (.iaload, 1))
    (kk : ∀ x : Int32, K x = some r → W p l e R s m args below meth c H locs cells slots Q (F0 m (pc + 1) ls (.int x :: rest))) : W p l e R s m args below meth c H locs cells slots Q (F0 m pc ls (.int i :: .ref a :: rest)) := by
  obtain ⟨q, hi, -⟩ := blk_set hj hk
  obtain ⟨h1, h2⟩ := ck_inv hf
  exact va_iald (D := g.1) X.1 X.2.1 X.2.2.2.2.2.1.1 hG.1 q 0 hi rfl (ib_in h1) hdg (kk _ h2)
theorem r_bald {ρ : Type} {r : ρ} (X : FX g p s m args meth c cc nL own ret A) {H0 : Heap} (hG : GM g A H0 H locs bs) (j k : Nat) {b : va_W} (hj : bs[j]? = some b) {a n : Nat} {f : Nat → Int32} (hk : b[k]? = some (a, .inl (g.2.1 1, n, .inl f))) {i : Int32} {K : Int32 → Option ρ} (hf : ck (ib i n) (bn (f i.toNatClampNeg) K) = some r) (hdg : decode cc pc = .ok (.baload, 1))
    (kk : ∀ x : Int32, K x = some r → W p l e R s m args below meth c H locs cells slots Q (F0 m (pc + 1) ls (.int x :: rest))) : W p l e R s m args below meth c H locs cells slots Q (F0 m pc ls (.int i :: .ref a :: rest)) := by
  obtain ⟨q, hi, -⟩ := blk_set hj hk
  obtain ⟨h1, h2⟩ := ck_inv hf
  exact va_bald (D := g.1) X.1 X.2.1 X.2.2.2.2.2.1.1 hG.1 q 1 hi rfl (ib_in h1) hdg (kk _ h2)
/-- writing an int into a row: S is what the block is made of -/
theorem r_iast {S ρ : Type} {r : ρ} (X : FX g p s m args meth c cc nL own ret A) {H0 : Heap} (hG : GM g A H0 H locs bs) (j k : Nat) {b : va_W} (hj : bs[j]? = some b) {a n : Nat} {f : Nat → Int32} (hk : b[k]? = some (a, .inl (g.2.1 0, n, .inl f))) {i x : Int32} {K : S → Option ρ} {st1 : S} (hf : ck (ib i n) (bn st1 K) = some r) (w : S → List va_W) (hw : w st1 = bs.set j (b.set k (a, .inl (g.2.1 0, n, .inl (upd f i.toNatClampNeg x))))) (hdg : decode cc pc = .ok (.iastore, 1))
    (kk : ∀ (st : S) (H1 : Heap) (locs1 : List Loc), K st = some r → GM g A H0 H1 locs1 (w st) → W p l e R s m args below meth c H1 locs1 cells slots Q (F0 m (pc + 1) ls rest)) : W p l e R s m args below meth c H locs cells slots Q (F0 m pc ls (.int x :: .int i :: .ref a :: rest)) := by
  obtain ⟨q, hi, hs⟩ := blk_set hj hk
  obtain ⟨h1, h2⟩ := ck_inv hf
  exact va_iast (D := g.1) X.1 X.2.1 X.2.2.2.2.2.1.1 hG.1 hG.2.1 hG.2.2 q 0 hi rfl (ib_in h1) hdg (fun H1 locs1 g1 g2 g3 => kk st1 H1 locs1 h2 ⟨by rw [hw, ← hs]; exact g1, by rw [hw, ← hs]; exact g2, g3⟩)
theorem r_bast {S ρ : Type} {r : ρ} (X : FX g p s m args meth c cc nL own ret A) {H0 : Heap} (hG : GM g A H0 H locs bs) (j k : Nat) {b : va_W} (hj : bs[j]? = some b) {a n : Nat} {f : Nat → Int32} (hk : b[k]? = some (a, .inl (g.2.1 1, n, .inl f))) {i x : Int32} {K : S → Option ρ} {st1 : S} (hf : ck (ib i n) (bn st1 K) = some r) (w : S → List va_W) (hw : w st1 = bs.set j (b.set k (a, .inl (g.2.1 1, n, .inl (upd f i.toNatClampNeg (vp_nar .byte x)))))) (hdg : decode cc pc = .ok (.bastore, 1))
    (kk : ∀ (st : S) (H1 : Heap) (locs1 : List Loc), K st = some r → GM g A H0 H1 locs1 (w st) → W p l e R s m args below meth c H1 locs1 cells slots Q (F0 m (pc + 1) ls rest)) : W p l e R s m args below meth c H locs cells slots Q (F0 m pc ls (.int x :: .int i :: .ref a :: rest)) := by
  obtain ⟨q, hi, hs⟩ := blk_set hj hk
  obtain ⟨h1, h2⟩ := ck_inv hf
  exact va_bast (D := g.1) X.1 X.2.1 X.2.2.2.2.2.1.1 hG.1 hG.2.1 hG.2.2 q 1 hi rfl (ib_in h1) hdg (fun H1 locs1 g1 g2 g3 => kk st1 H1 locs1 h2 ⟨by rw [hw, ← hs]; exact g1, by rw [hw, ← hs]; exact g2, g3⟩)
-- calls
/-- what the tables say of a callee -/
def LKC (y : MethodName) (b : ByteArray) (nL : Nat) (ret : Option FieldType) (n : Nat) : Prop := Cond.code y b nL ret ∈ TW ∧ Cond.initialized y.cls ∈ TW ∧ y.cls ≠ "java/lang/invoke/MethodHandle" ∧ y.cls ≠ "java/lang/invoke/VarHandle" ∧ (parseMethodDescriptor y.desc).map (fun d => d.parameters.length) = some n
theorem WY_good {y : MethodName} {b : ByteArray} {nL : Nat} {ret : Option FieldType} {n : Nat} (h : LKC y b nL ret n) : GoodIn TW (WY y b nL ret) := by
  intro w hw
  rcases List.mem_cons.mp hw with rfl | hw
  · exact ⟨h.1, TW_good h.1⟩
  · exact ⟨hw, TW_good hw⟩
theorem PC_blind {g : GT} {sz : Nat} {av : List Value} {bs : List va_W} : FrameBlind (PC g sz av bs) := by
  intro a U f mk h
  obtain ⟨h1, h2, h3, h4, h5, h6⟩ := h
  exact ⟨h1, h2, h3, h4, va_K.moved (u := U) (U := U.calling f mk a) (Vm.Alike.refl U.vm) h5, ZS.same (s := U) (U := U.calling f mk a) rfl h6⟩
/-- the callee's blocks among the caller's -/
theorem call_free {H0 : Heap} {bc br : List va_W} (hA : ∀ q, H0.size ≤ q → A q) (hG : GM g A H0 H locs bs) (hp : bs.flatten.Perm (bc ++ br).flatten) : ∀ q, va_A bc.flatten H.size q → A q := by
  intro q h
  rcases h with ⟨k, x, h⟩ | h
  · have h1 := (D_iff.mp hG.2.1).2 (q, x) (hp.mem_iff.mpr (by rw [List.flatten_append]; exact List.mem_append_left _ (List.mem_of_getElem? h)))
    exact h1
  · exact hA q (Nat.le_trans hG.2.2.1 h)
theorem call_pre {bc br : List va_W} {av : List Value} (X : FX g p s m args meth c cc nL own ret A) (hG : GM g A s.heap H locs bs) (hp : bs.flatten.Perm (bc ++ br).flatten) : ∀ U : State, U.heap = H → s.WarmedH U.vm → PC g H.size av bc av.toArray U := by
  intro U hU hW
  have hF := call_free X.2.2.2.2.2.2.1 hG hp
  have hP := P_perm hp hG.1
  have hD := D_perm hp hG.2.1
  rw [List.flatten_append] at hP hD
  refine ⟨rfl, by rw [hU], ?_, ?_, ?_, ?_⟩
  · rw [hU]; exact P_iff.mpr fun q hq => P_iff.mp hP q (List.mem_append_left _ hq)
  · refine D_iff.mpr ⟨?_, fun _ _ => trivial⟩
    have := (D_iff.mp hD).1
    rw [List.map_append] at this
    exact (List.nodup_append.mp this).1
  · exact va_K.moved hW.alike X.2.2.2.2.2.1.1
  · rw [hU]; exact X.2.2.2.2.2.1.2.call hG.2.2.2.1 hF hW
theorem call_post {bc bc' br : List va_W} {H1 : Heap} {locs1 : List Loc} (X : FX g p s m args meth c cc nL own ret A) (hG : GM g A s.heap H locs bs) (hp : bs.flatten.Perm (bc ++ br).flatten) (hp' : (bc' ++ br).flatten.Perm bs'.flatten) (hk : ∀ q : Nat, q < H.size → ¬ va_A bc.flatten H.size q → H1[q]? = H[q]?) (hP1 : va_P g.1 vwCl bc'.flatten H1) (hD1 : va_D (va_A bc.flatten H.size) bc'.flatten) (hS : va_S A s.heap H1 locs1) : GM g A s.heap H1 locs1 bs' := by
  have hF := call_free X.2.2.2.2.2.2.1 hG hp
  have hP := P_perm hp hG.1
  have hD := D_perm hp hG.2.1
  rw [List.flatten_append] at hP hD
  have hC : (List.range bc.flatten.length).map (fun i => (bc.flatten ++ br.flatten)[i]?) = bc.flatten.map some := by
    apply List.ext_getElem?
    intro i
    simp only [List.getElem?_map]
    by_cases h : i < bc.flatten.length
    · rw [List.getElem?_range h, List.getElem?_eq_getElem h]
      simp [List.getElem?_append_left h, List.getElem?_eq_getElem h]
    · rw [List.getElem?_eq_none (by simpa using h), List.getElem?_eq_none (by simpa using h)]; rfl
  have hR : ((List.range br.flatten.length).map (bc.flatten.length + ·)).map (fun i => (bc.flatten ++ br.flatten)[i]?) = br.flatten.map some := by
    apply List.ext_getElem?
    intro i
    simp only [List.getElem?_map]
    by_cases h : i < br.flatten.length
    · rw [List.getElem?_range h, List.getElem?_eq_getElem h]
      simp [List.getElem?_append_right, List.getElem?_eq_getElem h]
    · rw [List.getElem?_eq_none (by simpa using h), List.getElem?_eq_none (by simpa using h)]; rfl
  have hPr : va_P g.1 vwCl br.flatten H := P_iff.mpr fun q hq => P_iff.mp hP q (List.mem_append_right _ hq)
  have hnd := (D_iff.mp hD).1
  rw [List.map_append] at hnd
  obtain ⟨-, hnr, hdis⟩ := List.nodup_append.mp hnd
  have hap : ∀ q ∈ br.flatten, q.1 < H.size ∧ ¬ va_A bc.flatten H.size q.1 := by
    intro q hq
    obtain ⟨k, hk2⟩ := List.getElem?_of_mem hq
    have hlt := (hPr k q hk2).lt
    refine ⟨hlt, fun h => ?_⟩
    rcases h with ⟨k3, x, h⟩ | h
    · exact hdis q.1 (List.mem_map.mpr ⟨(q.1, x), List.mem_of_getElem? h, rfl⟩) q.1 (List.mem_map.mpr ⟨q, hq, rfl⟩) rfl
    · omega
  refine GM.perm hp' ⟨?_, ?_, hS⟩
  · rw [List.flatten_append]
    refine va_P.app hP1 (P_iff.mpr fun q hq => ?_)
    exact (P_iff.mp hPr q hq).kept (hk q.1 (hap q hq).1 (hap q hq).2)
  · rw [List.flatten_append]
    refine D_iff.mpr ⟨?_, fun q hq => ?_⟩
    · rw [List.map_append]
      refine List.nodup_append.mpr ⟨(D_iff.mp hD1).1, hnr, fun a ha b hb hab => ?_⟩
      obtain ⟨q, hq, rfl⟩ := List.mem_map.mp ha
      obtain ⟨q2, hq2, rfl⟩ := List.mem_map.mp hb
      exact (hap q2 hq2).2 (hab ▸ (D_iff.mp hD1).2 q hq)
    · rcases List.mem_append.mp hq with h | h
      · exact hF _ ((D_iff.mp hD1).2 q h)
      · exact (D_iff.mp hD).2 q (List.mem_append_right _ h)
theorem callB_mk {y : MethodName} {b2 : ByteArray} {nL2 n idx : Nat} {ret2 : Option FieldType} {rm : Room} {mc ms : Nat} (X : FX g p s m args meth c cc nL own ret A) (hk : LKC y b2 nL2 ret2 n) (hl : Cond.methodLink own idx y ∈ TW) (hrc : rm.cells = mc) (hrs : rm.slots = ms) (hR : rm.frames + 1 ≤ R.frames ∧ 8 + (nL2 + 11) + rm.locals ≤ R.locals) : CallB R s args own idx y b2 nL2 ret2 (WY y b2 nL2 ret2) rm mc ms n :=
  callB_of n X.2.2.2.2.1 (WY_good hk) rfl hrc hrs (X.2.2.2.2.1 _ hk.2.1) (X.2.2.2.2.1 _ hl) hk.2.2 hR
/-- the receiver's cell -/
theorem call_recv {o ci : Nat} {fs : List Value} {q : vw_C} {j k : Nat} {b : va_W} (X : FX g p s m args meth c cc nL own ret A) (hG : GM g A s.heap H locs bs) (hj : bs[j]? = some b) (hk : b[k]? = some (o, .inr (ci, fs))) (hc : vwCl[ci]? = some q) : ∃ cell : Cell, H[o]? = some cell ∧ cell.vm.isStatics = false ∧ s.vm.findClass q.1 = some cell.cls := by
  obtain ⟨i, hi, -⟩ := blk_set hj hk
  exact va_recv X.2.2.2.2.2.1.1 hG.1 hc hi
/-- a call of an own method of an object (by its class, no nest mate): int, long, void -/
def LKV (y : MethodName) (C : String) : Prop := Cond.instanceMethod y ∈ TW ∧ Cond.selects C y y ∈ TW
theorem r_callVi {y : MethodName} {b2 : ByteArray} {nL2 n idx : Nat} {ret2 : Option FieldType} {rm : Room} {C : String} {T : u_T} {N o ci j k : Nat} {fs As : List Value} {b : va_W} {bc bc' br : List va_W} {rv : Int32} {st : List Value} (X : FX g p s m args meth c cc nL own ret A) (hG : GM g A s.heap H locs bs) (hsz : ls.size = nL) (hM : CI g l y b2 nL2 ret2 rm (.ref o :: As) bc rv bc') (hp : bs.flatten.Perm (bc ++ br).flatten) (hp' : (bc' ++ br).flatten.Perm bs'.flatten) (hk : LKC y b2 nL2 ret2 n) (hv : LKV y C) (hl : Cond.methodLink own idx y ∈ TW) (hj : bs[j]? = some b) (hkk : b[k]? = some (o, .inr (ci, fs))) (hc : vwCl[ci]? = some (C, T, N)) (hrc : rm.cells = 0) (hrs : rm.slots = 0) (hR : rm.frames + 1 ≤ R.frames ∧ 8 + (nL2 + 11) + rm.locals ≤ R.locals) (hn : As.length = n) (hst : st = As.reverse ++ .ref o :: rest) (hcat : (rest.map fun v => v.category).sum ≤ 8) (hcs : cells ≤ R.cells ∧ slots ≤ R.slots) (hdg : decode cc pc = .ok (.invokevirtual idx, 3))
    (kk : ∀ (H1 : Heap) (locs1 : List Loc), GM g A s.heap H1 locs1 bs' → W p l e R s m args below meth c H1 locs1 cells slots Q (F0 m (pc + 3) ls (.int rv :: rest))) : W p l e R s m args below meth c H locs cells slots Q (F0 m pc ls st) := by
  have hF := call_free X.2.2.2.2.2.2.1 hG hp
  refine va_calli (va_runV (C := C) (As := As) (rest := rest) ⟨X.1, X.2.1, X.2.2.1, X.2.2.2.1, X.2.2.2.2.1⟩ (hM H.size) ⟨callB_mk X hk hl hrc hrs hR, X.2.2.2.2.1 _ hv.1, X.2.2.2.2.1 _ hv.2⟩ ⟨PC_blind, call_recv X hG hj hkk hc, call_pre X hG hp⟩ rfl hn hsz hst (lv_room hcat) hdg hcs) hG.2.2 (fun q _ h => hF q h) hF (fun r u t H1 locs1 ht hvm hw hB hz hk1 hS => ?_)
  subst hw
  exact kk H1 locs1 (call_post X hG hp hp' hk1 (by rw [← ht]; exact hB.1) hB.2 hS)
theorem r_callVl {y : MethodName} {b2 : ByteArray} {nL2 n idx : Nat} {ret2 : Option FieldType} {rm : Room} {C : String} {T : u_T} {N o ci j k : Nat} {fs As : List Value} {b : va_W} {bc bc' br : List va_W} {rv : Int64} {st : List Value} (X : FX g p s m args meth c cc nL own ret A) (hG : GM g A s.heap H locs bs) (hsz : ls.size = nL) (hM : CL g l y b2 nL2 ret2 rm (.ref o :: As) bc rv bc') (hp : bs.flatten.Perm (bc ++ br).flatten) (hp' : (bc' ++ br).flatten.Perm bs'.flatten) (hk : LKC y b2 nL2 ret2 n) (hv : LKV y C) (hl : Cond.methodLink own idx y ∈ TW) (hj : bs[j]? = some b) (hkk : b[k]? = some (o, .inr (ci, fs))) (hc : vwCl[ci]? = some (C, T, N)) (hrc : rm.cells = 0) (hrs : rm.slots = 0) (hR : rm.frames + 1 ≤ R.frames ∧ 8 + (nL2 + 11) + rm.locals ≤ R.locals) (hn : As.length = n) (hst : st = As.reverse ++ .ref o :: rest) (hcat : (rest.map fun v => v.category).sum ≤ 8) (hcs : cells ≤ R.cells ∧ slots ≤ R.slots) (hdg : decode cc pc = .ok (.invokevirtual idx, 3))
    (kk : ∀ (H1 : Heap) (locs1 : List Loc), GM g A s.heap H1 locs1 bs' → W p l e R s m args below meth c H1 locs1 cells slots Q (F0 m (pc + 3) ls (.long rv :: rest))) : W p l e R s m args below meth c H locs cells slots Q (F0 m pc ls st) := by
  have hF := call_free X.2.2.2.2.2.2.1 hG hp
  refine va_calll (va_runV (C := C) (As := As) (rest := rest) ⟨X.1, X.2.1, X.2.2.1, X.2.2.2.1, X.2.2.2.2.1⟩ (hM H.size) ⟨callB_mk X hk hl hrc hrs hR, X.2.2.2.2.1 _ hv.1, X.2.2.2.2.1 _ hv.2⟩ ⟨PC_blind, call_recv X hG hj hkk hc, call_pre X hG hp⟩ rfl hn hsz hst (lv_room hcat) hdg hcs) hG.2.2 (fun q _ h => hF q h) hF (fun r u t H1 locs1 ht hvm hw hB hz hk1 hS => ?_)
  subst hw
  exact kk H1 locs1 (call_post X hG hp hp' hk1 (by rw [← ht]; exact hB.1) hB.2 hS)
theorem r_callVv {y : MethodName} {b2 : ByteArray} {nL2 n idx : Nat} {ret2 : Option FieldType} {rm : Room} {C : String} {T : u_T} {N o ci j k : Nat} {fs As : List Value} {b : va_W} {bc bc' br : List va_W} {st : List Value} (X : FX g p s m args meth c cc nL own ret A) (hG : GM g A s.heap H locs bs) (hsz : ls.size = nL) (hM : CV g l y b2 nL2 ret2 rm (.ref o :: As) bc bc') (hp : bs.flatten.Perm (bc ++ br).flatten) (hp' : (bc' ++ br).flatten.Perm bs'.flatten) (hk : LKC y b2 nL2 ret2 n) (hv : LKV y C) (hl : Cond.methodLink own idx y ∈ TW) (hj : bs[j]? = some b) (hkk : b[k]? = some (o, .inr (ci, fs))) (hc : vwCl[ci]? = some (C, T, N)) (hrc : rm.cells = 0) (hrs : rm.slots = 0) (hR : rm.frames + 1 ≤ R.frames ∧ 8 + (nL2 + 11) + rm.locals ≤ R.locals) (hn : As.length = n) (hst : st = As.reverse ++ .ref o :: rest) (hcat : (rest.map fun v => v.category).sum ≤ 8) (hcs : cells ≤ R.cells ∧ slots ≤ R.slots) (hdg : decode cc pc = .ok (.invokevirtual idx, 3))
    (kk : ∀ (H1 : Heap) (locs1 : List Loc), GM g A s.heap H1 locs1 bs' → W p l e R s m args below meth c H1 locs1 cells slots Q (F0 m (pc + 3) ls rest)) : W p l e R s m args below meth c H locs cells slots Q (F0 m pc ls st) := by
  have hF := call_free X.2.2.2.2.2.2.1 hG hp
  refine va_callv (va_runV (C := C) (As := As) (rest := rest) ⟨X.1, X.2.1, X.2.2.1, X.2.2.2.1, X.2.2.2.2.1⟩ (hM H.size) ⟨callB_mk X hk hl hrc hrs hR, X.2.2.2.2.1 _ hv.1, X.2.2.2.2.1 _ hv.2⟩ ⟨PC_blind, call_recv X hG hj hkk hc, call_pre X hG hp⟩ rfl hn hsz hst (lv_room hcat) hdg hcs) hG.2.2 (fun q _ h => hF q h) hF (fun u t H1 locs1 ht hvm hw hB hz hk1 hS => ?_)
  exact kk H1 locs1 (call_post X hG hp hp' hk1 (by rw [← ht]; exact hB.1) hB.2 hS)
/-- a call of a static method, of the own class or (N) of a nest mate: int -/
theorem r_callSi {y : MethodName} {b2 : ByteArray} {nL2 n idx : Nat} {ret2 : Option FieldType} {rm : Room} {As : List Value} {bc bc' br : List va_W} {rv : Int32} {st : List Value} (X : FX g p s m args meth c cc nL own ret A) (hG : GM g A s.heap H locs bs) (hsz : ls.size = nL) (hM : CI g l y b2 nL2 ret2 rm As bc rv bc') (hp : bs.flatten.Perm (bc ++ br).flatten) (hp' : (bc' ++ br).flatten.Perm bs'.flatten) (hk : LKC y b2 nL2 ret2 n) (hv : Cond.static y ∈ TW) (hl : Cond.methodLink own idx y ∈ TW) (hrc : rm.cells = 0) (hrs : rm.slots = 0) (hR : rm.frames + 1 ≤ R.frames ∧ 8 + (nL2 + 11) + rm.locals ≤ R.locals) (hn : As.length = n) (hst : st = As.reverse ++ rest) (hcat : (rest.map fun v => v.category).sum ≤ 8) (hcs : cells ≤ R.cells ∧ slots ≤ R.slots) (hdg : decode cc pc = .ok (.invokestatic idx, 3))
    (kk : ∀ (H1 : Heap) (locs1 : List Loc), GM g A s.heap H1 locs1 bs' → W p l e R s m args below meth c H1 locs1 cells slots Q (F0 m (pc + 3) ls (.int rv :: rest))) : W p l e R s m args below meth c H locs cells slots Q (F0 m pc ls st) := by
  have hF := call_free X.2.2.2.2.2.2.1 hG hp
  refine va_calli (va_runS (As := As) (rest := rest) ⟨X.1, X.2.1, X.2.2.1, X.2.2.2.1, X.2.2.2.2.1⟩ (hM H.size) ⟨callB_mk X hk hl hrc hrs hR, X.2.2.2.2.1 _ hv⟩ ⟨PC_blind, call_pre X hG hp⟩ rfl hn hsz hst (lv_room hcat) hdg hcs) hG.2.2 (fun q _ h => hF q h) hF (fun r u t H1 locs1 ht hvm hw hB hz hk1 hS => ?_)
  subst hw
  exact kk H1 locs1 (call_post X hG hp hp' hk1 (by rw [← ht]; exact hB.1) hB.2 hS)
theorem r_callSv {y : MethodName} {b2 : ByteArray} {nL2 n idx : Nat} {ret2 : Option FieldType} {rm : Room} {As : List Value} {bc bc' br : List va_W} {st : List Value} (X : FX g p s m args meth c cc nL own ret A) (hG : GM g A s.heap H locs bs) (hsz : ls.size = nL) (hM : CV g l y b2 nL2 ret2 rm As bc bc') (hp : bs.flatten.Perm (bc ++ br).flatten) (hp' : (bc' ++ br).flatten.Perm bs'.flatten) (hk : LKC y b2 nL2 ret2 n) (hv : Cond.static y ∈ TW) (hl : Cond.methodLink own idx y ∈ TW) (hrc : rm.cells = 0) (hrs : rm.slots = 0) (hR : rm.frames + 1 ≤ R.frames ∧ 8 + (nL2 + 11) + rm.locals ≤ R.locals) (hn : As.length = n) (hst : st = As.reverse ++ rest) (hcat : (rest.map fun v => v.category).sum ≤ 8) (hcs : cells ≤ R.cells ∧ slots ≤ R.slots) (hdg : decode cc pc = .ok (.invokestatic idx, 3))
    (kk : ∀ (H1 : Heap) (locs1 : List Loc), GM g A s.heap H1 locs1 bs' → W p l e R s m args below meth c H1 locs1 cells slots Q (F0 m (pc + 3) ls rest)) : W p l e R s m args below meth c H locs cells slots Q (F0 m pc ls st) := by
  have hF := call_free X.2.2.2.2.2.2.1 hG hp
  refine va_callv (va_runS (As := As) (rest := rest) ⟨X.1, X.2.1, X.2.2.1, X.2.2.2.1, X.2.2.2.2.1⟩ (hM H.size) ⟨callB_mk X hk hl hrc hrs hR, X.2.2.2.2.1 _ hv⟩ ⟨PC_blind, call_pre X hG hp⟩ rfl hn hsz hst (lv_room hcat) hdg hcs) hG.2.2 (fun q _ h => hF q h) hF (fun u t H1 locs1 ht hvm hw hB hz hk1 hS => ?_)
  exact kk H1 locs1 (call_post X hG hp hp' hk1 (by rw [← ht]; exact hB.1) hB.2 hS)
theorem r_callNi {y : MethodName} {b2 : ByteArray} {nL2 n idx : Nat} {ret2 : Option FieldType} {rm : Room} {As : List Value} {bc bc' br : List va_W} {rv : Int32} {st : List Value} {host : String} (X : FX g p s m args meth c cc nL own ret A) (hG : GM g A s.heap H locs bs) (hsz : ls.size = nL) (hM : CI g l y b2 nL2 ret2 rm As bc rv bc') (hp : bs.flatten.Perm (bc ++ br).flatten) (hp' : (bc' ++ br).flatten.Perm bs'.flatten) (hk : LKC y b2 nL2 ret2 n) (hv : Cond.static y ∈ TW) (hl : Cond.methodLinkNest own idx y host ∈ NW) (hrc : rm.cells = 0) (hrs : rm.slots = 0) (hR : rm.frames + 1 ≤ R.frames ∧ 8 + (nL2 + 11) + rm.locals ≤ R.locals) (hn : As.length = n) (hst : st = As.reverse ++ rest) (hcat : (rest.map fun v => v.category).sum ≤ 8) (hcs : cells ≤ R.cells ∧ slots ≤ R.slots) (hdg : decode cc pc = .ok (.invokestatic idx, 3))
    (kk : ∀ (H1 : Heap) (locs1 : List Loc), GM g A s.heap H1 locs1 bs' → W p l e R s m args below meth c H1 locs1 cells slots Q (F0 m (pc + 3) ls (.int rv :: rest))) : W p l e R s m args below meth c H locs cells slots Q (F0 m pc ls st) := by
  have hF := call_free X.2.2.2.2.2.2.1 hG hp
  refine va_calli (va_runSN (As := As) (rest := rest) ⟨X.1, X.2.1, X.2.2.1, X.2.2.2.1, X.2.2.2.2.1⟩ (hM H.size) ⟨va_cnB n X.2.2.2.2.1 (WY_good hk) rfl hrc hrs (X.2.2.2.2.2.1.2.1 _ hl) (X.2.2.2.2.1 _ hk.2.1) hk.2.2 hR, X.2.2.2.2.1 _ hv, trivial⟩ ⟨PC_blind, call_pre X hG hp⟩ rfl hn hsz hst (lv_room hcat) hdg hcs) hG.2.2 (fun q _ h => hF q h) hF (fun r u t H1 locs1 ht hvm hw hB hz hk1 hS => ?_)
  subst hw
  exact kk H1 locs1 (call_post X hG hp hp' hk1 (by rw [← ht]; exact hB.1) hB.2 hS)
end RW
end
section
-- further rows: names for what is calculated, divisions, switches, a method's beginning
theorem lp_go {X ρ : Type} {F : (X → Option ρ) → X → Option ρ} {n : Nat} {x0 : X} {r : ρ} {P : X → Prop} (h : lp F n x0 = some r) (hF : ∀ self : X → Option ρ, (∀ x, self x = some r → P x) → ∀ x, F self x = some r → P x) : P x0 := lp_use hF x0 h
def nz (y : Int32) : Bool := decide (¬ y = 0)
def isz (y : Int32) : Bool := decide (y = 0 ∨ y = 1)
theorem blk_perm {α : Type} {l1 l2 : List α} (is : List Nat) (h : is.map (fun i => l1[i]?) = l2.map some) (hn : is.isPerm (List.range l1.length) = true) : l1.Perm l2 := by
  have hp : is.Perm (List.range l1.length) := List.isPerm_iff.mp hn
  have h1 : (is.map (fun i => l1[i]?)).Perm ((List.range l1.length).map (fun i => l1[i]?)) := hp.map _
  have h2 : (List.range l1.length).map (fun i => l1[i]?) = l1.map some := by
    apply List.ext_getElem?
    intro i
    simp only [List.getElem?_map]
    by_cases q : i < l1.length
    · rw [List.getElem?_range q, List.getElem?_eq_getElem q]; simp
    · rw [List.getElem?_eq_none (by simpa using q), List.getElem?_eq_none (by simpa using q)]; rfl
  rw [h, h2] at h1
  have h3 := h1.symm.filterMap id
  simpa using h3
section RW2
variable {p : Program} {l : Launch} {e : Env} {R : Room} {s : State} {m : MethodId} {args : Array Value} {below : List Frame} {meth : Method} {c : Code} {H : Heap} {locs : List Loc} {cells slots : Nat} {Q : State → Prop}
variable {g : GT} {cc : ByteArray} {nL pc : Nat} {own : String} {ret : Option FieldType} {A : Nat → Prop} {ls : Array Slot} {rest : List Value} {bs bs' : List va_W}
theorem r_bni {ρ : Type} {r : ρ} {x : Int32} {K : Int32 → Option ρ} (hf : bn x K = some r) (kk : ∀ y : Int32, K y = some r → W p l e R s m args below meth c H locs cells slots Q (F0 m pc ls (.int y :: rest))) : W p l e R s m args below meth c H locs cells slots Q (F0 m pc ls (.int x :: rest)) := kk x hf
theorem r_bnl {ρ : Type} {r : ρ} {x : Int64} {K : Int64 → Option ρ} (hf : bn x K = some r) (kk : ∀ y : Int64, K y = some r → W p l e R s m args below meth c H locs cells slots Q (F0 m pc ls (.long y :: rest))) : W p l e R s m args below meth c H locs cells slots Q (F0 m pc ls (.long x :: rest)) := kk x hf
theorem r_idiv {ρ : Type} {r : ρ} {x y : Int32} {K : Option ρ} (X : FX g p s m args meth c cc nL own ret A) (hf : ck (nz y) K = some r) (hdg : decode cc pc = .ok (.idiv, 1)) (kk : K = some r → W p l e R s m args below meth c H locs cells slots Q (F0 m (pc + 1) ls (.int (x / y) :: rest))) : W p l e R s m args below meth c H locs cells slots Q (F0 m pc ls (.int y :: .int x :: rest)) :=
  lv_idiv X.1 X.2.1 hdg (of_decide_eq_true (ck_inv hf).1) (kk (ck_inv hf).2)
theorem r_irem {ρ : Type} {r : ρ} {x y : Int32} {K : Option ρ} (X : FX g p s m args meth c cc nL own ret A) (hf : ck (nz y) K = some r) (hdg : decode cc pc = .ok (.irem, 1)) (kk : K = some r → W p l e R s m args below meth c H locs cells slots Q (F0 m (pc + 1) ls (.int (x - x / y * y) :: rest))) : W p l e R s m args below meth c H locs cells slots Q (F0 m pc ls (.int y :: .int x :: rest)) :=
  lv_irem X.1 X.2.1 hdg (of_decide_eq_true (ck_inv hf).1) (kk (ck_inv hf).2)
theorem r_tsi {x k : Int32} {dflt lo hi off : Int} {offs : Array Int} {len tgt : Nat} (X : FX g p s m args meth c cc nL own ret A) (hdg : decode cc pc = .ok (.tableswitch dflt lo hi offs, len)) (hk : x = k) (h : (decide (¬ k.toInt < lo) && decide (¬ hi < k.toInt)) = true) (ho : offs[(k.toInt - lo).toNat]? = some off) (ht : (pc : Int) + off = (tgt : Int)) (kk : W p l e R s m args below meth c H locs cells slots Q (F0 m tgt ls rest)) : W p l e R s m args below meth c H locs cells slots Q (F0 m pc ls (.int x :: rest)) := by
  subst hk
  rw [Bool.and_eq_true] at h
  exact lv_tableIn X.1 X.2.1 hdg (of_decide_eq_true h.1) (of_decide_eq_true h.2) ho ht kk
theorem r_tso {x : Int32} {dflt lo hi : Int} {offs : Array Int} {len tgt : Nat} {ks : List Int32} (X : FX g p s m args meth c cc nL own ret A) (hdg : decode cc pc = .ok (.tableswitch dflt lo hi offs, len)) (hk : ∀ k ∈ ks, ¬ x = k) (h : (List.range (hi - lo + 1).toNat).all (fun (i : Nat) => ks.any (fun k => decide (k.toInt = lo + (i : Int)))) = true) (ht : (pc : Int) + dflt = (tgt : Int)) (kk : W p l e R s m args below meth c H locs cells slots Q (F0 m tgt ls rest)) : W p l e R s m args below meth c H locs cells slots Q (F0 m pc ls (.int x :: rest)) := by
  refine lv_tableOut X.1 X.2.1 hdg ?_ ht kk
  by_cases h1 : x.toInt < lo
  · exact Or.inl h1
  · by_cases h2 : hi < x.toInt
    · exact Or.inr h2
    · exfalso
      have h3 := List.all_eq_true.mp h (x.toInt - lo).toNat (List.mem_range.mpr (by omega))
      obtain ⟨k, hk1, hk2⟩ := List.any_eq_true.mp h3
      have h4 : k.toInt = lo + (((x.toInt - lo).toNat : Nat) : Int) := of_decide_eq_true hk2
      refine hk k hk1 (Int32.toInt_inj.mp ?_)
      omega
theorem r_lsi {x k : Int32} {dflt off : Int} {ps : Array (Int × Int)} {len tgt : Nat} (X : FX g p s m args meth c cc nL own ret A) (hdg : decode cc pc = .ok (.lookupswitch dflt ps, len)) (hk : x = k) (hp : (ps.toList.zip (ps.toList.drop 1)).all (fun (a, next) => a.1 < next.1) = true) (h0 : True) (ho : Op.lookupswitch.offset ps.toList dflt k.toInt = off) (ht : (pc : Int) + off = (tgt : Int)) (kk : W p l e R s m args below meth c H locs cells slots Q (F0 m tgt ls rest)) : W p l e R s m args below meth c H locs cells slots Q (F0 m pc ls (.int x :: rest)) := by
  subst hk
  exact lv_lookup X.1 X.2.1 hdg hp ho ht kk
theorem ls_none {x : Int32} {d : Int} : ∀ {ps : List (Int × Int)} {ks : List Int32}, (∀ k ∈ ks, ¬ x = k) → ps.map Prod.fst = ks.map Int32.toInt → Op.lookupswitch.offset ps d x.toInt = d
  | [], _, _, _ => rfl
  | (a, o) :: r, [], _, h => by cases h
  | (a, o) :: r, k :: ks, h, he => by
    rw [List.map_cons, List.map_cons, List.cons.injEq] at he
    rw [lv_osw (h k List.mem_cons_self) he.1.symm]
    exact ls_none (fun k hk => h k (List.mem_cons_of_mem _ hk)) he.2
theorem r_lso {x : Int32} {dflt : Int} {ps : Array (Int × Int)} {len tgt : Nat} {ks : List Int32} (X : FX g p s m args meth c cc nL own ret A) (hdg : decode cc pc = .ok (.lookupswitch dflt ps, len)) (hk : ∀ k ∈ ks, ¬ x = k) (hp : (ps.toList.zip (ps.toList.drop 1)).all (fun (a, next) => a.1 < next.1) = true) (h : ps.toList.map Prod.fst = ks.map Int32.toInt) (ht : (pc : Int) + dflt = (tgt : Int)) (kk : W p l e R s m args below meth c H locs cells slots Q (F0 m tgt ls rest)) : W p l e R s m args below meth c H locs cells slots Q (F0 m pc ls (.int x :: rest)) :=
  lv_lookup X.1 X.2.1 hdg hp (ls_none hk h) ht kk
end RW2
theorem CI_intro {g : GT} {l : Launch} {y : MethodName} {b : ByteArray} {nL : Nat} {ret : Option FieldType} {rm : Room} {av : List Value} {bs bs' : List va_W} {rv : Int32} (own : String) (how : y.cls = own) (hy : plainName y.cls = true) (hav : (lg_sl av).length ≤ nL)
    (h : ∀ (p : Program) (e : Env) (s : State) (m : MethodId) (args : Array Value) (below : List Frame) (meth : Method) (c : Code) (A : Nat → Prop) (ls : Array Slot) (Q : State → Prop), Q = MQ below (QI g A bs' rv) args s 0 0 A → FX g p s m args meth c b nL own ret A → lv_has ls nL (lv_args 0 av) → GM g A s.heap s.heap [] bs → W p l e rm s m args below meth c s.heap [] 0 0 Q (F0 m 0 ls [])) : CI g l y b nL ret rm av bs rv bs' :=
  fun sz => M_intro (Qc := fun A => QI g A bs' rv) hy hav 0 0 (fun p e s m below meth c A ls X hl _ hG => h p e s m _ below meth c A ls _ rfl (how ▸ X) hl hG) sz
theorem CL_intro {g : GT} {l : Launch} {y : MethodName} {b : ByteArray} {nL : Nat} {ret : Option FieldType} {rm : Room} {av : List Value} {bs bs' : List va_W} {rv : Int64} (own : String) (how : y.cls = own) (hy : plainName y.cls = true) (hav : (lg_sl av).length ≤ nL)
    (h : ∀ (p : Program) (e : Env) (s : State) (m : MethodId) (args : Array Value) (below : List Frame) (meth : Method) (c : Code) (A : Nat → Prop) (ls : Array Slot) (Q : State → Prop), Q = MQ below (QL g A bs' rv) args s 0 0 A → FX g p s m args meth c b nL own ret A → lv_has ls nL (lv_args 0 av) → GM g A s.heap s.heap [] bs → W p l e rm s m args below meth c s.heap [] 0 0 Q (F0 m 0 ls [])) : CL g l y b nL ret rm av bs rv bs' :=
  fun sz => M_intro (Qc := fun A => QL g A bs' rv) hy hav 0 0 (fun p e s m below meth c A ls X hl _ hG => h p e s m _ below meth c A ls _ rfl (how ▸ X) hl hG) sz
theorem CV_intro {g : GT} {l : Launch} {y : MethodName} {b : ByteArray} {nL : Nat} {ret : Option FieldType} {rm : Room} {av : List Value} {bs bs' : List va_W} (own : String) (how : y.cls = own) (hy : plainName y.cls = true) (hav : (lg_sl av).length ≤ nL)
    (h : ∀ (p : Program) (e : Env) (s : State) (m : MethodId) (args : Array Value) (below : List Frame) (meth : Method) (c : Code) (A : Nat → Prop) (ls : Array Slot) (Q : State → Prop), Q = MQ below (QV g A bs') args s 0 0 A → FX g p s m args meth c b nL own ret A → lv_has ls nL (lv_args 0 av) → GM g A s.heap s.heap [] bs → W p l e rm s m args below meth c s.heap [] 0 0 Q (F0 m 0 ls [])) : CV g l y b nL ret rm av bs bs' :=
  fun sz => M_intro (Qc := fun A => QV g A bs') hy hav 0 0 (fun p e s m below meth c A ls X hl _ hG => h p e s m _ below meth c A ls _ rfl (how ▸ X) hl hG) sz
theorem TW_at {w : Cond} (i : Nat) (h : lw_tbl[i]? = some w) (hg : goodWord w = true) : w ∈ TW := List.mem_filter.mpr ⟨List.mem_of_getElem? h, hg⟩
theorem TW_all (ws : List Cond) (is : List Nat) (h : ws = is.filterMap (fun i => lw_tbl[i]?)) (hg : ws.all goodWord = true) : ∀ w ∈ ws, w ∈ TW := by
  intro w hw
  refine List.mem_filter.mpr ⟨?_, List.all_eq_true.mp hg w hw⟩
  rw [h] at hw
  obtain ⟨i, -, hi⟩ := List.mem_filterMap.mp hw
  exact List.mem_of_getElem? hi
theorem NW_at {w : Cond} (i : Nat) (h : lw_tbl[i]? = some w) (hg : (match w with
  | .methodLinkNest _ _ _ _ => true
  | .fieldLinkNest _ _ _ _ _ _ => true
  | _ => false) = true) : w ∈ NW := List.mem_filter.mpr ⟨List.mem_of_getElem? h, by cases w <;> first | exact hg | rfl | exact absurd hg (by simp)⟩
end
section
def wX8 (g : GT) (o : Nat) (ad : Nat → Nat) (s : MS) : va_W := [(o, .inr (8, [.int (s.1 0), .int (s.1 1), .ref (ad 2), .ref (ad 3), .ref (ad 4), .ref (ad 5), .int (s.1 6), .ref (ad 7), .ref (ad 8), .ref (ad 9), .int (s.1 10), .ref (ad 11), .ref (ad 12), .ref (ad 13), .ref (ad 14), .int (s.1 15), .int (s.1 16), .int (s.1 17), .int (s.1 18), .ref (ad 19), .int (s.1 20), .int (s.1 21), .int (s.1 22), .ref (ad 23), .ref (ad 24), .ref (ad 25), .int (s.1 26), .int (s.1 27), .int (s.1 28), .int (s.1 29), .int (s.1 30), .int (s.1 31), .int (s.1 32), .ref (ad 33), .ref (ad 34), .ref (ad 35), .ref (ad 36), .ref (ad 37), .ref (ad 38), .ref (ad 39), .ref (ad 40), .ref (ad 41), .ref (ad 42), .int (s.1 43), .int (s.1 44), .int (s.1 45), .int (s.1 46), .int (s.1 47), .int (s.1 48), .int (s.1 49), .int (s.1 50), .int (s.1 51), .ref (ad 52), .ref (ad 53), .ref (ad 54), .ref (ad 55), .ref (ad 56), .ref (ad 57), .ref (ad 58), .ref (ad 59), .ref (ad 60)])), (ad 2, .inl (g.2.1 0, 6, .inl (s.2 2))), (ad 3, .inl (g.2.1 0, 6, .inl (s.2 3))), (ad 4, .inl (g.2.1 0, 6, .inl (s.2 4))), (ad 5, .inl (g.2.1 0, 6, .inl (s.2 5))), (ad 7, .inl (g.2.1 0, 24, .inl (s.2 7))), (ad 8, .inl (g.2.1 0, 24, .inl (s.2 8))), (ad 9, .inl (g.2.1 0, 24, .inl (s.2 9))), (ad 11, .inl (g.2.1 0, 8, .inl (s.2 11))), (ad 12, .inl (g.2.1 0, 8, .inl (s.2 12))), (ad 13, .inl (g.2.1 0, 8, .inl (s.2 13))), (ad 14, .inl (g.2.1 0, 120, .inl (s.2 14))), (ad 19, .inl (g.2.1 1, 160, .inl (s.2 19))), (ad 23, .inl (g.2.1 0, 1190, .inl (s.2 23))), (ad 24, .inl (g.2.1 0, 1190, .inl (s.2 24))), (ad 25, .inl (g.2.1 0, 21, .inl (s.2 25))), (ad 33, .inl (g.2.1 0, 170, .inl (s.2 33))), (ad 34, .inl (g.2.1 0, 6, .inl (s.2 34))), (ad 35, .inl (g.2.1 0, 53, .inl (s.2 35))), (ad 36, .inl (g.2.1 0, 12, .inl (s.2 36))), (ad 37, .inl (g.2.1 0, 6, .inl (s.2 37))), (ad 38, .inl (g.2.1 0, 960, .inl (s.2 38))), (ad 39, .inl (g.2.1 0, 720, .inl (s.2 39))), (ad 40, .inl (g.2.1 0, 24, .inl (s.2 40))), (ad 41, .inl (g.2.1 0, 720, .inl (s.2 41))), (ad 42, .inl (g.2.1 0, 6, .inl (s.2 42))), (ad 52, .inl (g.2.1 0, 6, .inl (s.2 52))), (ad 53, .inl (g.2.1 0, 6, .inl (s.2 53))), (ad 54, .inl (g.2.1 0, 6, .inl (s.2 54))), (ad 55, .inl (g.2.1 0, 6, .inl (s.2 55))), (ad 56, .inl (g.2.1 0, 120, .inl (s.2 56))), (ad 57, .inl (g.2.1 0, 4, .inl (s.2 57))), (ad 58, .inl (g.2.1 0, 4, .inl (s.2 58))), (ad 59, .inl (g.2.1 0, 160, .inl (s.2 59))), (ad 60, .inl (g.2.1 0, 40, .inl (s.2 60)))]
theorem inX8 : ∀ w ∈ wsX80, w ∈ TW := TW_all _ [879, 881, 883, 885, 887, 889, 891, 893, 895, 897, 899, 901, 903, 905, 907, 909, 911, 913, 915, 917, 919, 921, 923, 925, 927, 929, 931, 933, 935, 937, 939, 941, 943, 945, 947, 949, 951, 953, 955, 957, 959, 961, 963, 965, 967, 969, 971, 973, 975, 977, 979, 981, 983, 985, 987, 989, 991, 993, 995, 997, 999] (by decide +kernel) (by decide +kernel)
section RL
variable {p : Program} {l : Launch} {e : Env} {R : Room} {s : State} {m : MethodId} {args : Array Value} {below : List Frame} {meth : Method} {c : Code} {H : Heap} {locs : List Loc} {cells slots : Nat} {Q : State → Prop}
variable {g : GT} {cc : ByteArray} {nL pc : Nat} {own : String} {ret : Option FieldType} {A : Nat → Prop} {ls : Array Slot} {rest : List Value} {bs bs' : List va_W}
theorem G_8_102 (X : FX g p s m args meth c cc nL RX8 ret A) {H0 : Heap} (hG : GM g A H0 H locs bs) (j : Nat) {o : Nat} {ad : Nat → Nat} {st : MS} (hj : bs[j]? = some (wX8 g o ad st)) (hdg : decode cc pc = .ok (.getfield 102, 3)) (kk : W p l e R s m args below meth c H locs cells slots Q (F0 m (pc + 3) ls (.ref (ad 53) :: rest))) : W p l e R s m args below meth c H locs cells slots Q (F0 m pc ls (.ref o :: rest)) := r_get X hG j 0 hj rfl rfl 53 (by decide) inX8 (TW_at 871 (by decide +kernel) (by decide +kernel)) rfl hdg kk
theorem G_8_105 (X : FX g p s m args meth c cc nL RX8 ret A) {H0 : Heap} (hG : GM g A H0 H locs bs) (j : Nat) {o : Nat} {ad : Nat → Nat} {st : MS} (hj : bs[j]? = some (wX8 g o ad st)) (hdg : decode cc pc = .ok (.getfield 105, 3)) (kk : W p l e R s m args below meth c H locs cells slots Q (F0 m (pc + 3) ls (.ref (ad 54) :: rest))) : W p l e R s m args below meth c H locs cells slots Q (F0 m pc ls (.ref o :: rest)) := r_get X hG j 0 hj rfl rfl 54 (by decide) inX8 (TW_at 872 (by decide +kernel) (by decide +kernel)) rfl hdg kk
theorem G_8_108 (X : FX g p s m args meth c cc nL RX8 ret A) {H0 : Heap} (hG : GM g A H0 H locs bs) (j : Nat) {o : Nat} {ad : Nat → Nat} {st : MS} (hj : bs[j]? = some (wX8 g o ad st)) (hdg : decode cc pc = .ok (.getfield 108, 3)) (kk : W p l e R s m args below meth c H locs cells slots Q (F0 m (pc + 3) ls (.ref (ad 55) :: rest))) : W p l e R s m args below meth c H locs cells slots Q (F0 m pc ls (.ref o :: rest)) := r_get X hG j 0 hj rfl rfl 55 (by decide) inX8 (TW_at 873 (by decide +kernel) (by decide +kernel)) rfl hdg kk
theorem G_8_111 (X : FX g p s m args meth c cc nL RX8 ret A) {H0 : Heap} (hG : GM g A H0 H locs bs) (j : Nat) {o : Nat} {ad : Nat → Nat} {st : MS} (hj : bs[j]? = some (wX8 g o ad st)) (hdg : decode cc pc = .ok (.getfield 111, 3)) (kk : W p l e R s m args below meth c H locs cells slots Q (F0 m (pc + 3) ls (.ref (ad 56) :: rest))) : W p l e R s m args below meth c H locs cells slots Q (F0 m pc ls (.ref o :: rest)) := r_get X hG j 0 hj rfl rfl 56 (by decide) inX8 (TW_at 874 (by decide +kernel) (by decide +kernel)) rfl hdg kk
theorem G_8_114 (X : FX g p s m args meth c cc nL RX8 ret A) {H0 : Heap} (hG : GM g A H0 H locs bs) (j : Nat) {o : Nat} {ad : Nat → Nat} {st : MS} (hj : bs[j]? = some (wX8 g o ad st)) (hdg : decode cc pc = .ok (.getfield 114, 3)) (kk : W p l e R s m args below meth c H locs cells slots Q (F0 m (pc + 3) ls (.ref (ad 57) :: rest))) : W p l e R s m args below meth c H locs cells slots Q (F0 m pc ls (.ref o :: rest)) := r_get X hG j 0 hj rfl rfl 57 (by decide) inX8 (TW_at 875 (by decide +kernel) (by decide +kernel)) rfl hdg kk
theorem G_8_117 (X : FX g p s m args meth c cc nL RX8 ret A) {H0 : Heap} (hG : GM g A H0 H locs bs) (j : Nat) {o : Nat} {ad : Nat → Nat} {st : MS} (hj : bs[j]? = some (wX8 g o ad st)) (hdg : decode cc pc = .ok (.getfield 117, 3)) (kk : W p l e R s m args below meth c H locs cells slots Q (F0 m (pc + 3) ls (.ref (ad 58) :: rest))) : W p l e R s m args below meth c H locs cells slots Q (F0 m pc ls (.ref o :: rest)) := r_get X hG j 0 hj rfl rfl 58 (by decide) inX8 (TW_at 876 (by decide +kernel) (by decide +kernel)) rfl hdg kk
theorem G_8_120 (X : FX g p s m args meth c cc nL RX8 ret A) {H0 : Heap} (hG : GM g A H0 H locs bs) (j : Nat) {o : Nat} {ad : Nat → Nat} {st : MS} (hj : bs[j]? = some (wX8 g o ad st)) (hdg : decode cc pc = .ok (.getfield 120, 3)) (kk : W p l e R s m args below meth c H locs cells slots Q (F0 m (pc + 3) ls (.ref (ad 59) :: rest))) : W p l e R s m args below meth c H locs cells slots Q (F0 m pc ls (.ref o :: rest)) := r_get X hG j 0 hj rfl rfl 59 (by decide) inX8 (TW_at 877 (by decide +kernel) (by decide +kernel)) rfl hdg kk
theorem G_8_123 (X : FX g p s m args meth c cc nL RX8 ret A) {H0 : Heap} (hG : GM g A H0 H locs bs) (j : Nat) {o : Nat} {ad : Nat → Nat} {st : MS} (hj : bs[j]? = some (wX8 g o ad st)) (hdg : decode cc pc = .ok (.getfield 123, 3)) (kk : W p l e R s m args below meth c H locs cells slots Q (F0 m (pc + 3) ls (.ref (ad 60) :: rest))) : W p l e R s m args below meth c H locs cells slots Q (F0 m pc ls (.ref o :: rest)) := r_get X hG j 0 hj rfl rfl 60 (by decide) inX8 (TW_at 878 (by decide +kernel) (by decide +kernel)) rfl hdg kk
theorem G_8_129 (X : FX g p s m args meth c cc nL RX8 ret A) {H0 : Heap} (hG : GM g A H0 H locs bs) (j : Nat) {o : Nat} {ad : Nat → Nat} {st : MS} (hj : bs[j]? = some (wX8 g o ad st)) (hdg : decode cc pc = .ok (.getfield 129, 3)) (kk : W p l e R s m args below meth c H locs cells slots Q (F0 m (pc + 3) ls (.int (st.1 1) :: rest))) : W p l e R s m args below meth c H locs cells slots Q (F0 m pc ls (.ref o :: rest)) := r_get X hG j 0 hj rfl rfl 1 (by decide) inX8 (TW_at 819 (by decide +kernel) (by decide +kernel)) rfl hdg kk
theorem G_8_13 (X : FX g p s m args meth c cc nL RX8 ret A) {H0 : Heap} (hG : GM g A H0 H locs bs) (j : Nat) {o : Nat} {ad : Nat → Nat} {st : MS} (hj : bs[j]? = some (wX8 g o ad st)) (hdg : decode cc pc = .ok (.getfield 13, 3)) (kk : W p l e R s m args below meth c H locs cells slots Q (F0 m (pc + 3) ls (.ref (ad 3) :: rest))) : W p l e R s m args below meth c H locs cells slots Q (F0 m pc ls (.ref o :: rest)) := r_get X hG j 0 hj rfl rfl 3 (by decide) inX8 (TW_at 821 (by decide +kernel) (by decide +kernel)) rfl hdg kk
theorem G_8_136 (X : FX g p s m args meth c cc nL RX8 ret A) {H0 : Heap} (hG : GM g A H0 H locs bs) (j : Nat) {o : Nat} {ad : Nat → Nat} {st : MS} (hj : bs[j]? = some (wX8 g o ad st)) (hdg : decode cc pc = .ok (.getfield 136, 3)) (kk : W p l e R s m args below meth c H locs cells slots Q (F0 m (pc + 3) ls (.int (st.1 10) :: rest))) : W p l e R s m args below meth c H locs cells slots Q (F0 m pc ls (.ref o :: rest)) := r_get X hG j 0 hj rfl rfl 10 (by decide) inX8 (TW_at 828 (by decide +kernel) (by decide +kernel)) rfl hdg kk
theorem G_8_143 (X : FX g p s m args meth c cc nL RX8 ret A) {H0 : Heap} (hG : GM g A H0 H locs bs) (j : Nat) {o : Nat} {ad : Nat → Nat} {st : MS} (hj : bs[j]? = some (wX8 g o ad st)) (hdg : decode cc pc = .ok (.getfield 143, 3)) (kk : W p l e R s m args below meth c H locs cells slots Q (F0 m (pc + 3) ls (.int (st.1 6) :: rest))) : W p l e R s m args below meth c H locs cells slots Q (F0 m pc ls (.ref o :: rest)) := r_get X hG j 0 hj rfl rfl 6 (by decide) inX8 (TW_at 824 (by decide +kernel) (by decide +kernel)) rfl hdg kk
theorem G_8_149 (X : FX g p s m args meth c cc nL RX8 ret A) {H0 : Heap} (hG : GM g A H0 H locs bs) (j : Nat) {o : Nat} {ad : Nat → Nat} {st : MS} (hj : bs[j]? = some (wX8 g o ad st)) (hdg : decode cc pc = .ok (.getfield 149, 3)) (kk : W p l e R s m args below meth c H locs cells slots Q (F0 m (pc + 3) ls (.int (st.1 17) :: rest))) : W p l e R s m args below meth c H locs cells slots Q (F0 m pc ls (.ref o :: rest)) := r_get X hG j 0 hj rfl rfl 17 (by decide) inX8 (TW_at 835 (by decide +kernel) (by decide +kernel)) rfl hdg kk
theorem G_8_16 (X : FX g p s m args meth c cc nL RX8 ret A) {H0 : Heap} (hG : GM g A H0 H locs bs) (j : Nat) {o : Nat} {ad : Nat → Nat} {st : MS} (hj : bs[j]? = some (wX8 g o ad st)) (hdg : decode cc pc = .ok (.getfield 16, 3)) (kk : W p l e R s m args below meth c H locs cells slots Q (F0 m (pc + 3) ls (.ref (ad 4) :: rest))) : W p l e R s m args below meth c H locs cells slots Q (F0 m pc ls (.ref o :: rest)) := r_get X hG j 0 hj rfl rfl 4 (by decide) inX8 (TW_at 822 (by decide +kernel) (by decide +kernel)) rfl hdg kk
theorem G_8_162 (X : FX g p s m args meth c cc nL RX8 ret A) {H0 : Heap} (hG : GM g A H0 H locs bs) (j : Nat) {o : Nat} {ad : Nat → Nat} {st : MS} (hj : bs[j]? = some (wX8 g o ad st)) (hdg : decode cc pc = .ok (.getfield 162, 3)) (kk : W p l e R s m args below meth c H locs cells slots Q (F0 m (pc + 3) ls (.int (st.1 20) :: rest))) : W p l e R s m args below meth c H locs cells slots Q (F0 m pc ls (.ref o :: rest)) := r_get X hG j 0 hj rfl rfl 20 (by decide) inX8 (TW_at 838 (by decide +kernel) (by decide +kernel)) rfl hdg kk
theorem G_8_165 (X : FX g p s m args meth c cc nL RX8 ret A) {H0 : Heap} (hG : GM g A H0 H locs bs) (j : Nat) {o : Nat} {ad : Nat → Nat} {st : MS} (hj : bs[j]? = some (wX8 g o ad st)) (hdg : decode cc pc = .ok (.getfield 165, 3)) (kk : W p l e R s m args below meth c H locs cells slots Q (F0 m (pc + 3) ls (.int (st.1 29) :: rest))) : W p l e R s m args below meth c H locs cells slots Q (F0 m pc ls (.ref o :: rest)) := r_get X hG j 0 hj rfl rfl 29 (by decide) inX8 (TW_at 847 (by decide +kernel) (by decide +kernel)) rfl hdg kk
theorem G_8_168 (X : FX g p s m args meth c cc nL RX8 ret A) {H0 : Heap} (hG : GM g A H0 H locs bs) (j : Nat) {o : Nat} {ad : Nat → Nat} {st : MS} (hj : bs[j]? = some (wX8 g o ad st)) (hdg : decode cc pc = .ok (.getfield 168, 3)) (kk : W p l e R s m args below meth c H locs cells slots Q (F0 m (pc + 3) ls (.int (st.1 30) :: rest))) : W p l e R s m args below meth c H locs cells slots Q (F0 m pc ls (.ref o :: rest)) := r_get X hG j 0 hj rfl rfl 30 (by decide) inX8 (TW_at 848 (by decide +kernel) (by decide +kernel)) rfl hdg kk
theorem G_8_171 (X : FX g p s m args meth c cc nL RX8 ret A) {H0 : Heap} (hG : GM g A H0 H locs bs) (j : Nat) {o : Nat} {ad : Nat → Nat} {st : MS} (hj : bs[j]? = some (wX8 g o ad st)) (hdg : decode cc pc = .ok (.getfield 171, 3)) (kk : W p l e R s m args below meth c H locs cells slots Q (F0 m (pc + 3) ls (.int (st.1 31) :: rest))) : W p l e R s m args below meth c H locs cells slots Q (F0 m pc ls (.ref o :: rest)) := r_get X hG j 0 hj rfl rfl 31 (by decide) inX8 (TW_at 849 (by decide +kernel) (by decide +kernel)) rfl hdg kk
theorem G_8_181 (X : FX g p s m args meth c cc nL RX8 ret A) {H0 : Heap} (hG : GM g A H0 H locs bs) (j : Nat) {o : Nat} {ad : Nat → Nat} {st : MS} (hj : bs[j]? = some (wX8 g o ad st)) (hdg : decode cc pc = .ok (.getfield 181, 3)) (kk : W p l e R s m args below meth c H locs cells slots Q (F0 m (pc + 3) ls (.int (st.1 32) :: rest))) : W p l e R s m args below meth c H locs cells slots Q (F0 m pc ls (.ref o :: rest)) := r_get X hG j 0 hj rfl rfl 32 (by decide) inX8 (TW_at 850 (by decide +kernel) (by decide +kernel)) rfl hdg kk
theorem G_8_187 (X : FX g p s m args meth c cc nL RX8 ret A) {H0 : Heap} (hG : GM g A H0 H locs bs) (j : Nat) {o : Nat} {ad : Nat → Nat} {st : MS} (hj : bs[j]? = some (wX8 g o ad st)) (hdg : decode cc pc = .ok (.getfield 187, 3)) (kk : W p l e R s m args below meth c H locs cells slots Q (F0 m (pc + 3) ls (.int (st.1 27) :: rest))) : W p l e R s m args below meth c H locs cells slots Q (F0 m pc ls (.ref o :: rest)) := r_get X hG j 0 hj rfl rfl 27 (by decide) inX8 (TW_at 845 (by decide +kernel) (by decide +kernel)) rfl hdg kk
theorem G_8_19 (X : FX g p s m args meth c cc nL RX8 ret A) {H0 : Heap} (hG : GM g A H0 H locs bs) (j : Nat) {o : Nat} {ad : Nat → Nat} {st : MS} (hj : bs[j]? = some (wX8 g o ad st)) (hdg : decode cc pc = .ok (.getfield 19, 3)) (kk : W p l e R s m args below meth c H locs cells slots Q (F0 m (pc + 3) ls (.ref (ad 5) :: rest))) : W p l e R s m args below meth c H locs cells slots Q (F0 m pc ls (.ref o :: rest)) := r_get X hG j 0 hj rfl rfl 5 (by decide) inX8 (TW_at 823 (by decide +kernel) (by decide +kernel)) rfl hdg kk
theorem G_8_190 (X : FX g p s m args meth c cc nL RX8 ret A) {H0 : Heap} (hG : GM g A H0 H locs bs) (j : Nat) {o : Nat} {ad : Nat → Nat} {st : MS} (hj : bs[j]? = some (wX8 g o ad st)) (hdg : decode cc pc = .ok (.getfield 190, 3)) (kk : W p l e R s m args below meth c H locs cells slots Q (F0 m (pc + 3) ls (.int (st.1 26) :: rest))) : W p l e R s m args below meth c H locs cells slots Q (F0 m pc ls (.ref o :: rest)) := r_get X hG j 0 hj rfl rfl 26 (by decide) inX8 (TW_at 844 (by decide +kernel) (by decide +kernel)) rfl hdg kk
theorem G_8_193 (X : FX g p s m args meth c cc nL RX8 ret A) {H0 : Heap} (hG : GM g A H0 H locs bs) (j : Nat) {o : Nat} {ad : Nat → Nat} {st : MS} (hj : bs[j]? = some (wX8 g o ad st)) (hdg : decode cc pc = .ok (.getfield 193, 3)) (kk : W p l e R s m args below meth c H locs cells slots Q (F0 m (pc + 3) ls (.int (st.1 28) :: rest))) : W p l e R s m args below meth c H locs cells slots Q (F0 m pc ls (.ref o :: rest)) := r_get X hG j 0 hj rfl rfl 28 (by decide) inX8 (TW_at 846 (by decide +kernel) (by decide +kernel)) rfl hdg kk
theorem G_8_22 (X : FX g p s m args meth c cc nL RX8 ret A) {H0 : Heap} (hG : GM g A H0 H locs bs) (j : Nat) {o : Nat} {ad : Nat → Nat} {st : MS} (hj : bs[j]? = some (wX8 g o ad st)) (hdg : decode cc pc = .ok (.getfield 22, 3)) (kk : W p l e R s m args below meth c H locs cells slots Q (F0 m (pc + 3) ls (.ref (ad 7) :: rest))) : W p l e R s m args below meth c H locs cells slots Q (F0 m pc ls (.ref o :: rest)) := r_get X hG j 0 hj rfl rfl 7 (by decide) inX8 (TW_at 825 (by decide +kernel) (by decide +kernel)) rfl hdg kk
theorem G_8_238 (X : FX g p s m args meth c cc nL RX8 ret A) {H0 : Heap} (hG : GM g A H0 H locs bs) (j : Nat) {o : Nat} {ad : Nat → Nat} {st : MS} (hj : bs[j]? = some (wX8 g o ad st)) (hdg : decode cc pc = .ok (.getfield 238, 3)) (kk : W p l e R s m args below meth c H locs cells slots Q (F0 m (pc + 3) ls (.int (st.1 22) :: rest))) : W p l e R s m args below meth c H locs cells slots Q (F0 m pc ls (.ref o :: rest)) := r_get X hG j 0 hj rfl rfl 22 (by decide) inX8 (TW_at 840 (by decide +kernel) (by decide +kernel)) rfl hdg kk
theorem G_8_25 (X : FX g p s m args meth c cc nL RX8 ret A) {H0 : Heap} (hG : GM g A H0 H locs bs) (j : Nat) {o : Nat} {ad : Nat → Nat} {st : MS} (hj : bs[j]? = some (wX8 g o ad st)) (hdg : decode cc pc = .ok (.getfield 25, 3)) (kk : W p l e R s m args below meth c H locs cells slots Q (F0 m (pc + 3) ls (.ref (ad 8) :: rest))) : W p l e R s m args below meth c H locs cells slots Q (F0 m pc ls (.ref o :: rest)) := r_get X hG j 0 hj rfl rfl 8 (by decide) inX8 (TW_at 826 (by decide +kernel) (by decide +kernel)) rfl hdg kk
theorem G_8_266 (X : FX g p s m args meth c cc nL RX8 ret A) {H0 : Heap} (hG : GM g A H0 H locs bs) (j : Nat) {o : Nat} {ad : Nat → Nat} {st : MS} (hj : bs[j]? = some (wX8 g o ad st)) (hdg : decode cc pc = .ok (.getfield 266, 3)) (kk : W p l e R s m args below meth c H locs cells slots Q (F0 m (pc + 3) ls (.int (st.1 45) :: rest))) : W p l e R s m args below meth c H locs cells slots Q (F0 m pc ls (.ref o :: rest)) := r_get X hG j 0 hj rfl rfl 45 (by decide) inX8 (TW_at 863 (by decide +kernel) (by decide +kernel)) rfl hdg kk
theorem G_8_28 (X : FX g p s m args meth c cc nL RX8 ret A) {H0 : Heap} (hG : GM g A H0 H locs bs) (j : Nat) {o : Nat} {ad : Nat → Nat} {st : MS} (hj : bs[j]? = some (wX8 g o ad st)) (hdg : decode cc pc = .ok (.getfield 28, 3)) (kk : W p l e R s m args below meth c H locs cells slots Q (F0 m (pc + 3) ls (.ref (ad 9) :: rest))) : W p l e R s m args below meth c H locs cells slots Q (F0 m pc ls (.ref o :: rest)) := r_get X hG j 0 hj rfl rfl 9 (by decide) inX8 (TW_at 827 (by decide +kernel) (by decide +kernel)) rfl hdg kk
theorem G_8_280 (X : FX g p s m args meth c cc nL RX8 ret A) {H0 : Heap} (hG : GM g A H0 H locs bs) (j : Nat) {o : Nat} {ad : Nat → Nat} {st : MS} (hj : bs[j]? = some (wX8 g o ad st)) (hdg : decode cc pc = .ok (.getfield 280, 3)) (kk : W p l e R s m args below meth c H locs cells slots Q (F0 m (pc + 3) ls (.int (st.1 43) :: rest))) : W p l e R s m args below meth c H locs cells slots Q (F0 m pc ls (.ref o :: rest)) := r_get X hG j 0 hj rfl rfl 43 (by decide) inX8 (TW_at 861 (by decide +kernel) (by decide +kernel)) rfl hdg kk
theorem G_8_283 (X : FX g p s m args meth c cc nL RX8 ret A) {H0 : Heap} (hG : GM g A H0 H locs bs) (j : Nat) {o : Nat} {ad : Nat → Nat} {st : MS} (hj : bs[j]? = some (wX8 g o ad st)) (hdg : decode cc pc = .ok (.getfield 283, 3)) (kk : W p l e R s m args below meth c H locs cells slots Q (F0 m (pc + 3) ls (.int (st.1 44) :: rest))) : W p l e R s m args below meth c H locs cells slots Q (F0 m pc ls (.ref o :: rest)) := r_get X hG j 0 hj rfl rfl 44 (by decide) inX8 (TW_at 862 (by decide +kernel) (by decide +kernel)) rfl hdg kk
theorem G_8_307 (X : FX g p s m args meth c cc nL RX8 ret A) {H0 : Heap} (hG : GM g A H0 H locs bs) (j : Nat) {o : Nat} {ad : Nat → Nat} {st : MS} (hj : bs[j]? = some (wX8 g o ad st)) (hdg : decode cc pc = .ok (.getfield 307, 3)) (kk : W p l e R s m args below meth c H locs cells slots Q (F0 m (pc + 3) ls (.int (st.1 46) :: rest))) : W p l e R s m args below meth c H locs cells slots Q (F0 m pc ls (.ref o :: rest)) := r_get X hG j 0 hj rfl rfl 46 (by decide) inX8 (TW_at 864 (by decide +kernel) (by decide +kernel)) rfl hdg kk
theorem G_8_31 (X : FX g p s m args meth c cc nL RX8 ret A) {H0 : Heap} (hG : GM g A H0 H locs bs) (j : Nat) {o : Nat} {ad : Nat → Nat} {st : MS} (hj : bs[j]? = some (wX8 g o ad st)) (hdg : decode cc pc = .ok (.getfield 31, 3)) (kk : W p l e R s m args below meth c H locs cells slots Q (F0 m (pc + 3) ls (.ref (ad 11) :: rest))) : W p l e R s m args below meth c H locs cells slots Q (F0 m pc ls (.ref o :: rest)) := r_get X hG j 0 hj rfl rfl 11 (by decide) inX8 (TW_at 829 (by decide +kernel) (by decide +kernel)) rfl hdg kk
theorem G_8_311 (X : FX g p s m args meth c cc nL RX8 ret A) {H0 : Heap} (hG : GM g A H0 H locs bs) (j : Nat) {o : Nat} {ad : Nat → Nat} {st : MS} (hj : bs[j]? = some (wX8 g o ad st)) (hdg : decode cc pc = .ok (.getfield 311, 3)) (kk : W p l e R s m args below meth c H locs cells slots Q (F0 m (pc + 3) ls (.int (st.1 47) :: rest))) : W p l e R s m args below meth c H locs cells slots Q (F0 m pc ls (.ref o :: rest)) := r_get X hG j 0 hj rfl rfl 47 (by decide) inX8 (TW_at 865 (by decide +kernel) (by decide +kernel)) rfl hdg kk
theorem G_8_314 (X : FX g p s m args meth c cc nL RX8 ret A) {H0 : Heap} (hG : GM g A H0 H locs bs) (j : Nat) {o : Nat} {ad : Nat → Nat} {st : MS} (hj : bs[j]? = some (wX8 g o ad st)) (hdg : decode cc pc = .ok (.getfield 314, 3)) (kk : W p l e R s m args below meth c H locs cells slots Q (F0 m (pc + 3) ls (.int (st.1 48) :: rest))) : W p l e R s m args below meth c H locs cells slots Q (F0 m pc ls (.ref o :: rest)) := r_get X hG j 0 hj rfl rfl 48 (by decide) inX8 (TW_at 866 (by decide +kernel) (by decide +kernel)) rfl hdg kk
theorem G_8_317 (X : FX g p s m args meth c cc nL RX8 ret A) {H0 : Heap} (hG : GM g A H0 H locs bs) (j : Nat) {o : Nat} {ad : Nat → Nat} {st : MS} (hj : bs[j]? = some (wX8 g o ad st)) (hdg : decode cc pc = .ok (.getfield 317, 3)) (kk : W p l e R s m args below meth c H locs cells slots Q (F0 m (pc + 3) ls (.int (st.1 49) :: rest))) : W p l e R s m args below meth c H locs cells slots Q (F0 m pc ls (.ref o :: rest)) := r_get X hG j 0 hj rfl rfl 49 (by decide) inX8 (TW_at 867 (by decide +kernel) (by decide +kernel)) rfl hdg kk
theorem G_8_320 (X : FX g p s m args meth c cc nL RX8 ret A) {H0 : Heap} (hG : GM g A H0 H locs bs) (j : Nat) {o : Nat} {ad : Nat → Nat} {st : MS} (hj : bs[j]? = some (wX8 g o ad st)) (hdg : decode cc pc = .ok (.getfield 320, 3)) (kk : W p l e R s m args below meth c H locs cells slots Q (F0 m (pc + 3) ls (.int (st.1 50) :: rest))) : W p l e R s m args below meth c H locs cells slots Q (F0 m pc ls (.ref o :: rest)) := r_get X hG j 0 hj rfl rfl 50 (by decide) inX8 (TW_at 868 (by decide +kernel) (by decide +kernel)) rfl hdg kk
theorem G_8_323 (X : FX g p s m args meth c cc nL RX8 ret A) {H0 : Heap} (hG : GM g A H0 H locs bs) (j : Nat) {o : Nat} {ad : Nat → Nat} {st : MS} (hj : bs[j]? = some (wX8 g o ad st)) (hdg : decode cc pc = .ok (.getfield 323, 3)) (kk : W p l e R s m args below meth c H locs cells slots Q (F0 m (pc + 3) ls (.int (st.1 51) :: rest))) : W p l e R s m args below meth c H locs cells slots Q (F0 m pc ls (.ref o :: rest)) := r_get X hG j 0 hj rfl rfl 51 (by decide) inX8 (TW_at 869 (by decide +kernel) (by decide +kernel)) rfl hdg kk
theorem G_8_34 (X : FX g p s m args meth c cc nL RX8 ret A) {H0 : Heap} (hG : GM g A H0 H locs bs) (j : Nat) {o : Nat} {ad : Nat → Nat} {st : MS} (hj : bs[j]? = some (wX8 g o ad st)) (hdg : decode cc pc = .ok (.getfield 34, 3)) (kk : W p l e R s m args below meth c H locs cells slots Q (F0 m (pc + 3) ls (.ref (ad 12) :: rest))) : W p l e R s m args below meth c H locs cells slots Q (F0 m pc ls (.ref o :: rest)) := r_get X hG j 0 hj rfl rfl 12 (by decide) inX8 (TW_at 830 (by decide +kernel) (by decide +kernel)) rfl hdg kk
theorem G_8_37 (X : FX g p s m args meth c cc nL RX8 ret A) {H0 : Heap} (hG : GM g A H0 H locs bs) (j : Nat) {o : Nat} {ad : Nat → Nat} {st : MS} (hj : bs[j]? = some (wX8 g o ad st)) (hdg : decode cc pc = .ok (.getfield 37, 3)) (kk : W p l e R s m args below meth c H locs cells slots Q (F0 m (pc + 3) ls (.ref (ad 13) :: rest))) : W p l e R s m args below meth c H locs cells slots Q (F0 m pc ls (.ref o :: rest)) := r_get X hG j 0 hj rfl rfl 13 (by decide) inX8 (TW_at 831 (by decide +kernel) (by decide +kernel)) rfl hdg kk
theorem G_8_40 (X : FX g p s m args meth c cc nL RX8 ret A) {H0 : Heap} (hG : GM g A H0 H locs bs) (j : Nat) {o : Nat} {ad : Nat → Nat} {st : MS} (hj : bs[j]? = some (wX8 g o ad st)) (hdg : decode cc pc = .ok (.getfield 40, 3)) (kk : W p l e R s m args below meth c H locs cells slots Q (F0 m (pc + 3) ls (.ref (ad 14) :: rest))) : W p l e R s m args below meth c H locs cells slots Q (F0 m pc ls (.ref o :: rest)) := r_get X hG j 0 hj rfl rfl 14 (by decide) inX8 (TW_at 832 (by decide +kernel) (by decide +kernel)) rfl hdg kk
theorem G_8_43 (X : FX g p s m args meth c cc nL RX8 ret A) {H0 : Heap} (hG : GM g A H0 H locs bs) (j : Nat) {o : Nat} {ad : Nat → Nat} {st : MS} (hj : bs[j]? = some (wX8 g o ad st)) (hdg : decode cc pc = .ok (.getfield 43, 3)) (kk : W p l e R s m args below meth c H locs cells slots Q (F0 m (pc + 3) ls (.int (st.1 15) :: rest))) : W p l e R s m args below meth c H locs cells slots Q (F0 m pc ls (.ref o :: rest)) := r_get X hG j 0 hj rfl rfl 15 (by decide) inX8 (TW_at 833 (by decide +kernel) (by decide +kernel)) rfl hdg kk
theorem G_8_47 (X : FX g p s m args meth c cc nL RX8 ret A) {H0 : Heap} (hG : GM g A H0 H locs bs) (j : Nat) {o : Nat} {ad : Nat → Nat} {st : MS} (hj : bs[j]? = some (wX8 g o ad st)) (hdg : decode cc pc = .ok (.getfield 47, 3)) (kk : W p l e R s m args below meth c H locs cells slots Q (F0 m (pc + 3) ls (.int (st.1 16) :: rest))) : W p l e R s m args below meth c H locs cells slots Q (F0 m pc ls (.ref o :: rest)) := r_get X hG j 0 hj rfl rfl 16 (by decide) inX8 (TW_at 834 (by decide +kernel) (by decide +kernel)) rfl hdg kk
theorem G_8_50 (X : FX g p s m args meth c cc nL RX8 ret A) {H0 : Heap} (hG : GM g A H0 H locs bs) (j : Nat) {o : Nat} {ad : Nat → Nat} {st : MS} (hj : bs[j]? = some (wX8 g o ad st)) (hdg : decode cc pc = .ok (.getfield 50, 3)) (kk : W p l e R s m args below meth c H locs cells slots Q (F0 m (pc + 3) ls (.int (st.1 18) :: rest))) : W p l e R s m args below meth c H locs cells slots Q (F0 m pc ls (.ref o :: rest)) := r_get X hG j 0 hj rfl rfl 18 (by decide) inX8 (TW_at 836 (by decide +kernel) (by decide +kernel)) rfl hdg kk
theorem G_8_53 (X : FX g p s m args meth c cc nL RX8 ret A) {H0 : Heap} (hG : GM g A H0 H locs bs) (j : Nat) {o : Nat} {ad : Nat → Nat} {st : MS} (hj : bs[j]? = some (wX8 g o ad st)) (hdg : decode cc pc = .ok (.getfield 53, 3)) (kk : W p l e R s m args below meth c H locs cells slots Q (F0 m (pc + 3) ls (.ref (ad 19) :: rest))) : W p l e R s m args below meth c H locs cells slots Q (F0 m pc ls (.ref o :: rest)) := r_get X hG j 0 hj rfl rfl 19 (by decide) inX8 (TW_at 837 (by decide +kernel) (by decide +kernel)) rfl hdg kk
theorem G_8_57 (X : FX g p s m args meth c cc nL RX8 ret A) {H0 : Heap} (hG : GM g A H0 H locs bs) (j : Nat) {o : Nat} {ad : Nat → Nat} {st : MS} (hj : bs[j]? = some (wX8 g o ad st)) (hdg : decode cc pc = .ok (.getfield 57, 3)) (kk : W p l e R s m args below meth c H locs cells slots Q (F0 m (pc + 3) ls (.int (st.1 21) :: rest))) : W p l e R s m args below meth c H locs cells slots Q (F0 m pc ls (.ref o :: rest)) := r_get X hG j 0 hj rfl rfl 21 (by decide) inX8 (TW_at 839 (by decide +kernel) (by decide +kernel)) rfl hdg kk
theorem G_8_60 (X : FX g p s m args meth c cc nL RX8 ret A) {H0 : Heap} (hG : GM g A H0 H locs bs) (j : Nat) {o : Nat} {ad : Nat → Nat} {st : MS} (hj : bs[j]? = some (wX8 g o ad st)) (hdg : decode cc pc = .ok (.getfield 60, 3)) (kk : W p l e R s m args below meth c H locs cells slots Q (F0 m (pc + 3) ls (.ref (ad 23) :: rest))) : W p l e R s m args below meth c H locs cells slots Q (F0 m pc ls (.ref o :: rest)) := r_get X hG j 0 hj rfl rfl 23 (by decide) inX8 (TW_at 841 (by decide +kernel) (by decide +kernel)) rfl hdg kk
theorem G_8_63 (X : FX g p s m args meth c cc nL RX8 ret A) {H0 : Heap} (hG : GM g A H0 H locs bs) (j : Nat) {o : Nat} {ad : Nat → Nat} {st : MS} (hj : bs[j]? = some (wX8 g o ad st)) (hdg : decode cc pc = .ok (.getfield 63, 3)) (kk : W p l e R s m args below meth c H locs cells slots Q (F0 m (pc + 3) ls (.ref (ad 24) :: rest))) : W p l e R s m args below meth c H locs cells slots Q (F0 m pc ls (.ref o :: rest)) := r_get X hG j 0 hj rfl rfl 24 (by decide) inX8 (TW_at 842 (by decide +kernel) (by decide +kernel)) rfl hdg kk
theorem G_8_66 (X : FX g p s m args meth c cc nL RX8 ret A) {H0 : Heap} (hG : GM g A H0 H locs bs) (j : Nat) {o : Nat} {ad : Nat → Nat} {st : MS} (hj : bs[j]? = some (wX8 g o ad st)) (hdg : decode cc pc = .ok (.getfield 66, 3)) (kk : W p l e R s m args below meth c H locs cells slots Q (F0 m (pc + 3) ls (.ref (ad 25) :: rest))) : W p l e R s m args below meth c H locs cells slots Q (F0 m pc ls (.ref o :: rest)) := r_get X hG j 0 hj rfl rfl 25 (by decide) inX8 (TW_at 843 (by decide +kernel) (by decide +kernel)) rfl hdg kk
theorem G_8_69 (X : FX g p s m args meth c cc nL RX8 ret A) {H0 : Heap} (hG : GM g A H0 H locs bs) (j : Nat) {o : Nat} {ad : Nat → Nat} {st : MS} (hj : bs[j]? = some (wX8 g o ad st)) (hdg : decode cc pc = .ok (.getfield 69, 3)) (kk : W p l e R s m args below meth c H locs cells slots Q (F0 m (pc + 3) ls (.ref (ad 33) :: rest))) : W p l e R s m args below meth c H locs cells slots Q (F0 m pc ls (.ref o :: rest)) := r_get X hG j 0 hj rfl rfl 33 (by decide) inX8 (TW_at 851 (by decide +kernel) (by decide +kernel)) rfl hdg kk
theorem G_8_7 (X : FX g p s m args meth c cc nL RX8 ret A) {H0 : Heap} (hG : GM g A H0 H locs bs) (j : Nat) {o : Nat} {ad : Nat → Nat} {st : MS} (hj : bs[j]? = some (wX8 g o ad st)) (hdg : decode cc pc = .ok (.getfield 7, 3)) (kk : W p l e R s m args below meth c H locs cells slots Q (F0 m (pc + 3) ls (.ref (ad 2) :: rest))) : W p l e R s m args below meth c H locs cells slots Q (F0 m pc ls (.ref o :: rest)) := r_get X hG j 0 hj rfl rfl 2 (by decide) inX8 (TW_at 820 (by decide +kernel) (by decide +kernel)) rfl hdg kk
theorem G_8_72 (X : FX g p s m args meth c cc nL RX8 ret A) {H0 : Heap} (hG : GM g A H0 H locs bs) (j : Nat) {o : Nat} {ad : Nat → Nat} {st : MS} (hj : bs[j]? = some (wX8 g o ad st)) (hdg : decode cc pc = .ok (.getfield 72, 3)) (kk : W p l e R s m args below meth c H locs cells slots Q (F0 m (pc + 3) ls (.ref (ad 34) :: rest))) : W p l e R s m args below meth c H locs cells slots Q (F0 m pc ls (.ref o :: rest)) := r_get X hG j 0 hj rfl rfl 34 (by decide) inX8 (TW_at 852 (by decide +kernel) (by decide +kernel)) rfl hdg kk
theorem G_8_75 (X : FX g p s m args meth c cc nL RX8 ret A) {H0 : Heap} (hG : GM g A H0 H locs bs) (j : Nat) {o : Nat} {ad : Nat → Nat} {st : MS} (hj : bs[j]? = some (wX8 g o ad st)) (hdg : decode cc pc = .ok (.getfield 75, 3)) (kk : W p l e R s m args below meth c H locs cells slots Q (F0 m (pc + 3) ls (.ref (ad 35) :: rest))) : W p l e R s m args below meth c H locs cells slots Q (F0 m pc ls (.ref o :: rest)) := r_get X hG j 0 hj rfl rfl 35 (by decide) inX8 (TW_at 853 (by decide +kernel) (by decide +kernel)) rfl hdg kk
theorem G_8_78 (X : FX g p s m args meth c cc nL RX8 ret A) {H0 : Heap} (hG : GM g A H0 H locs bs) (j : Nat) {o : Nat} {ad : Nat → Nat} {st : MS} (hj : bs[j]? = some (wX8 g o ad st)) (hdg : decode cc pc = .ok (.getfield 78, 3)) (kk : W p l e R s m args below meth c H locs cells slots Q (F0 m (pc + 3) ls (.ref (ad 36) :: rest))) : W p l e R s m args below meth c H locs cells slots Q (F0 m pc ls (.ref o :: rest)) := r_get X hG j 0 hj rfl rfl 36 (by decide) inX8 (TW_at 854 (by decide +kernel) (by decide +kernel)) rfl hdg kk
theorem G_8_81 (X : FX g p s m args meth c cc nL RX8 ret A) {H0 : Heap} (hG : GM g A H0 H locs bs) (j : Nat) {o : Nat} {ad : Nat → Nat} {st : MS} (hj : bs[j]? = some (wX8 g o ad st)) (hdg : decode cc pc = .ok (.getfield 81, 3)) (kk : W p l e R s m args below meth c H locs cells slots Q (F0 m (pc + 3) ls (.ref (ad 37) :: rest))) : W p l e R s m args below meth c H locs cells slots Q (F0 m pc ls (.ref o :: rest)) := r_get X hG j 0 hj rfl rfl 37 (by decide) inX8 (TW_at 855 (by decide +kernel) (by decide +kernel)) rfl hdg kk
theorem G_8_84 (X : FX g p s m args meth c cc nL RX8 ret A) {H0 : Heap} (hG : GM g A H0 H locs bs) (j : Nat) {o : Nat} {ad : Nat → Nat} {st : MS} (hj : bs[j]? = some (wX8 g o ad st)) (hdg : decode cc pc = .ok (.getfield 84, 3)) (kk : W p l e R s m args below meth c H locs cells slots Q (F0 m (pc + 3) ls (.ref (ad 38) :: rest))) : W p l e R s m args below meth c H locs cells slots Q (F0 m pc ls (.ref o :: rest)) := r_get X hG j 0 hj rfl rfl 38 (by decide) inX8 (TW_at 856 (by decide +kernel) (by decide +kernel)) rfl hdg kk
theorem G_8_87 (X : FX g p s m args meth c cc nL RX8 ret A) {H0 : Heap} (hG : GM g A H0 H locs bs) (j : Nat) {o : Nat} {ad : Nat → Nat} {st : MS} (hj : bs[j]? = some (wX8 g o ad st)) (hdg : decode cc pc = .ok (.getfield 87, 3)) (kk : W p l e R s m args below meth c H locs cells slots Q (F0 m (pc + 3) ls (.ref (ad 39) :: rest))) : W p l e R s m args below meth c H locs cells slots Q (F0 m pc ls (.ref o :: rest)) := r_get X hG j 0 hj rfl rfl 39 (by decide) inX8 (TW_at 857 (by decide +kernel) (by decide +kernel)) rfl hdg kk
theorem G_8_90 (X : FX g p s m args meth c cc nL RX8 ret A) {H0 : Heap} (hG : GM g A H0 H locs bs) (j : Nat) {o : Nat} {ad : Nat → Nat} {st : MS} (hj : bs[j]? = some (wX8 g o ad st)) (hdg : decode cc pc = .ok (.getfield 90, 3)) (kk : W p l e R s m args below meth c H locs cells slots Q (F0 m (pc + 3) ls (.ref (ad 40) :: rest))) : W p l e R s m args below meth c H locs cells slots Q (F0 m pc ls (.ref o :: rest)) := r_get X hG j 0 hj rfl rfl 40 (by decide) inX8 (TW_at 858 (by decide +kernel) (by decide +kernel)) rfl hdg kk
theorem G_8_93 (X : FX g p s m args meth c cc nL RX8 ret A) {H0 : Heap} (hG : GM g A H0 H locs bs) (j : Nat) {o : Nat} {ad : Nat → Nat} {st : MS} (hj : bs[j]? = some (wX8 g o ad st)) (hdg : decode cc pc = .ok (.getfield 93, 3)) (kk : W p l e R s m args below meth c H locs cells slots Q (F0 m (pc + 3) ls (.ref (ad 41) :: rest))) : W p l e R s m args below meth c H locs cells slots Q (F0 m pc ls (.ref o :: rest)) := r_get X hG j 0 hj rfl rfl 41 (by decide) inX8 (TW_at 859 (by decide +kernel) (by decide +kernel)) rfl hdg kk
theorem G_8_96 (X : FX g p s m args meth c cc nL RX8 ret A) {H0 : Heap} (hG : GM g A H0 H locs bs) (j : Nat) {o : Nat} {ad : Nat → Nat} {st : MS} (hj : bs[j]? = some (wX8 g o ad st)) (hdg : decode cc pc = .ok (.getfield 96, 3)) (kk : W p l e R s m args below meth c H locs cells slots Q (F0 m (pc + 3) ls (.ref (ad 42) :: rest))) : W p l e R s m args below meth c H locs cells slots Q (F0 m pc ls (.ref o :: rest)) := r_get X hG j 0 hj rfl rfl 42 (by decide) inX8 (TW_at 860 (by decide +kernel) (by decide +kernel)) rfl hdg kk
theorem G_8_99 (X : FX g p s m args meth c cc nL RX8 ret A) {H0 : Heap} (hG : GM g A H0 H locs bs) (j : Nat) {o : Nat} {ad : Nat → Nat} {st : MS} (hj : bs[j]? = some (wX8 g o ad st)) (hdg : decode cc pc = .ok (.getfield 99, 3)) (kk : W p l e R s m args below meth c H locs cells slots Q (F0 m (pc + 3) ls (.ref (ad 52) :: rest))) : W p l e R s m args below meth c H locs cells slots Q (F0 m pc ls (.ref o :: rest)) := r_get X hG j 0 hj rfl rfl 52 (by decide) inX8 (TW_at 870 (by decide +kernel) (by decide +kernel)) rfl hdg kk
theorem P_8_129 {ρ : Type} {r : ρ} (X : FX g p s m args meth c cc nL RX8 ret A) {H0 : Heap} (hG : GM g A H0 H locs bs) (j : Nat) {o : Nat} {ad : Nat → Nat} {st : MS} (hj : bs[j]? = some (wX8 g o ad st)) {x : Int32} {K : MS → Option ρ} (hf : bn (sp st 1 x) K = some r) (w : MS → List va_W) (hw : ∀ t, bs.set j (wX8 g o ad t) = w t) (hdg : decode cc pc = .ok (.putfield 129, 3)) (kk : ∀ (t : MS) (H1 : Heap) (locs1 : List Loc), K t = some r → GM g A H0 H1 locs1 (w t) → W p l e R s m args below meth c H1 locs1 cells slots Q (F0 m (pc + 3) ls rest)) : W p l e R s m args below meth c H locs cells slots Q (F0 m pc ls (.int x :: .ref o :: rest)) := r_put X hG j 0 hj rfl rfl 1 (by decide) inX8 tyX8 tyX8_ok nmX8 (TW_at 819 (by decide +kernel) (by decide +kernel)) rfl (ty := .int) rfl rfl rfl (Nat.le_of_ble_eq_true rfl) hdg (fun H1 locs1 h => kk _ H1 locs1 hf (by rw [← hw]; exact h))
theorem P_8_136 {ρ : Type} {r : ρ} (X : FX g p s m args meth c cc nL RX8 ret A) {H0 : Heap} (hG : GM g A H0 H locs bs) (j : Nat) {o : Nat} {ad : Nat → Nat} {st : MS} (hj : bs[j]? = some (wX8 g o ad st)) {x : Int32} {K : MS → Option ρ} (hf : bn (sp st 10 x) K = some r) (w : MS → List va_W) (hw : ∀ t, bs.set j (wX8 g o ad t) = w t) (hdg : decode cc pc = .ok (.putfield 136, 3)) (kk : ∀ (t : MS) (H1 : Heap) (locs1 : List Loc), K t = some r → GM g A H0 H1 locs1 (w t) → W p l e R s m args below meth c H1 locs1 cells slots Q (F0 m (pc + 3) ls rest)) : W p l e R s m args below meth c H locs cells slots Q (F0 m pc ls (.int x :: .ref o :: rest)) := r_put X hG j 0 hj rfl rfl 10 (by decide) inX8 tyX8 tyX8_ok nmX8 (TW_at 828 (by decide +kernel) (by decide +kernel)) rfl (ty := .int) rfl rfl rfl (Nat.le_of_ble_eq_true rfl) hdg (fun H1 locs1 h => kk _ H1 locs1 hf (by rw [← hw]; exact h))
theorem P_8_143 {ρ : Type} {r : ρ} (X : FX g p s m args meth c cc nL RX8 ret A) {H0 : Heap} (hG : GM g A H0 H locs bs) (j : Nat) {o : Nat} {ad : Nat → Nat} {st : MS} (hj : bs[j]? = some (wX8 g o ad st)) {x : Int32} {K : MS → Option ρ} (hf : bn (sp st 6 x) K = some r) (w : MS → List va_W) (hw : ∀ t, bs.set j (wX8 g o ad t) = w t) (hdg : decode cc pc = .ok (.putfield 143, 3)) (kk : ∀ (t : MS) (H1 : Heap) (locs1 : List Loc), K t = some r → GM g A H0 H1 locs1 (w t) → W p l e R s m args below meth c H1 locs1 cells slots Q (F0 m (pc + 3) ls rest)) : W p l e R s m args below meth c H locs cells slots Q (F0 m pc ls (.int x :: .ref o :: rest)) := r_put X hG j 0 hj rfl rfl 6 (by decide) inX8 tyX8 tyX8_ok nmX8 (TW_at 824 (by decide +kernel) (by decide +kernel)) rfl (ty := .int) rfl rfl rfl (Nat.le_of_ble_eq_true rfl) hdg (fun H1 locs1 h => kk _ H1 locs1 hf (by rw [← hw]; exact h))
theorem P_8_149 {ρ : Type} {r : ρ} (X : FX g p s m args meth c cc nL RX8 ret A) {H0 : Heap} (hG : GM g A H0 H locs bs) (j : Nat) {o : Nat} {ad : Nat → Nat} {st : MS} (hj : bs[j]? = some (wX8 g o ad st)) {x : Int32} {K : MS → Option ρ} (hf : bn (sp st 17 x) K = some r) (w : MS → List va_W) (hw : ∀ t, bs.set j (wX8 g o ad t) = w t) (hdg : decode cc pc = .ok (.putfield 149, 3)) (kk : ∀ (t : MS) (H1 : Heap) (locs1 : List Loc), K t = some r → GM g A H0 H1 locs1 (w t) → W p l e R s m args below meth c H1 locs1 cells slots Q (F0 m (pc + 3) ls rest)) : W p l e R s m args below meth c H locs cells slots Q (F0 m pc ls (.int x :: .ref o :: rest)) := r_put X hG j 0 hj rfl rfl 17 (by decide) inX8 tyX8 tyX8_ok nmX8 (TW_at 835 (by decide +kernel) (by decide +kernel)) rfl (ty := .int) rfl rfl rfl (Nat.le_of_ble_eq_true rfl) hdg (fun H1 locs1 h => kk _ H1 locs1 hf (by rw [← hw]; exact h))
theorem P_8_162 {ρ : Type} {r : ρ} (X : FX g p s m args meth c cc nL RX8 ret A) {H0 : Heap} (hG : GM g A H0 H locs bs) (j : Nat) {o : Nat} {ad : Nat → Nat} {st : MS} (hj : bs[j]? = some (wX8 g o ad st)) {x : Int32} {K : MS → Option ρ} (hf : bn (sp st 20 x) K = some r) (w : MS → List va_W) (hw : ∀ t, bs.set j (wX8 g o ad t) = w t) (hdg : decode cc pc = .ok (.putfield 162, 3)) (kk : ∀ (t : MS) (H1 : Heap) (locs1 : List Loc), K t = some r → GM g A H0 H1 locs1 (w t) → W p l e R s m args below meth c H1 locs1 cells slots Q (F0 m (pc + 3) ls rest)) : W p l e R s m args below meth c H locs cells slots Q (F0 m pc ls (.int x :: .ref o :: rest)) := r_put X hG j 0 hj rfl rfl 20 (by decide) inX8 tyX8 tyX8_ok nmX8 (TW_at 838 (by decide +kernel) (by decide +kernel)) rfl (ty := .int) rfl rfl rfl (Nat.le_of_ble_eq_true rfl) hdg (fun H1 locs1 h => kk _ H1 locs1 hf (by rw [← hw]; exact h))
theorem P_8_165 {ρ : Type} {r : ρ} (X : FX g p s m args meth c cc nL RX8 ret A) {H0 : Heap} (hG : GM g A H0 H locs bs) (j : Nat) {o : Nat} {ad : Nat → Nat} {st : MS} (hj : bs[j]? = some (wX8 g o ad st)) {x : Int32} {K : MS → Option ρ} (hf : bn (sp st 29 x) K = some r) (w : MS → List va_W) (hw : ∀ t, bs.set j (wX8 g o ad t) = w t) (hdg : decode cc pc = .ok (.putfield 165, 3)) (kk : ∀ (t : MS) (H1 : Heap) (locs1 : List Loc), K t = some r → GM g A H0 H1 locs1 (w t) → W p l e R s m args below meth c H1 locs1 cells slots Q (F0 m (pc + 3) ls rest)) : W p l e R s m args below meth c H locs cells slots Q (F0 m pc ls (.int x :: .ref o :: rest)) := r_put X hG j 0 hj rfl rfl 29 (by decide) inX8 tyX8 tyX8_ok nmX8 (TW_at 847 (by decide +kernel) (by decide +kernel)) rfl (ty := .int) rfl rfl rfl (Nat.le_of_ble_eq_true rfl) hdg (fun H1 locs1 h => kk _ H1 locs1 hf (by rw [← hw]; exact h))
theorem P_8_168 {ρ : Type} {r : ρ} (X : FX g p s m args meth c cc nL RX8 ret A) {H0 : Heap} (hG : GM g A H0 H locs bs) (j : Nat) {o : Nat} {ad : Nat → Nat} {st : MS} (hj : bs[j]? = some (wX8 g o ad st)) {x : Int32} {K : MS → Option ρ} (hf : bn (sp st 30 x) K = some r) (w : MS → List va_W) (hw : ∀ t, bs.set j (wX8 g o ad t) = w t) (hdg : decode cc pc = .ok (.putfield 168, 3)) (kk : ∀ (t : MS) (H1 : Heap) (locs1 : List Loc), K t = some r → GM g A H0 H1 locs1 (w t) → W p l e R s m args below meth c H1 locs1 cells slots Q (F0 m (pc + 3) ls rest)) : W p l e R s m args below meth c H locs cells slots Q (F0 m pc ls (.int x :: .ref o :: rest)) := r_put X hG j 0 hj rfl rfl 30 (by decide) inX8 tyX8 tyX8_ok nmX8 (TW_at 848 (by decide +kernel) (by decide +kernel)) rfl (ty := .int) rfl rfl rfl (Nat.le_of_ble_eq_true rfl) hdg (fun H1 locs1 h => kk _ H1 locs1 hf (by rw [← hw]; exact h))
theorem P_8_171 {ρ : Type} {r : ρ} (X : FX g p s m args meth c cc nL RX8 ret A) {H0 : Heap} (hG : GM g A H0 H locs bs) (j : Nat) {o : Nat} {ad : Nat → Nat} {st : MS} (hj : bs[j]? = some (wX8 g o ad st)) {x : Int32} {K : MS → Option ρ} (hf : bn (sp st 31 x) K = some r) (w : MS → List va_W) (hw : ∀ t, bs.set j (wX8 g o ad t) = w t) (hdg : decode cc pc = .ok (.putfield 171, 3)) (kk : ∀ (t : MS) (H1 : Heap) (locs1 : List Loc), K t = some r → GM g A H0 H1 locs1 (w t) → W p l e R s m args below meth c H1 locs1 cells slots Q (F0 m (pc + 3) ls rest)) : W p l e R s m args below meth c H locs cells slots Q (F0 m pc ls (.int x :: .ref o :: rest)) := r_put X hG j 0 hj rfl rfl 31 (by decide) inX8 tyX8 tyX8_ok nmX8 (TW_at 849 (by decide +kernel) (by decide +kernel)) rfl (ty := .int) rfl rfl rfl (Nat.le_of_ble_eq_true rfl) hdg (fun H1 locs1 h => kk _ H1 locs1 hf (by rw [← hw]; exact h))
theorem P_8_181 {ρ : Type} {r : ρ} (X : FX g p s m args meth c cc nL RX8 ret A) {H0 : Heap} (hG : GM g A H0 H locs bs) (j : Nat) {o : Nat} {ad : Nat → Nat} {st : MS} (hj : bs[j]? = some (wX8 g o ad st)) {x : Int32} {K : MS → Option ρ} (hf : bn (sp st 32 x) K = some r) (w : MS → List va_W) (hw : ∀ t, bs.set j (wX8 g o ad t) = w t) (hdg : decode cc pc = .ok (.putfield 181, 3)) (kk : ∀ (t : MS) (H1 : Heap) (locs1 : List Loc), K t = some r → GM g A H0 H1 locs1 (w t) → W p l e R s m args below meth c H1 locs1 cells slots Q (F0 m (pc + 3) ls rest)) : W p l e R s m args below meth c H locs cells slots Q (F0 m pc ls (.int x :: .ref o :: rest)) := r_put X hG j 0 hj rfl rfl 32 (by decide) inX8 tyX8 tyX8_ok nmX8 (TW_at 850 (by decide +kernel) (by decide +kernel)) rfl (ty := .int) rfl rfl rfl (Nat.le_of_ble_eq_true rfl) hdg (fun H1 locs1 h => kk _ H1 locs1 hf (by rw [← hw]; exact h))
theorem P_8_187 {ρ : Type} {r : ρ} (X : FX g p s m args meth c cc nL RX8 ret A) {H0 : Heap} (hG : GM g A H0 H locs bs) (j : Nat) {o : Nat} {ad : Nat → Nat} {st : MS} (hj : bs[j]? = some (wX8 g o ad st)) {x : Int32} {K : MS → Option ρ} (hf : bn (sp st 27 x) K = some r) (w : MS → List va_W) (hw : ∀ t, bs.set j (wX8 g o ad t) = w t) (hdg : decode cc pc = .ok (.putfield 187, 3)) (kk : ∀ (t : MS) (H1 : Heap) (locs1 : List Loc), K t = some r → GM g A H0 H1 locs1 (w t) → W p l e R s m args below meth c H1 locs1 cells slots Q (F0 m (pc + 3) ls rest)) : W p l e R s m args below meth c H locs cells slots Q (F0 m pc ls (.int x :: .ref o :: rest)) := r_put X hG j 0 hj rfl rfl 27 (by decide) inX8 tyX8 tyX8_ok nmX8 (TW_at 845 (by decide +kernel) (by decide +kernel)) rfl (ty := .int) rfl rfl rfl (Nat.le_of_ble_eq_true rfl) hdg (fun H1 locs1 h => kk _ H1 locs1 hf (by rw [← hw]; exact h))
theorem P_8_190 {ρ : Type} {r : ρ} (X : FX g p s m args meth c cc nL RX8 ret A) {H0 : Heap} (hG : GM g A H0 H locs bs) (j : Nat) {o : Nat} {ad : Nat → Nat} {st : MS} (hj : bs[j]? = some (wX8 g o ad st)) {x : Int32} {K : MS → Option ρ} (hf : bn (sp st 26 x) K = some r) (w : MS → List va_W) (hw : ∀ t, bs.set j (wX8 g o ad t) = w t) (hdg : decode cc pc = .ok (.putfield 190, 3)) (kk : ∀ (t : MS) (H1 : Heap) (locs1 : List Loc), K t = some r → GM g A H0 H1 locs1 (w t) → W p l e R s m args below meth c H1 locs1 cells slots Q (F0 m (pc + 3) ls rest)) : W p l e R s m args below meth c H locs cells slots Q (F0 m pc ls (.int x :: .ref o :: rest)) := r_put X hG j 0 hj rfl rfl 26 (by decide) inX8 tyX8 tyX8_ok nmX8 (TW_at 844 (by decide +kernel) (by decide +kernel)) rfl (ty := .int) rfl rfl rfl (Nat.le_of_ble_eq_true rfl) hdg (fun H1 locs1 h => kk _ H1 locs1 hf (by rw [← hw]; exact h))
theorem P_8_193 {ρ : Type} {r : ρ} (X : FX g p s m args meth c cc nL RX8 ret A) {H0 : Heap} (hG : GM g A H0 H locs bs) (j : Nat) {o : Nat} {ad : Nat → Nat} {st : MS} (hj : bs[j]? = some (wX8 g o ad st)) {x : Int32} {K : MS → Option ρ} (hf : bn (sp st 28 x) K = some r) (w : MS → List va_W) (hw : ∀ t, bs.set j (wX8 g o ad t) = w t) (hdg : decode cc pc = .ok (.putfield 193, 3)) (kk : ∀ (t : MS) (H1 : Heap) (locs1 : List Loc), K t = some r → GM g A H0 H1 locs1 (w t) → W p l e R s m args below meth c H1 locs1 cells slots Q (F0 m (pc + 3) ls rest)) : W p l e R s m args below meth c H locs cells slots Q (F0 m pc ls (.int x :: .ref o :: rest)) := r_put X hG j 0 hj rfl rfl 28 (by decide) inX8 tyX8 tyX8_ok nmX8 (TW_at 846 (by decide +kernel) (by decide +kernel)) rfl (ty := .int) rfl rfl rfl (Nat.le_of_ble_eq_true rfl) hdg (fun H1 locs1 h => kk _ H1 locs1 hf (by rw [← hw]; exact h))
theorem P_8_238 {ρ : Type} {r : ρ} (X : FX g p s m args meth c cc nL RX8 ret A) {H0 : Heap} (hG : GM g A H0 H locs bs) (j : Nat) {o : Nat} {ad : Nat → Nat} {st : MS} (hj : bs[j]? = some (wX8 g o ad st)) {x : Int32} {K : MS → Option ρ} (hf : bn (sp st 22 x) K = some r) (w : MS → List va_W) (hw : ∀ t, bs.set j (wX8 g o ad t) = w t) (hdg : decode cc pc = .ok (.putfield 238, 3)) (kk : ∀ (t : MS) (H1 : Heap) (locs1 : List Loc), K t = some r → GM g A H0 H1 locs1 (w t) → W p l e R s m args below meth c H1 locs1 cells slots Q (F0 m (pc + 3) ls rest)) : W p l e R s m args below meth c H locs cells slots Q (F0 m pc ls (.int x :: .ref o :: rest)) := r_put X hG j 0 hj rfl rfl 22 (by decide) inX8 tyX8 tyX8_ok nmX8 (TW_at 840 (by decide +kernel) (by decide +kernel)) rfl (ty := .int) rfl rfl rfl (Nat.le_of_ble_eq_true rfl) hdg (fun H1 locs1 h => kk _ H1 locs1 hf (by rw [← hw]; exact h))
theorem P_8_266 {ρ : Type} {r : ρ} (X : FX g p s m args meth c cc nL RX8 ret A) {H0 : Heap} (hG : GM g A H0 H locs bs) (j : Nat) {o : Nat} {ad : Nat → Nat} {st : MS} (hj : bs[j]? = some (wX8 g o ad st)) {x : Int32} {K : MS → Option ρ} (hf : bn (sp st 45 x) K = some r) (w : MS → List va_W) (hw : ∀ t, bs.set j (wX8 g o ad t) = w t) (hdg : decode cc pc = .ok (.putfield 266, 3)) (kk : ∀ (t : MS) (H1 : Heap) (locs1 : List Loc), K t = some r → GM g A H0 H1 locs1 (w t) → W p l e R s m args below meth c H1 locs1 cells slots Q (F0 m (pc + 3) ls rest)) : W p l e R s m args below meth c H locs cells slots Q (F0 m pc ls (.int x :: .ref o :: rest)) := r_put X hG j 0 hj rfl rfl 45 (by decide) inX8 tyX8 tyX8_ok nmX8 (TW_at 863 (by decide +kernel) (by decide +kernel)) rfl (ty := .int) rfl rfl rfl (Nat.le_of_ble_eq_true rfl) hdg (fun H1 locs1 h => kk _ H1 locs1 hf (by rw [← hw]; exact h))
theorem P_8_280 {ρ : Type} {r : ρ} (X : FX g p s m args meth c cc nL RX8 ret A) {H0 : Heap} (hG : GM g A H0 H locs bs) (j : Nat) {o : Nat} {ad : Nat → Nat} {st : MS} (hj : bs[j]? = some (wX8 g o ad st)) {x : Int32} {K : MS → Option ρ} (hf : bn (sp st 43 x) K = some r) (w : MS → List va_W) (hw : ∀ t, bs.set j (wX8 g o ad t) = w t) (hdg : decode cc pc = .ok (.putfield 280, 3)) (kk : ∀ (t : MS) (H1 : Heap) (locs1 : List Loc), K t = some r → GM g A H0 H1 locs1 (w t) → W p l e R s m args below meth c H1 locs1 cells slots Q (F0 m (pc + 3) ls rest)) : W p l e R s m args below meth c H locs cells slots Q (F0 m pc ls (.int x :: .ref o :: rest)) := r_put X hG j 0 hj rfl rfl 43 (by decide) inX8 tyX8 tyX8_ok nmX8 (TW_at 861 (by decide +kernel) (by decide +kernel)) rfl (ty := .int) rfl rfl rfl (Nat.le_of_ble_eq_true rfl) hdg (fun H1 locs1 h => kk _ H1 locs1 hf (by rw [← hw]; exact h))
theorem P_8_283 {ρ : Type} {r : ρ} (X : FX g p s m args meth c cc nL RX8 ret A) {H0 : Heap} (hG : GM g A H0 H locs bs) (j : Nat) {o : Nat} {ad : Nat → Nat} {st : MS} (hj : bs[j]? = some (wX8 g o ad st)) {x : Int32} {K : MS → Option ρ} (hf : bn (sp st 44 x) K = some r) (w : MS → List va_W) (hw : ∀ t, bs.set j (wX8 g o ad t) = w t) (hdg : decode cc pc = .ok (.putfield 283, 3)) (kk : ∀ (t : MS) (H1 : Heap) (locs1 : List Loc), K t = some r → GM g A H0 H1 locs1 (w t) → W p l e R s m args below meth c H1 locs1 cells slots Q (F0 m (pc + 3) ls rest)) : W p l e R s m args below meth c H locs cells slots Q (F0 m pc ls (.int x :: .ref o :: rest)) := r_put X hG j 0 hj rfl rfl 44 (by decide) inX8 tyX8 tyX8_ok nmX8 (TW_at 862 (by decide +kernel) (by decide +kernel)) rfl (ty := .int) rfl rfl rfl (Nat.le_of_ble_eq_true rfl) hdg (fun H1 locs1 h => kk _ H1 locs1 hf (by rw [← hw]; exact h))
theorem P_8_307 {ρ : Type} {r : ρ} (X : FX g p s m args meth c cc nL RX8 ret A) {H0 : Heap} (hG : GM g A H0 H locs bs) (j : Nat) {o : Nat} {ad : Nat → Nat} {st : MS} (hj : bs[j]? = some (wX8 g o ad st)) {x : Int32} {K : MS → Option ρ} (hf : bn (sp st 46 x) K = some r) (w : MS → List va_W) (hw : ∀ t, bs.set j (wX8 g o ad t) = w t) (hz : x = 0 ∨ x = 1) (hdg : decode cc pc = .ok (.putfield 307, 3)) (kk : ∀ (t : MS) (H1 : Heap) (locs1 : List Loc), K t = some r → GM g A H0 H1 locs1 (w t) → W p l e R s m args below meth c H1 locs1 cells slots Q (F0 m (pc + 3) ls rest)) : W p l e R s m args below meth c H locs cells slots Q (F0 m pc ls (.int x :: .ref o :: rest)) := r_put X hG j 0 hj rfl rfl 46 (by decide) inX8 tyX8 tyX8_ok nmX8 (TW_at 864 (by decide +kernel) (by decide +kernel)) rfl (ty := .boolean) rfl (by rcases hz with rfl | rfl <;> decide) (by rcases hz with rfl | rfl <;> decide) (Nat.le_of_ble_eq_true rfl) hdg (fun H1 locs1 h => kk _ H1 locs1 hf (by rw [← hw]; exact h))
theorem P_8_311 {ρ : Type} {r : ρ} (X : FX g p s m args meth c cc nL RX8 ret A) {H0 : Heap} (hG : GM g A H0 H locs bs) (j : Nat) {o : Nat} {ad : Nat → Nat} {st : MS} (hj : bs[j]? = some (wX8 g o ad st)) {x : Int32} {K : MS → Option ρ} (hf : bn (sp st 47 x) K = some r) (w : MS → List va_W) (hw : ∀ t, bs.set j (wX8 g o ad t) = w t) (hdg : decode cc pc = .ok (.putfield 311, 3)) (kk : ∀ (t : MS) (H1 : Heap) (locs1 : List Loc), K t = some r → GM g A H0 H1 locs1 (w t) → W p l e R s m args below meth c H1 locs1 cells slots Q (F0 m (pc + 3) ls rest)) : W p l e R s m args below meth c H locs cells slots Q (F0 m pc ls (.int x :: .ref o :: rest)) := r_put X hG j 0 hj rfl rfl 47 (by decide) inX8 tyX8 tyX8_ok nmX8 (TW_at 865 (by decide +kernel) (by decide +kernel)) rfl (ty := .int) rfl rfl rfl (Nat.le_of_ble_eq_true rfl) hdg (fun H1 locs1 h => kk _ H1 locs1 hf (by rw [← hw]; exact h))
theorem P_8_314 {ρ : Type} {r : ρ} (X : FX g p s m args meth c cc nL RX8 ret A) {H0 : Heap} (hG : GM g A H0 H locs bs) (j : Nat) {o : Nat} {ad : Nat → Nat} {st : MS} (hj : bs[j]? = some (wX8 g o ad st)) {x : Int32} {K : MS → Option ρ} (hf : bn (sp st 48 x) K = some r) (w : MS → List va_W) (hw : ∀ t, bs.set j (wX8 g o ad t) = w t) (hdg : decode cc pc = .ok (.putfield 314, 3)) (kk : ∀ (t : MS) (H1 : Heap) (locs1 : List Loc), K t = some r → GM g A H0 H1 locs1 (w t) → W p l e R s m args below meth c H1 locs1 cells slots Q (F0 m (pc + 3) ls rest)) : W p l e R s m args below meth c H locs cells slots Q (F0 m pc ls (.int x :: .ref o :: rest)) := r_put X hG j 0 hj rfl rfl 48 (by decide) inX8 tyX8 tyX8_ok nmX8 (TW_at 866 (by decide +kernel) (by decide +kernel)) rfl (ty := .int) rfl rfl rfl (Nat.le_of_ble_eq_true rfl) hdg (fun H1 locs1 h => kk _ H1 locs1 hf (by rw [← hw]; exact h))
theorem P_8_317 {ρ : Type} {r : ρ} (X : FX g p s m args meth c cc nL RX8 ret A) {H0 : Heap} (hG : GM g A H0 H locs bs) (j : Nat) {o : Nat} {ad : Nat → Nat} {st : MS} (hj : bs[j]? = some (wX8 g o ad st)) {x : Int32} {K : MS → Option ρ} (hf : bn (sp st 49 x) K = some r) (w : MS → List va_W) (hw : ∀ t, bs.set j (wX8 g o ad t) = w t) (hdg : decode cc pc = .ok (.putfield 317, 3)) (kk : ∀ (t : MS) (H1 : Heap) (locs1 : List Loc), K t = some r → GM g A H0 H1 locs1 (w t) → W p l e R s m args below meth c H1 locs1 cells slots Q (F0 m (pc + 3) ls rest)) : W p l e R s m args below meth c H locs cells slots Q (F0 m pc ls (.int x :: .ref o :: rest)) := r_put X hG j 0 hj rfl rfl 49 (by decide) inX8 tyX8 tyX8_ok nmX8 (TW_at 867 (by decide +kernel) (by decide +kernel)) rfl (ty := .int) rfl rfl rfl (Nat.le_of_ble_eq_true rfl) hdg (fun H1 locs1 h => kk _ H1 locs1 hf (by rw [← hw]; exact h))
theorem P_8_320 {ρ : Type} {r : ρ} (X : FX g p s m args meth c cc nL RX8 ret A) {H0 : Heap} (hG : GM g A H0 H locs bs) (j : Nat) {o : Nat} {ad : Nat → Nat} {st : MS} (hj : bs[j]? = some (wX8 g o ad st)) {x : Int32} {K : MS → Option ρ} (hf : bn (sp st 50 x) K = some r) (w : MS → List va_W) (hw : ∀ t, bs.set j (wX8 g o ad t) = w t) (hdg : decode cc pc = .ok (.putfield 320, 3)) (kk : ∀ (t : MS) (H1 : Heap) (locs1 : List Loc), K t = some r → GM g A H0 H1 locs1 (w t) → W p l e R s m args below meth c H1 locs1 cells slots Q (F0 m (pc + 3) ls rest)) : W p l e R s m args below meth c H locs cells slots Q (F0 m pc ls (.int x :: .ref o :: rest)) := r_put X hG j 0 hj rfl rfl 50 (by decide) inX8 tyX8 tyX8_ok nmX8 (TW_at 868 (by decide +kernel) (by decide +kernel)) rfl (ty := .int) rfl rfl rfl (Nat.le_of_ble_eq_true rfl) hdg (fun H1 locs1 h => kk _ H1 locs1 hf (by rw [← hw]; exact h))
theorem P_8_323 {ρ : Type} {r : ρ} (X : FX g p s m args meth c cc nL RX8 ret A) {H0 : Heap} (hG : GM g A H0 H locs bs) (j : Nat) {o : Nat} {ad : Nat → Nat} {st : MS} (hj : bs[j]? = some (wX8 g o ad st)) {x : Int32} {K : MS → Option ρ} (hf : bn (sp st 51 x) K = some r) (w : MS → List va_W) (hw : ∀ t, bs.set j (wX8 g o ad t) = w t) (hdg : decode cc pc = .ok (.putfield 323, 3)) (kk : ∀ (t : MS) (H1 : Heap) (locs1 : List Loc), K t = some r → GM g A H0 H1 locs1 (w t) → W p l e R s m args below meth c H1 locs1 cells slots Q (F0 m (pc + 3) ls rest)) : W p l e R s m args below meth c H locs cells slots Q (F0 m pc ls (.int x :: .ref o :: rest)) := r_put X hG j 0 hj rfl rfl 51 (by decide) inX8 tyX8 tyX8_ok nmX8 (TW_at 869 (by decide +kernel) (by decide +kernel)) rfl (ty := .int) rfl rfl rfl (Nat.le_of_ble_eq_true rfl) hdg (fun H1 locs1 h => kk _ H1 locs1 hf (by rw [← hw]; exact h))
theorem P_8_43 {ρ : Type} {r : ρ} (X : FX g p s m args meth c cc nL RX8 ret A) {H0 : Heap} (hG : GM g A H0 H locs bs) (j : Nat) {o : Nat} {ad : Nat → Nat} {st : MS} (hj : bs[j]? = some (wX8 g o ad st)) {x : Int32} {K : MS → Option ρ} (hf : bn (sp st 15 x) K = some r) (w : MS → List va_W) (hw : ∀ t, bs.set j (wX8 g o ad t) = w t) (hdg : decode cc pc = .ok (.putfield 43, 3)) (kk : ∀ (t : MS) (H1 : Heap) (locs1 : List Loc), K t = some r → GM g A H0 H1 locs1 (w t) → W p l e R s m args below meth c H1 locs1 cells slots Q (F0 m (pc + 3) ls rest)) : W p l e R s m args below meth c H locs cells slots Q (F0 m pc ls (.int x :: .ref o :: rest)) := r_put X hG j 0 hj rfl rfl 15 (by decide) inX8 tyX8 tyX8_ok nmX8 (TW_at 833 (by decide +kernel) (by decide +kernel)) rfl (ty := .int) rfl rfl rfl (Nat.le_of_ble_eq_true rfl) hdg (fun H1 locs1 h => kk _ H1 locs1 hf (by rw [← hw]; exact h))
theorem P_8_47 {ρ : Type} {r : ρ} (X : FX g p s m args meth c cc nL RX8 ret A) {H0 : Heap} (hG : GM g A H0 H locs bs) (j : Nat) {o : Nat} {ad : Nat → Nat} {st : MS} (hj : bs[j]? = some (wX8 g o ad st)) {x : Int32} {K : MS → Option ρ} (hf : bn (sp st 16 x) K = some r) (w : MS → List va_W) (hw : ∀ t, bs.set j (wX8 g o ad t) = w t) (hdg : decode cc pc = .ok (.putfield 47, 3)) (kk : ∀ (t : MS) (H1 : Heap) (locs1 : List Loc), K t = some r → GM g A H0 H1 locs1 (w t) → W p l e R s m args below meth c H1 locs1 cells slots Q (F0 m (pc + 3) ls rest)) : W p l e R s m args below meth c H locs cells slots Q (F0 m pc ls (.int x :: .ref o :: rest)) := r_put X hG j 0 hj rfl rfl 16 (by decide) inX8 tyX8 tyX8_ok nmX8 (TW_at 834 (by decide +kernel) (by decide +kernel)) rfl (ty := .int) rfl rfl rfl (Nat.le_of_ble_eq_true rfl) hdg (fun H1 locs1 h => kk _ H1 locs1 hf (by rw [← hw]; exact h))
theorem P_8_50 {ρ : Type} {r : ρ} (X : FX g p s m args meth c cc nL RX8 ret A) {H0 : Heap} (hG : GM g A H0 H locs bs) (j : Nat) {o : Nat} {ad : Nat → Nat} {st : MS} (hj : bs[j]? = some (wX8 g o ad st)) {x : Int32} {K : MS → Option ρ} (hf : bn (sp st 18 x) K = some r) (w : MS → List va_W) (hw : ∀ t, bs.set j (wX8 g o ad t) = w t) (hdg : decode cc pc = .ok (.putfield 50, 3)) (kk : ∀ (t : MS) (H1 : Heap) (locs1 : List Loc), K t = some r → GM g A H0 H1 locs1 (w t) → W p l e R s m args below meth c H1 locs1 cells slots Q (F0 m (pc + 3) ls rest)) : W p l e R s m args below meth c H locs cells slots Q (F0 m pc ls (.int x :: .ref o :: rest)) := r_put X hG j 0 hj rfl rfl 18 (by decide) inX8 tyX8 tyX8_ok nmX8 (TW_at 836 (by decide +kernel) (by decide +kernel)) rfl (ty := .int) rfl rfl rfl (Nat.le_of_ble_eq_true rfl) hdg (fun H1 locs1 h => kk _ H1 locs1 hf (by rw [← hw]; exact h))
theorem P_8_57 {ρ : Type} {r : ρ} (X : FX g p s m args meth c cc nL RX8 ret A) {H0 : Heap} (hG : GM g A H0 H locs bs) (j : Nat) {o : Nat} {ad : Nat → Nat} {st : MS} (hj : bs[j]? = some (wX8 g o ad st)) {x : Int32} {K : MS → Option ρ} (hf : bn (sp st 21 x) K = some r) (w : MS → List va_W) (hw : ∀ t, bs.set j (wX8 g o ad t) = w t) (hdg : decode cc pc = .ok (.putfield 57, 3)) (kk : ∀ (t : MS) (H1 : Heap) (locs1 : List Loc), K t = some r → GM g A H0 H1 locs1 (w t) → W p l e R s m args below meth c H1 locs1 cells slots Q (F0 m (pc + 3) ls rest)) : W p l e R s m args below meth c H locs cells slots Q (F0 m pc ls (.int x :: .ref o :: rest)) := r_put X hG j 0 hj rfl rfl 21 (by decide) inX8 tyX8 tyX8_ok nmX8 (TW_at 839 (by decide +kernel) (by decide +kernel)) rfl (ty := .int) rfl rfl rfl (Nat.le_of_ble_eq_true rfl) hdg (fun H1 locs1 h => kk _ H1 locs1 hf (by rw [← hw]; exact h))
end RL
theorem kl_8_302 : Cond.constantLong RX8 302 (-4611686018427387904) ∈ TW := TW_at 1188 (by decide +kernel) (by decide +kernel)
theorem lk_X8_addStep : LKC yX8_addStep cX8_addStep 3 none 2 := ⟨TW_at 1101 (by decide +kernel) (by decide +kernel), TW_at 72 (by decide +kernel) (by decide +kernel), by decide +kernel, by decide +kernel, by decide +kernel⟩
theorem lk_X8_all : LKC yX8_all cX8_all 1 none 0 := ⟨TW_at 1089 (by decide +kernel) (by decide +kernel), TW_at 72 (by decide +kernel) (by decide +kernel), by decide +kernel, by decide +kernel, by decide +kernel⟩
theorem lk_X8_allUp : LKC yX8_allUp cX8_allUp 3 (some .int) 0 := ⟨TW_at 1247 (by decide +kernel) (by decide +kernel), TW_at 72 (by decide +kernel) (by decide +kernel), by decide +kernel, by decide +kernel, by decide +kernel⟩
theorem lk_X8_asks : LKC yX8_asks cX8_asks 4 (some .int) 2 := ⟨TW_at 1047 (by decide +kernel) (by decide +kernel), TW_at 72 (by decide +kernel) (by decide +kernel), by decide +kernel, by decide +kernel, by decide +kernel⟩
theorem lk_X8_calls : LKC yX8_calls cX8_calls 5 (some .int) 2 := ⟨TW_at 1043 (by decide +kernel) (by decide +kernel), TW_at 72 (by decide +kernel) (by decide +kernel), by decide +kernel, by decide +kernel, by decide +kernel⟩
theorem lk_X8_day : LKC yX8_day cX8_day 4 none 2 := ⟨TW_at 1129 (by decide +kernel) (by decide +kernel), TW_at 72 (by decide +kernel) (by decide +kernel), by decide +kernel, by decide +kernel, by decide +kernel⟩
theorem lk_X8_denied : LKC yX8_denied cX8_denied 2 none 0 := ⟨TW_at 1093 (by decide +kernel) (by decide +kernel), TW_at 72 (by decide +kernel) (by decide +kernel), by decide +kernel, by decide +kernel, by decide +kernel⟩
theorem lk_X8_either : LKC yX8_either cX8_either 1 none 0 := ⟨TW_at 1085 (by decide +kernel) (by decide +kernel), TW_at 72 (by decide +kernel) (by decide +kernel), by decide +kernel, by decide +kernel, by decide +kernel⟩
theorem lk_X8_faulty : LKC yX8_faulty cX8_faulty 1 none 0 := ⟨TW_at 1081 (by decide +kernel) (by decide +kernel), TW_at 72 (by decide +kernel) (by decide +kernel), by decide +kernel, by decide +kernel, by decide +kernel⟩
theorem lk_X8_findFacts : LKC yX8_findFacts cX8_findFacts 6 none 5 := ⟨TW_at 1141 (by decide +kernel) (by decide +kernel), TW_at 72 (by decide +kernel) (by decide +kernel), by decide +kernel, by decide +kernel, by decide +kernel⟩
theorem lk_X8_gives : LKC yX8_gives cX8_gives 5 (some .int) 1 := ⟨TW_at 1145 (by decide +kernel) (by decide +kernel), TW_at 72 (by decide +kernel) (by decide +kernel), by decide +kernel, by decide +kernel, by decide +kernel⟩
theorem lk_X8_goMinute : LKC yX8_goMinute cX8_goMinute 6 none 2 := ⟨TW_at 1133 (by decide +kernel) (by decide +kernel), TW_at 72 (by decide +kernel) (by decide +kernel), by decide +kernel, by decide +kernel, by decide +kernel⟩
theorem lk_X8_goes : LKC yX8_goes cX8_goes 3 (some .boolean) 2 := ⟨TW_at 1155 (by decide +kernel) (by decide +kernel), TW_at 72 (by decide +kernel) (by decide +kernel), by decide +kernel, by decide +kernel, by decide +kernel⟩
theorem lk_X8_harmOf : LKC yX8_harmOf cX8_harmOf 7 (some .long) 1 := ⟨TW_at 1187 (by decide +kernel) (by decide +kernel), TW_at 72 (by decide +kernel) (by decide +kernel), by decide +kernel, by decide +kernel, by decide +kernel⟩
theorem lk_X8_held : LKC yX8_held cX8_held 3 (some .int) 3 := ⟨TW_at 1151 (by decide +kernel) (by decide +kernel), TW_at 72 (by decide +kernel) (by decide +kernel), by decide +kernel, by decide +kernel, by decide +kernel⟩
theorem lk_X8_in : LKC yX8_in cX8_in 3 (some .boolean) 3 := ⟨TW_at 1008 (by decide +kernel) (by decide +kernel), TW_at 72 (by decide +kernel) (by decide +kernel), by decide +kernel, by decide +kernel, by decide +kernel⟩
theorem lk_X8_isAhead : LKC yX8_isAhead cX8_isAhead 6 (some .boolean) 5 := ⟨TW_at 1171 (by decide +kernel) (by decide +kernel), TW_at 72 (by decide +kernel) (by decide +kernel), by decide +kernel, by decide +kernel, by decide +kernel⟩
theorem lk_X8_isDigit : LKC yX8_isDigit cX8_isDigit 1 (some .boolean) 1 := ⟨TW_at 1069 (by decide +kernel) (by decide +kernel), TW_at 72 (by decide +kernel) (by decide +kernel), by decide +kernel, by decide +kernel, by decide +kernel⟩
theorem lk_X8_isKey : LKC yX8_isKey cX8_isKey 2 (some .boolean) 1 := ⟨TW_at 1077 (by decide +kernel) (by decide +kernel), TW_at 72 (by decide +kernel) (by decide +kernel), by decide +kernel, by decide +kernel, by decide +kernel⟩
theorem lk_X8_isLetter : LKC yX8_isLetter cX8_isLetter 1 (some .boolean) 1 := ⟨TW_at 1062 (by decide +kernel) (by decide +kernel), TW_at 72 (by decide +kernel) (by decide +kernel), by decide +kernel, by decide +kernel, by decide +kernel⟩
theorem lk_X8_isMinute : LKC yX8_isMinute cX8_isMinute 1 (some .boolean) 1 := ⟨TW_at 1015 (by decide +kernel) (by decide +kernel), TW_at 72 (by decide +kernel) (by decide +kernel), by decide +kernel, by decide +kernel, by decide +kernel⟩
theorem lk_X8_isSheet : LKC yX8_isSheet cX8_isSheet 1 (some .boolean) 1 := ⟨TW_at 1231 (by decide +kernel) (by decide +kernel), TW_at 72 (by decide +kernel) (by decide +kernel), by decide +kernel, by decide +kernel, by decide +kernel⟩
theorem lk_X8_isShut : LKC yX8_isShut cX8_isShut 2 (some .boolean) 1 := ⟨TW_at 1159 (by decide +kernel) (by decide +kernel), TW_at 72 (by decide +kernel) (by decide +kernel), by decide +kernel, by decide +kernel, by decide +kernel⟩
theorem lk_X8_isSign : LKC yX8_isSign cX8_isSign 2 (some .boolean) 1 := ⟨TW_at 1117 (by decide +kernel) (by decide +kernel), TW_at 72 (by decide +kernel) (by decide +kernel), by decide +kernel, by decide +kernel, by decide +kernel⟩
theorem lk_X8_isSort : LKC yX8_isSort cX8_isSort 2 (some .boolean) 1 := ⟨TW_at 1027 (by decide +kernel) (by decide +kernel), TW_at 72 (by decide +kernel) (by decide +kernel), by decide +kernel, by decide +kernel, by decide +kernel⟩
theorem lk_X8_isUnder : LKC yX8_isUnder cX8_isUnder 2 (some .boolean) 2 := ⟨TW_at 1271 (by decide +kernel) (by decide +kernel), TW_at 72 (by decide +kernel) (by decide +kernel), by decide +kernel, by decide +kernel, by decide +kernel⟩
theorem lk_X8_isWay : LKC yX8_isWay cX8_isWay 2 (some .boolean) 1 := ⟨TW_at 1039 (by decide +kernel) (by decide +kernel), TW_at 72 (by decide +kernel) (by decide +kernel), by decide +kernel, by decide +kernel, by decide +kernel⟩
theorem lk_X8_leftOf : LKC yX8_leftOf cX8_leftOf 2 (some .int) 1 := ⟨TW_at 1179 (by decide +kernel) (by decide +kernel), TW_at 72 (by decide +kernel) (by decide +kernel), by decide +kernel, by decide +kernel, by decide +kernel⟩
theorem lk_X8_leftOfAll : LKC yX8_leftOfAll cX8_leftOfAll 3 (some .int) 0 := ⟨TW_at 1175 (by decide +kernel) (by decide +kernel), TW_at 72 (by decide +kernel) (by decide +kernel), by decide +kernel, by decide +kernel, by decide +kernel⟩
theorem lk_X8_load : LKC yX8_load cX8_load 8 none 4 := ⟨TW_at 1167 (by decide +kernel) (by decide +kernel), TW_at 72 (by decide +kernel) (by decide +kernel), by decide +kernel, by decide +kernel, by decide +kernel⟩
theorem lk_X8_next : LKC yX8_next cX8_next 2 none 0 := ⟨TW_at 1059 (by decide +kernel) (by decide +kernel), TW_at 72 (by decide +kernel) (by decide +kernel), by decide +kernel, by decide +kernel, by decide +kernel⟩
theorem lk_X8_one : LKC yX8_one cX8_one 1 none 0 := ⟨TW_at 1113 (by decide +kernel) (by decide +kernel), TW_at 72 (by decide +kernel) (by decide +kernel), by decide +kernel, by decide +kernel, by decide +kernel⟩
theorem lk_X8_opens : LKC yX8_opens cX8_opens 1 (some .boolean) 0 := ⟨TW_at 1097 (by decide +kernel) (by decide +kernel), TW_at 72 (by decide +kernel) (by decide +kernel), by decide +kernel, by decide +kernel, by decide +kernel⟩
theorem lk_X8_orderOf : LKC yX8_orderOf cX8_orderOf 2 (some .int) 1 := ⟨TW_at 1163 (by decide +kernel) (by decide +kernel), TW_at 72 (by decide +kernel) (by decide +kernel), by decide +kernel, by decide +kernel, by decide +kernel⟩
theorem lk_X8_people : LKC yX8_people cX8_people 3 (some .int) 2 := ⟨TW_at 1005 (by decide +kernel) (by decide +kernel), TW_at 72 (by decide +kernel) (by decide +kernel), by decide +kernel, by decide +kernel, by decide +kernel⟩
theorem lk_X8_rule : LKC yX8_rule cX8_rule 2 none 1 := ⟨TW_at 1073 (by decide +kernel) (by decide +kernel), TW_at 72 (by decide +kernel) (by decide +kernel), by decide +kernel, by decide +kernel, by decide +kernel⟩
theorem lk_X8_sum : LKC yX8_sum cX8_sum 2 none 0 := ⟨TW_at 1105 (by decide +kernel) (by decide +kernel), TW_at 72 (by decide +kernel) (by decide +kernel), by decide +kernel, by decide +kernel, by decide +kernel⟩
theorem lk_X8_term : LKC yX8_term cX8_term 1 none 0 := ⟨TW_at 1109 (by decide +kernel) (by decide +kernel), TW_at 72 (by decide +kernel) (by decide +kernel), by decide +kernel, by decide +kernel, by decide +kernel⟩
theorem lk_X8_twoOf : LKC yX8_twoOf cX8_twoOf 3 (some .int) 3 := ⟨TW_at 1148 (by decide +kernel) (by decide +kernel), TW_at 72 (by decide +kernel) (by decide +kernel), by decide +kernel, by decide +kernel, by decide +kernel⟩
theorem lk_X8_waitingNow : LKC yX8_waitingNow cX8_waitingNow 3 (some .int) 0 := ⟨TW_at 1137 (by decide +kernel) (by decide +kernel), TW_at 72 (by decide +kernel) (by decide +kernel), by decide +kernel, by decide +kernel, by decide +kernel⟩
theorem lk_X8_wordNow : LKC yX8_wordNow cX8_wordNow 5 (some .int) 0 := ⟨TW_at 1066 (by decide +kernel) (by decide +kernel), TW_at 72 (by decide +kernel) (by decide +kernel), by decide +kernel, by decide +kernel, by decide +kernel⟩
theorem ls_X8_held : Cond.static yX8_held ∈ TW := TW_at 1150 (by decide +kernel) (by decide +kernel)
theorem ls_X8_in : Cond.static yX8_in ∈ TW := TW_at 1007 (by decide +kernel) (by decide +kernel)
theorem ls_X8_isDigit : Cond.static yX8_isDigit ∈ TW := TW_at 1068 (by decide +kernel) (by decide +kernel)
theorem ls_X8_isLetter : Cond.static yX8_isLetter ∈ TW := TW_at 1061 (by decide +kernel) (by decide +kernel)
theorem ls_X8_isMinute : Cond.static yX8_isMinute ∈ TW := TW_at 1014 (by decide +kernel) (by decide +kernel)
theorem ls_X8_isSheet : Cond.static yX8_isSheet ∈ TW := TW_at 1230 (by decide +kernel) (by decide +kernel)
theorem ls_X8_isUnder : Cond.static yX8_isUnder ∈ TW := TW_at 1270 (by decide +kernel) (by decide +kernel)
theorem ls_X8_twoOf : Cond.static yX8_twoOf ∈ TW := TW_at 1147 (by decide +kernel) (by decide +kernel)
theorem lv_X8_addStep : LKV yX8_addStep RX8 := ⟨TW_at 1100 (by decide +kernel) (by decide +kernel), TW_at 39 (by decide +kernel) (by decide +kernel)⟩
theorem lv_X8_all : LKV yX8_all RX8 := ⟨TW_at 1088 (by decide +kernel) (by decide +kernel), TW_at 36 (by decide +kernel) (by decide +kernel)⟩
theorem lv_X8_allUp : LKV yX8_allUp RX8 := ⟨TW_at 1246 (by decide +kernel) (by decide +kernel), TW_at 57 (by decide +kernel) (by decide +kernel)⟩
theorem lv_X8_asks : LKV yX8_asks RX8 := ⟨TW_at 1046 (by decide +kernel) (by decide +kernel), TW_at 29 (by decide +kernel) (by decide +kernel)⟩
theorem lv_X8_calls : LKV yX8_calls RX8 := ⟨TW_at 1042 (by decide +kernel) (by decide +kernel), TW_at 28 (by decide +kernel) (by decide +kernel)⟩
theorem lv_X8_day : LKV yX8_day RX8 := ⟨TW_at 1128 (by decide +kernel) (by decide +kernel), TW_at 44 (by decide +kernel) (by decide +kernel)⟩
theorem lv_X8_denied : LKV yX8_denied RX8 := ⟨TW_at 1092 (by decide +kernel) (by decide +kernel), TW_at 37 (by decide +kernel) (by decide +kernel)⟩
theorem lv_X8_either : LKV yX8_either RX8 := ⟨TW_at 1084 (by decide +kernel) (by decide +kernel), TW_at 35 (by decide +kernel) (by decide +kernel)⟩
theorem lv_X8_faulty : LKV yX8_faulty RX8 := ⟨TW_at 1080 (by decide +kernel) (by decide +kernel), TW_at 34 (by decide +kernel) (by decide +kernel)⟩
theorem lv_X8_findFacts : LKV yX8_findFacts RX8 := ⟨TW_at 1140 (by decide +kernel) (by decide +kernel), TW_at 47 (by decide +kernel) (by decide +kernel)⟩
theorem lv_X8_gives : LKV yX8_gives RX8 := ⟨TW_at 1144 (by decide +kernel) (by decide +kernel), TW_at 48 (by decide +kernel) (by decide +kernel)⟩
theorem lv_X8_goMinute : LKV yX8_goMinute RX8 := ⟨TW_at 1132 (by decide +kernel) (by decide +kernel), TW_at 45 (by decide +kernel) (by decide +kernel)⟩
theorem lv_X8_goes : LKV yX8_goes RX8 := ⟨TW_at 1154 (by decide +kernel) (by decide +kernel), TW_at 49 (by decide +kernel) (by decide +kernel)⟩
theorem lv_X8_harmOf : LKV yX8_harmOf RX8 := ⟨TW_at 1186 (by decide +kernel) (by decide +kernel), TW_at 56 (by decide +kernel) (by decide +kernel)⟩
theorem lv_X8_isAhead : LKV yX8_isAhead RX8 := ⟨TW_at 1170 (by decide +kernel) (by decide +kernel), TW_at 53 (by decide +kernel) (by decide +kernel)⟩
theorem lv_X8_isKey : LKV yX8_isKey RX8 := ⟨TW_at 1076 (by decide +kernel) (by decide +kernel), TW_at 33 (by decide +kernel) (by decide +kernel)⟩
theorem lv_X8_isShut : LKV yX8_isShut RX8 := ⟨TW_at 1158 (by decide +kernel) (by decide +kernel), TW_at 50 (by decide +kernel) (by decide +kernel)⟩
theorem lv_X8_isSign : LKV yX8_isSign RX8 := ⟨TW_at 1116 (by decide +kernel) (by decide +kernel), TW_at 43 (by decide +kernel) (by decide +kernel)⟩
theorem lv_X8_isSort : LKV yX8_isSort RX8 := ⟨TW_at 1026 (by decide +kernel) (by decide +kernel), TW_at 26 (by decide +kernel) (by decide +kernel)⟩
theorem lv_X8_isWay : LKV yX8_isWay RX8 := ⟨TW_at 1038 (by decide +kernel) (by decide +kernel), TW_at 27 (by decide +kernel) (by decide +kernel)⟩
theorem lv_X8_leftOf : LKV yX8_leftOf RX8 := ⟨TW_at 1178 (by decide +kernel) (by decide +kernel), TW_at 55 (by decide +kernel) (by decide +kernel)⟩
theorem lv_X8_leftOfAll : LKV yX8_leftOfAll RX8 := ⟨TW_at 1174 (by decide +kernel) (by decide +kernel), TW_at 54 (by decide +kernel) (by decide +kernel)⟩
theorem lv_X8_load : LKV yX8_load RX8 := ⟨TW_at 1166 (by decide +kernel) (by decide +kernel), TW_at 52 (by decide +kernel) (by decide +kernel)⟩
theorem lv_X8_next : LKV yX8_next RX8 := ⟨TW_at 1058 (by decide +kernel) (by decide +kernel), TW_at 30 (by decide +kernel) (by decide +kernel)⟩
theorem lv_X8_one : LKV yX8_one RX8 := ⟨TW_at 1112 (by decide +kernel) (by decide +kernel), TW_at 42 (by decide +kernel) (by decide +kernel)⟩
theorem lv_X8_opens : LKV yX8_opens RX8 := ⟨TW_at 1096 (by decide +kernel) (by decide +kernel), TW_at 38 (by decide +kernel) (by decide +kernel)⟩
theorem lv_X8_orderOf : LKV yX8_orderOf RX8 := ⟨TW_at 1162 (by decide +kernel) (by decide +kernel), TW_at 51 (by decide +kernel) (by decide +kernel)⟩
theorem lv_X8_people : LKV yX8_people RX8 := ⟨TW_at 1003 (by decide +kernel) (by decide +kernel), TW_at 1004 (by decide +kernel) (by decide +kernel)⟩
theorem lv_X8_rule : LKV yX8_rule RX8 := ⟨TW_at 1072 (by decide +kernel) (by decide +kernel), TW_at 32 (by decide +kernel) (by decide +kernel)⟩
theorem lv_X8_sum : LKV yX8_sum RX8 := ⟨TW_at 1104 (by decide +kernel) (by decide +kernel), TW_at 40 (by decide +kernel) (by decide +kernel)⟩
theorem lv_X8_term : LKV yX8_term RX8 := ⟨TW_at 1108 (by decide +kernel) (by decide +kernel), TW_at 41 (by decide +kernel) (by decide +kernel)⟩
theorem lv_X8_waitingNow : LKV yX8_waitingNow RX8 := ⟨TW_at 1136 (by decide +kernel) (by decide +kernel), TW_at 46 (by decide +kernel) (by decide +kernel)⟩
theorem lv_X8_wordNow : LKV yX8_wordNow RX8 := ⟨TW_at 1065 (by decide +kernel) (by decide +kernel), TW_at 31 (by decide +kernel) (by decide +kernel)⟩
theorem ml_8_132 : Cond.methodLink RX8 132 yX8_in ∈ TW := TW_at 1006 (by decide +kernel) (by decide +kernel)
theorem ml_8_139 : Cond.methodLink RX8 139 yX8_isMinute ∈ TW := TW_at 1013 (by decide +kernel) (by decide +kernel)
theorem ml_8_146 : Cond.methodLink RX8 146 yX8_isSort ∈ TW := TW_at 1024 (by decide +kernel) (by decide +kernel)
theorem ml_8_152 : Cond.methodLink RX8 152 yX8_isWay ∈ TW := TW_at 1036 (by decide +kernel) (by decide +kernel)
theorem ml_8_155 : Cond.methodLink RX8 155 yX8_calls ∈ TW := TW_at 1040 (by decide +kernel) (by decide +kernel)
theorem ml_8_159 : Cond.methodLink RX8 159 yX8_asks ∈ TW := TW_at 1044 (by decide +kernel) (by decide +kernel)
theorem ml_8_174 : Cond.methodLink RX8 174 yX8_isLetter ∈ TW := TW_at 1060 (by decide +kernel) (by decide +kernel)
theorem ml_8_177 : Cond.methodLink RX8 177 yX8_wordNow ∈ TW := TW_at 1063 (by decide +kernel) (by decide +kernel)
theorem ml_8_184 : Cond.methodLink RX8 184 yX8_isDigit ∈ TW := TW_at 1067 (by decide +kernel) (by decide +kernel)
theorem ml_8_196 : Cond.methodLink RX8 196 yX8_faulty ∈ TW := TW_at 1078 (by decide +kernel) (by decide +kernel)
theorem ml_8_199 : Cond.methodLink RX8 199 yX8_next ∈ TW := TW_at 1056 (by decide +kernel) (by decide +kernel)
theorem ml_8_202 : Cond.methodLink RX8 202 yX8_all ∈ TW := TW_at 1086 (by decide +kernel) (by decide +kernel)
theorem ml_8_205 : Cond.methodLink RX8 205 yX8_isKey ∈ TW := TW_at 1074 (by decide +kernel) (by decide +kernel)
theorem ml_8_208 : Cond.methodLink RX8 208 yX8_addStep ∈ TW := TW_at 1098 (by decide +kernel) (by decide +kernel)
theorem ml_8_212 : Cond.methodLink RX8 212 yX8_denied ∈ TW := TW_at 1090 (by decide +kernel) (by decide +kernel)
theorem ml_8_215 : Cond.methodLink RX8 215 yX8_opens ∈ TW := TW_at 1094 (by decide +kernel) (by decide +kernel)
theorem ml_8_219 : Cond.methodLink RX8 219 yX8_sum ∈ TW := TW_at 1102 (by decide +kernel) (by decide +kernel)
theorem ml_8_222 : Cond.methodLink RX8 222 yX8_isSign ∈ TW := TW_at 1114 (by decide +kernel) (by decide +kernel)
theorem ml_8_225 : Cond.methodLink RX8 225 yX8_term ∈ TW := TW_at 1106 (by decide +kernel) (by decide +kernel)
theorem ml_8_228 : Cond.methodLink RX8 228 yX8_one ∈ TW := TW_at 1110 (by decide +kernel) (by decide +kernel)
theorem ml_8_231 : Cond.methodLink RX8 231 yX8_either ∈ TW := TW_at 1082 (by decide +kernel) (by decide +kernel)
theorem ml_8_234 : Cond.methodLink RX8 234 yX8_rule ∈ TW := TW_at 1070 (by decide +kernel) (by decide +kernel)
theorem ml_8_241 : Cond.methodLink RX8 241 yX8_twoOf ∈ TW := TW_at 1146 (by decide +kernel) (by decide +kernel)
theorem ml_8_245 : Cond.methodLink RX8 245 yX8_isShut ∈ TW := TW_at 1156 (by decide +kernel) (by decide +kernel)
theorem ml_8_248 : Cond.methodLink RX8 248 yX8_isAhead ∈ TW := TW_at 1168 (by decide +kernel) (by decide +kernel)
theorem ml_8_252 : Cond.methodLink RX8 252 yX8_waitingNow ∈ TW := TW_at 1134 (by decide +kernel) (by decide +kernel)
theorem ml_8_255 : Cond.methodLink RX8 255 yX8_findFacts ∈ TW := TW_at 1138 (by decide +kernel) (by decide +kernel)
theorem ml_8_259 : Cond.methodLink RX8 259 yX8_gives ∈ TW := TW_at 1142 (by decide +kernel) (by decide +kernel)
theorem ml_8_263 : Cond.methodLink RX8 263 yX8_held ∈ TW := TW_at 1149 (by decide +kernel) (by decide +kernel)
theorem ml_8_269 : Cond.methodLink RX8 269 yX8_goes ∈ TW := TW_at 1152 (by decide +kernel) (by decide +kernel)
theorem ml_8_273 : Cond.methodLink RX8 273 yX8_orderOf ∈ TW := TW_at 1160 (by decide +kernel) (by decide +kernel)
theorem ml_8_276 : Cond.methodLink RX8 276 yX8_load ∈ TW := TW_at 1164 (by decide +kernel) (by decide +kernel)
theorem ml_8_286 : Cond.methodLink RX8 286 yX8_goMinute ∈ TW := TW_at 1130 (by decide +kernel) (by decide +kernel)
theorem ml_8_289 : Cond.methodLink RX8 289 yX8_leftOf ∈ TW := TW_at 1176 (by decide +kernel) (by decide +kernel)
theorem ml_8_292 : Cond.methodLink RX8 292 yX8_day ∈ TW := TW_at 1126 (by decide +kernel) (by decide +kernel)
theorem ml_8_295 : Cond.methodLink RX8 295 yX8_leftOfAll ∈ TW := TW_at 1172 (by decide +kernel) (by decide +kernel)
theorem ml_8_298 : Cond.methodLink RX8 298 yX8_harmOf ∈ TW := TW_at 1184 (by decide +kernel) (by decide +kernel)
theorem ml_8_304 : Cond.methodLink RX8 304 yX8_isSheet ∈ TW := TW_at 1229 (by decide +kernel) (by decide +kernel)
theorem ml_8_326 : Cond.methodLink RX8 326 yX8_allUp ∈ TW := TW_at 1244 (by decide +kernel) (by decide +kernel)
theorem ml_8_329 : Cond.methodLink RX8 329 yX8_people ∈ TW := TW_at 1264 (by decide +kernel) (by decide +kernel)
theorem ml_8_332 : Cond.methodLink RX8 332 yX8_isUnder ∈ TW := TW_at 1269 (by decide +kernel) (by decide +kernel)
end
