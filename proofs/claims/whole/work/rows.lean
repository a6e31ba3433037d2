section
theorem zz_mna : True := by
  have _ := @Jvm.Stand.multianewarray2F
  trivial
-- ===== PART A: goes FIRST, ahead of the names: the tables' words, and 'selects' of the private methods out of them =====
/-- a private method of a class that the tables say can be made, by its rows of tables_1 -/
def lw_okq (q : MethodName × Nat) : Prop := (q.1.cls ≠ "java/lang/invoke/MethodHandle" ∧ q.1.cls ≠ "java/lang/invoke/VarHandle") ∧ Cond.instantiable q.1.cls q.2 ∈ tables_1 ∧ Cond.privateMethod q.1 ∈ tables_1 ∧ Cond.instanceMethod q.1 ∈ tables_1
theorem lw_p0 : lw_okq (⟨"LampCave", "found", "(I)I"⟩, 15) := ⟨⟨by decide +kernel, by decide +kernel⟩, List.mem_of_getElem? (i := 12) (by decide +kernel), List.mem_of_getElem? (i := 273) (by decide +kernel), List.mem_of_getElem? (i := 274) (by decide +kernel)⟩
theorem lw_p1 : lw_okq (⟨"LampCave", "placeRefusal", "(II)I"⟩, 15) := ⟨⟨by decide +kernel, by decide +kernel⟩, List.mem_of_getElem? (i := 12) (by decide +kernel), List.mem_of_getElem? (i := 281) (by decide +kernel), List.mem_of_getElem? (i := 282) (by decide +kernel)⟩
theorem lw_p2 : lw_okq (⟨"LampCave", "rowRefusal", "(I)I"⟩, 15) := ⟨⟨by decide +kernel, by decide +kernel⟩, List.mem_of_getElem? (i := 12) (by decide +kernel), List.mem_of_getElem? (i := 285) (by decide +kernel), List.mem_of_getElem? (i := 286) (by decide +kernel)⟩
theorem lw_p3 : lw_okq (⟨"LampCave", "textRefusal", "(I)I"⟩, 15) := ⟨⟨by decide +kernel, by decide +kernel⟩, List.mem_of_getElem? (i := 12) (by decide +kernel), List.mem_of_getElem? (i := 325) (by decide +kernel), List.mem_of_getElem? (i := 326) (by decide +kernel)⟩
theorem lw_p4 : lw_okq (⟨"LampCave$Reader", "readHead", "(LLampCave$Cave;)V"⟩, 4) := ⟨⟨by decide +kernel, by decide +kernel⟩, List.mem_of_getElem? (i := 102) (by decide +kernel), List.mem_of_getElem? (i := 344) (by decide +kernel), List.mem_of_getElem? (i := 345) (by decide +kernel)⟩
theorem lw_p5 : lw_okq (⟨"LampCave$Reader", "skipBlanks", "()V"⟩, 4) := ⟨⟨by decide +kernel, by decide +kernel⟩, List.mem_of_getElem? (i := 102) (by decide +kernel), List.mem_of_getElem? (i := 348) (by decide +kernel), List.mem_of_getElem? (i := 349) (by decide +kernel)⟩
theorem lw_p6 : lw_okq (⟨"LampCave$Reader", "sign", "()I"⟩, 4) := ⟨⟨by decide +kernel, by decide +kernel⟩, List.mem_of_getElem? (i := 102) (by decide +kernel), List.mem_of_getElem? (i := 352) (by decide +kernel), List.mem_of_getElem? (i := 353) (by decide +kernel)⟩
theorem lw_p7 : lw_okq (⟨"LampCave$Reader", "take", "(Z)V"⟩, 4) := ⟨⟨by decide +kernel, by decide +kernel⟩, List.mem_of_getElem? (i := 102) (by decide +kernel), List.mem_of_getElem? (i := 356) (by decide +kernel), List.mem_of_getElem? (i := 357) (by decide +kernel)⟩
theorem lw_p8 : lw_okq (⟨"LampCave$Reader", "figure", "(II)I"⟩, 4) := ⟨⟨by decide +kernel, by decide +kernel⟩, List.mem_of_getElem? (i := 102) (by decide +kernel), List.mem_of_getElem? (i := 360) (by decide +kernel), List.mem_of_getElem? (i := 361) (by decide +kernel)⟩
theorem lw_p9 : lw_okq (⟨"LampCave$Reader", "readOne", "(LLampCave$Cave;I)V"⟩, 4) := ⟨⟨by decide +kernel, by decide +kernel⟩, List.mem_of_getElem? (i := 102) (by decide +kernel), List.mem_of_getElem? (i := 364) (by decide +kernel), List.mem_of_getElem? (i := 365) (by decide +kernel)⟩
theorem lw_p10 : lw_okq (⟨"LampCave", "forgetKept", "()V"⟩, 15) := ⟨⟨by decide +kernel, by decide +kernel⟩, List.mem_of_getElem? (i := 12) (by decide +kernel), List.mem_of_getElem? (i := 380) (by decide +kernel), List.mem_of_getElem? (i := 381) (by decide +kernel)⟩
theorem lw_p11 : lw_okq (⟨"LampCave", "isOne", "(I)Z"⟩, 15) := ⟨⟨by decide +kernel, by decide +kernel⟩, List.mem_of_getElem? (i := 12) (by decide +kernel), List.mem_of_getElem? (i := 389) (by decide +kernel), List.mem_of_getElem? (i := 390) (by decide +kernel)⟩
theorem lw_p12 : lw_okq (⟨"LampCave", "ofPerson", "(II)I"⟩, 15) := ⟨⟨by decide +kernel, by decide +kernel⟩, List.mem_of_getElem? (i := 12) (by decide +kernel), List.mem_of_getElem? (i := 393) (by decide +kernel), List.mem_of_getElem? (i := 394) (by decide +kernel)⟩
theorem lw_p13 : lw_okq (⟨"LampCave$Aside", "seatTogether", "(II)V"⟩, 17) := ⟨⟨by decide +kernel, by decide +kernel⟩, List.mem_of_getElem? (i := 121) (by decide +kernel), List.mem_of_getElem? (i := 414) (by decide +kernel), List.mem_of_getElem? (i := 415) (by decide +kernel)⟩
theorem lw_p14 : lw_okq (⟨"LampCave$Aside", "countCalmBeside", "()V"⟩, 17) := ⟨⟨by decide +kernel, by decide +kernel⟩, List.mem_of_getElem? (i := 121) (by decide +kernel), List.mem_of_getElem? (i := 422) (by decide +kernel), List.mem_of_getElem? (i := 423) (by decide +kernel)⟩
theorem lw_p15 : lw_okq (⟨"LampCave$Aside", "showsMost", "(I)I"⟩, 17) := ⟨⟨by decide +kernel, by decide +kernel⟩, List.mem_of_getElem? (i := 121) (by decide +kernel), List.mem_of_getElem? (i := 498) (by decide +kernel), List.mem_of_getElem? (i := 499) (by decide +kernel)⟩
def lw_privs_1 : List (MethodName × Nat) := [(⟨"LampCave", "found", "(I)I"⟩, 15), (⟨"LampCave", "placeRefusal", "(II)I"⟩, 15), (⟨"LampCave", "rowRefusal", "(I)I"⟩, 15), (⟨"LampCave", "textRefusal", "(I)I"⟩, 15), (⟨"LampCave$Reader", "readHead", "(LLampCave$Cave;)V"⟩, 4), (⟨"LampCave$Reader", "skipBlanks", "()V"⟩, 4), (⟨"LampCave$Reader", "sign", "()I"⟩, 4), (⟨"LampCave$Reader", "take", "(Z)V"⟩, 4), (⟨"LampCave$Reader", "figure", "(II)I"⟩, 4), (⟨"LampCave$Reader", "readOne", "(LLampCave$Cave;I)V"⟩, 4), (⟨"LampCave", "forgetKept", "()V"⟩, 15), (⟨"LampCave", "isOne", "(I)Z"⟩, 15), (⟨"LampCave", "ofPerson", "(II)I"⟩, 15), (⟨"LampCave$Aside", "seatTogether", "(II)V"⟩, 17), (⟨"LampCave$Aside", "countCalmBeside", "()V"⟩, 17), (⟨"LampCave$Aside", "showsMost", "(I)I"⟩, 17)]
theorem lw_r1 : ∀ q ∈ lw_privs_1, lw_okq q := List.forall_mem_cons.mpr ⟨lw_p0, List.forall_mem_cons.mpr ⟨lw_p1, List.forall_mem_cons.mpr ⟨lw_p2, List.forall_mem_cons.mpr ⟨lw_p3, List.forall_mem_cons.mpr ⟨lw_p4, List.forall_mem_cons.mpr ⟨lw_p5, List.forall_mem_cons.mpr ⟨lw_p6, List.forall_mem_cons.mpr ⟨lw_p7, List.forall_mem_cons.mpr ⟨lw_p8, List.forall_mem_cons.mpr ⟨lw_p9, List.forall_mem_cons.mpr ⟨lw_p10, List.forall_mem_cons.mpr ⟨lw_p11, List.forall_mem_cons.mpr ⟨lw_p12, List.forall_mem_cons.mpr ⟨lw_p13, List.forall_mem_cons.mpr ⟨lw_p14, List.forall_mem_cons.mpr ⟨lw_p15, fun _ h => absurd h List.not_mem_nil⟩⟩⟩⟩⟩⟩⟩⟩⟩⟩⟩⟩⟩⟩⟩⟩
theorem lw_p16 : lw_okq (⟨"LampCave", "passMinute", "(I)V"⟩, 15) := ⟨⟨by decide +kernel, by decide +kernel⟩, List.mem_of_getElem? (i := 12) (by decide +kernel), List.mem_of_getElem? (i := 504) (by decide +kernel), List.mem_of_getElem? (i := 505) (by decide +kernel)⟩
theorem lw_p17 : lw_okq (⟨"LampCave$Search", "start", "(LLampCave$Aside;)V"⟩, 6) := ⟨⟨by decide +kernel, by decide +kernel⟩, List.mem_of_getElem? (i := 189) (by decide +kernel), List.mem_of_getElem? (i := 642) (by decide +kernel), List.mem_of_getElem? (i := 643) (by decide +kernel)⟩
theorem lw_p18 : lw_okq (⟨"LampCave$Search", "handFrom", "(LLampCave$Aside;I)V"⟩, 6) := ⟨⟨by decide +kernel, by decide +kernel⟩, List.mem_of_getElem? (i := 189) (by decide +kernel), List.mem_of_getElem? (i := 647) (by decide +kernel), List.mem_of_getElem? (i := 648) (by decide +kernel)⟩
theorem lw_p19 : lw_okq (⟨"LampCave$Search", "weigh", "(LLampCave$Aside;I)V"⟩, 6) := ⟨⟨by decide +kernel, by decide +kernel⟩, List.mem_of_getElem? (i := 189) (by decide +kernel), List.mem_of_getElem? (i := 651) (by decide +kernel), List.mem_of_getElem? (i := 652) (by decide +kernel)⟩
theorem lw_p20 : lw_okq (⟨"LampCave$Search", "isSettled", "()Z"⟩, 6) := ⟨⟨by decide +kernel, by decide +kernel⟩, List.mem_of_getElem? (i := 189) (by decide +kernel), List.mem_of_getElem? (i := 658) (by decide +kernel), List.mem_of_getElem? (i := 659) (by decide +kernel)⟩
theorem lw_p21 : lw_okq (⟨"LampCave", "fillRow", "(I[II)V"⟩, 15) := ⟨⟨by decide +kernel, by decide +kernel⟩, List.mem_of_getElem? (i := 12) (by decide +kernel), List.mem_of_getElem? (i := 667) (by decide +kernel), List.mem_of_getElem? (i := 668) (by decide +kernel)⟩
theorem lw_p22 : lw_okq (⟨"LampCave", "sitByNumbers", "()V"⟩, 15) := ⟨⟨by decide +kernel, by decide +kernel⟩, List.mem_of_getElem? (i := 12) (by decide +kernel), List.mem_of_getElem? (i := 686) (by decide +kernel), List.mem_of_getElem? (i := 687) (by decide +kernel)⟩
theorem lw_p23 : lw_okq (⟨"LampCave", "holdingAsSeated", "()I"⟩, 15) := ⟨⟨by decide +kernel, by decide +kernel⟩, List.mem_of_getElem? (i := 12) (by decide +kernel), List.mem_of_getElem? (i := 690) (by decide +kernel), List.mem_of_getElem? (i := 691) (by decide +kernel)⟩
theorem lw_p24 : lw_okq (⟨"LampCave", "nextSeating", "()Z"⟩, 15) := ⟨⟨by decide +kernel, by decide +kernel⟩, List.mem_of_getElem? (i := 12) (by decide +kernel), List.mem_of_getElem? (i := 698) (by decide +kernel), List.mem_of_getElem? (i := 699) (by decide +kernel)⟩
theorem lw_p25 : lw_okq (⟨"LampCave", "exchangeSeats", "(II)V"⟩, 15) := ⟨⟨by decide +kernel, by decide +kernel⟩, List.mem_of_getElem? (i := 12) (by decide +kernel), List.mem_of_getElem? (i := 702) (by decide +kernel), List.mem_of_getElem? (i := 703) (by decide +kernel)⟩
theorem lw_p26 : lw_okq (⟨"LampCave", "handingsRefusal", "(I)I"⟩, 15) := ⟨⟨by decide +kernel, by decide +kernel⟩, List.mem_of_getElem? (i := 12) (by decide +kernel), List.mem_of_getElem? (i := 722) (by decide +kernel), List.mem_of_getElem? (i := 723) (by decide +kernel)⟩
theorem lw_p27 : lw_okq (⟨"LampCave", "allByLaw", "(I)Z"⟩, 15) := ⟨⟨by decide +kernel, by decide +kernel⟩, List.mem_of_getElem? (i := 12) (by decide +kernel), List.mem_of_getElem? (i := 731) (by decide +kernel), List.mem_of_getElem? (i := 732) (by decide +kernel)⟩
theorem lw_p28 : lw_okq (⟨"LampCave", "figuresThatFit", "(II[I)I"⟩, 15) := ⟨⟨by decide +kernel, by decide +kernel⟩, List.mem_of_getElem? (i := 12) (by decide +kernel), List.mem_of_getElem? (i := 739) (by decide +kernel), List.mem_of_getElem? (i := 740) (by decide +kernel)⟩
theorem lw_p29 : lw_okq (⟨"LampCave", "howMany", "(I)I"⟩, 15) := ⟨⟨by decide +kernel, by decide +kernel⟩, List.mem_of_getElem? (i := 12) (by decide +kernel), List.mem_of_getElem? (i := 780) (by decide +kernel), List.mem_of_getElem? (i := 781) (by decide +kernel)⟩
theorem lw_p30 : lw_okq (⟨"LampCave", "keptCaves", "()I"⟩, 15) := ⟨⟨by decide +kernel, by decide +kernel⟩, List.mem_of_getElem? (i := 12) (by decide +kernel), List.mem_of_getElem? (i := 784) (by decide +kernel), List.mem_of_getElem? (i := 785) (by decide +kernel)⟩
theorem lw_p31 : lw_okq (⟨"LampCave", "keptMinute", "(I)I"⟩, 15) := ⟨⟨by decide +kernel, by decide +kernel⟩, List.mem_of_getElem? (i := 12) (by decide +kernel), List.mem_of_getElem? (i := 788) (by decide +kernel), List.mem_of_getElem? (i := 789) (by decide +kernel)⟩
def lw_privs_2 : List (MethodName × Nat) := [(⟨"LampCave", "passMinute", "(I)V"⟩, 15), (⟨"LampCave$Search", "start", "(LLampCave$Aside;)V"⟩, 6), (⟨"LampCave$Search", "handFrom", "(LLampCave$Aside;I)V"⟩, 6), (⟨"LampCave$Search", "weigh", "(LLampCave$Aside;I)V"⟩, 6), (⟨"LampCave$Search", "isSettled", "()Z"⟩, 6), (⟨"LampCave", "fillRow", "(I[II)V"⟩, 15), (⟨"LampCave", "sitByNumbers", "()V"⟩, 15), (⟨"LampCave", "holdingAsSeated", "()I"⟩, 15), (⟨"LampCave", "nextSeating", "()Z"⟩, 15), (⟨"LampCave", "exchangeSeats", "(II)V"⟩, 15), (⟨"LampCave", "handingsRefusal", "(I)I"⟩, 15), (⟨"LampCave", "allByLaw", "(I)Z"⟩, 15), (⟨"LampCave", "figuresThatFit", "(II[I)I"⟩, 15), (⟨"LampCave", "howMany", "(I)I"⟩, 15), (⟨"LampCave", "keptCaves", "()I"⟩, 15), (⟨"LampCave", "keptMinute", "(I)I"⟩, 15)]
theorem lw_r2 : ∀ q ∈ lw_privs_2, lw_okq q := List.forall_mem_cons.mpr ⟨lw_p16, List.forall_mem_cons.mpr ⟨lw_p17, List.forall_mem_cons.mpr ⟨lw_p18, List.forall_mem_cons.mpr ⟨lw_p19, List.forall_mem_cons.mpr ⟨lw_p20, List.forall_mem_cons.mpr ⟨lw_p21, List.forall_mem_cons.mpr ⟨lw_p22, List.forall_mem_cons.mpr ⟨lw_p23, List.forall_mem_cons.mpr ⟨lw_p24, List.forall_mem_cons.mpr ⟨lw_p25, List.forall_mem_cons.mpr ⟨lw_p26, List.forall_mem_cons.mpr ⟨lw_p27, List.forall_mem_cons.mpr ⟨lw_p28, List.forall_mem_cons.mpr ⟨lw_p29, List.forall_mem_cons.mpr ⟨lw_p30, List.forall_mem_cons.mpr ⟨lw_p31, fun _ h => absurd h List.not_mem_nil⟩⟩⟩⟩⟩⟩⟩⟩⟩⟩⟩⟩⟩⟩⟩⟩
theorem lw_p32 : lw_okq (⟨"LampCave", "withRows", "(J)J"⟩, 15) := ⟨⟨by decide +kernel, by decide +kernel⟩, List.mem_of_getElem? (i := 12) (by decide +kernel), List.mem_of_getElem? (i := 809) (by decide +kernel), List.mem_of_getElem? (i := 810) (by decide +kernel)⟩
theorem lw_p33 : lw_okq (⟨"LampCave", "withTexts", "(J)J"⟩, 15) := ⟨⟨by decide +kernel, by decide +kernel⟩, List.mem_of_getElem? (i := 12) (by decide +kernel), List.mem_of_getElem? (i := 813) (by decide +kernel), List.mem_of_getElem? (i := 814) (by decide +kernel)⟩
theorem lw_p34 : lw_okq (⟨"LampCaveModel", "meet", "(I)I"⟩, 45) := ⟨⟨by decide +kernel, by decide +kernel⟩, List.mem_of_getElem? (i := 817) (by decide +kernel), List.mem_of_getElem? (i := 969) (by decide +kernel), List.mem_of_getElem? (i := 970) (by decide +kernel)⟩
theorem lw_p35 : lw_okq (⟨"LampCaveModel", "setRow", "(III)V"⟩, 45) := ⟨⟨by decide +kernel, by decide +kernel⟩, List.mem_of_getElem? (i := 817) (by decide +kernel), List.mem_of_getElem? (i := 973) (by decide +kernel), List.mem_of_getElem? (i := 974) (by decide +kernel)⟩
theorem lw_p36 : lw_okq (⟨"LampCaveModel", "askedRow", "(I)I"⟩, 45) := ⟨⟨by decide +kernel, by decide +kernel⟩, List.mem_of_getElem? (i := 817) (by decide +kernel), List.mem_of_getElem? (i := 981) (by decide +kernel), List.mem_of_getElem? (i := 982) (by decide +kernel)⟩
theorem lw_p37 : lw_okq (⟨"LampCaveModel", "rowAt", "(II)I"⟩, 45) := ⟨⟨by decide +kernel, by decide +kernel⟩, List.mem_of_getElem? (i := 817) (by decide +kernel), List.mem_of_getElem? (i := 985) (by decide +kernel), List.mem_of_getElem? (i := 986) (by decide +kernel)⟩
theorem lw_p38 : lw_okq (⟨"LampCaveModel", "ask", "(II)I"⟩, 45) := ⟨⟨by decide +kernel, by decide +kernel⟩, List.mem_of_getElem? (i := 817) (by decide +kernel), List.mem_of_getElem? (i := 989) (by decide +kernel), List.mem_of_getElem? (i := 990) (by decide +kernel)⟩
theorem lw_p39 : lw_okq (⟨"LampCaveModel", "askedText", "(I)I"⟩, 45) := ⟨⟨by decide +kernel, by decide +kernel⟩, List.mem_of_getElem? (i := 817) (by decide +kernel), List.mem_of_getElem? (i := 1021) (by decide +kernel), List.mem_of_getElem? (i := 1022) (by decide +kernel)⟩
theorem lw_p40 : lw_okq (⟨"LampCaveModel", "goesOn", "(I)I"⟩, 45) := ⟨⟨by decide +kernel, by decide +kernel⟩, List.mem_of_getElem? (i := 817) (by decide +kernel), List.mem_of_getElem? (i := 1029) (by decide +kernel), List.mem_of_getElem? (i := 1030) (by decide +kernel)⟩
theorem lw_p41 : lw_okq (⟨"LampCaveModel", "here", "(I)I"⟩, 45) := ⟨⟨by decide +kernel, by decide +kernel⟩, List.mem_of_getElem? (i := 817) (by decide +kernel), List.mem_of_getElem? (i := 1033) (by decide +kernel), List.mem_of_getElem? (i := 1034) (by decide +kernel)⟩
theorem lw_p42 : lw_okq (⟨"LampCaveModel", "readsHead", "(I)Z"⟩, 45) := ⟨⟨by decide +kernel, by decide +kernel⟩, List.mem_of_getElem? (i := 817) (by decide +kernel), List.mem_of_getElem? (i := 1037) (by decide +kernel), List.mem_of_getElem? (i := 1038) (by decide +kernel)⟩
theorem lw_p43 : lw_okq (⟨"LampCaveModel", "figure", "(III)I"⟩, 45) := ⟨⟨by decide +kernel, by decide +kernel⟩, List.mem_of_getElem? (i := 817) (by decide +kernel), List.mem_of_getElem? (i := 1041) (by decide +kernel), List.mem_of_getElem? (i := 1042) (by decide +kernel)⟩
theorem lw_p44 : lw_okq (⟨"LampCaveModel", "readsPerson", "(I)Z"⟩, 45) := ⟨⟨by decide +kernel, by decide +kernel⟩, List.mem_of_getElem? (i := 817) (by decide +kernel), List.mem_of_getElem? (i := 1045) (by decide +kernel), List.mem_of_getElem? (i := 1046) (by decide +kernel)⟩
theorem lw_p45 : lw_okq (⟨"LampCaveModel", "isOne", "(I)Z"⟩, 45) := ⟨⟨by decide +kernel, by decide +kernel⟩, List.mem_of_getElem? (i := 817) (by decide +kernel), List.mem_of_getElem? (i := 1060) (by decide +kernel), List.mem_of_getElem? (i := 1061) (by decide +kernel)⟩
theorem lw_p46 : lw_okq (⟨"LampCaveModel", "personOf", "(II)I"⟩, 45) := ⟨⟨by decide +kernel, by decide +kernel⟩, List.mem_of_getElem? (i := 817) (by decide +kernel), List.mem_of_getElem? (i := 1064) (by decide +kernel), List.mem_of_getElem? (i := 1065) (by decide +kernel)⟩
theorem lw_p47 : lw_okq (⟨"LampCaveModel", "showsOf", "(I)I"⟩, 45) := ⟨⟨by decide +kernel, by decide +kernel⟩, List.mem_of_getElem? (i := 817) (by decide +kernel), List.mem_of_getElem? (i := 1068) (by decide +kernel), List.mem_of_getElem? (i := 1069) (by decide +kernel)⟩
def lw_privs_3 : List (MethodName × Nat) := [(⟨"LampCave", "withRows", "(J)J"⟩, 15), (⟨"LampCave", "withTexts", "(J)J"⟩, 15), (⟨"LampCaveModel", "meet", "(I)I"⟩, 45), (⟨"LampCaveModel", "setRow", "(III)V"⟩, 45), (⟨"LampCaveModel", "askedRow", "(I)I"⟩, 45), (⟨"LampCaveModel", "rowAt", "(II)I"⟩, 45), (⟨"LampCaveModel", "ask", "(II)I"⟩, 45), (⟨"LampCaveModel", "askedText", "(I)I"⟩, 45), (⟨"LampCaveModel", "goesOn", "(I)I"⟩, 45), (⟨"LampCaveModel", "here", "(I)I"⟩, 45), (⟨"LampCaveModel", "readsHead", "(I)Z"⟩, 45), (⟨"LampCaveModel", "figure", "(III)I"⟩, 45), (⟨"LampCaveModel", "readsPerson", "(I)Z"⟩, 45), (⟨"LampCaveModel", "isOne", "(I)Z"⟩, 45), (⟨"LampCaveModel", "personOf", "(II)I"⟩, 45), (⟨"LampCaveModel", "showsOf", "(I)I"⟩, 45)]
theorem lw_r3 : ∀ q ∈ lw_privs_3, lw_okq q := List.forall_mem_cons.mpr ⟨lw_p32, List.forall_mem_cons.mpr ⟨lw_p33, List.forall_mem_cons.mpr ⟨lw_p34, List.forall_mem_cons.mpr ⟨lw_p35, List.forall_mem_cons.mpr ⟨lw_p36, List.forall_mem_cons.mpr ⟨lw_p37, List.forall_mem_cons.mpr ⟨lw_p38, List.forall_mem_cons.mpr ⟨lw_p39, List.forall_mem_cons.mpr ⟨lw_p40, List.forall_mem_cons.mpr ⟨lw_p41, List.forall_mem_cons.mpr ⟨lw_p42, List.forall_mem_cons.mpr ⟨lw_p43, List.forall_mem_cons.mpr ⟨lw_p44, List.forall_mem_cons.mpr ⟨lw_p45, List.forall_mem_cons.mpr ⟨lw_p46, List.forall_mem_cons.mpr ⟨lw_p47, fun _ h => absurd h List.not_mem_nil⟩⟩⟩⟩⟩⟩⟩⟩⟩⟩⟩⟩⟩⟩⟩⟩
theorem lw_p48 : lw_okq (⟨"LampCaveModel", "isCalm", "(I)Z"⟩, 45) := ⟨⟨by decide +kernel, by decide +kernel⟩, List.mem_of_getElem? (i := 817) (by decide +kernel), List.mem_of_getElem? (i := 1079) (by decide +kernel), List.mem_of_getElem? (i := 1080) (by decide +kernel)⟩
theorem lw_p49 : lw_okq (⟨"LampCaveModel", "isBeside", "(II)Z"⟩, 45) := ⟨⟨by decide +kernel, by decide +kernel⟩, List.mem_of_getElem? (i := 817) (by decide +kernel), List.mem_of_getElem? (i := 1083) (by decide +kernel), List.mem_of_getElem? (i := 1084) (by decide +kernel)⟩
theorem lw_p50 : lw_okq (⟨"LampCaveModel", "isOver", "()Z"⟩, 45) := ⟨⟨by decide +kernel, by decide +kernel⟩, List.mem_of_getElem? (i := 817) (by decide +kernel), List.mem_of_getElem? (i := 1103) (by decide +kernel), List.mem_of_getElem? (i := 1104) (by decide +kernel)⟩
theorem lw_p51 : lw_okq (⟨"LampCaveModel", "screaming", "()I"⟩, 45) := ⟨⟨by decide +kernel, by decide +kernel⟩, List.mem_of_getElem? (i := 817) (by decide +kernel), List.mem_of_getElem? (i := 1107) (by decide +kernel), List.mem_of_getElem? (i := 1108) (by decide +kernel)⟩
theorem lw_p52 : lw_okq (⟨"LampCaveModel", "nextBy", "(I)I"⟩, 45) := ⟨⟨by decide +kernel, by decide +kernel⟩, List.mem_of_getElem? (i := 817) (by decide +kernel), List.mem_of_getElem? (i := 1111) (by decide +kernel), List.mem_of_getElem? (i := 1112) (by decide +kernel)⟩
theorem lw_p53 : lw_okq (⟨"LampCaveModel", "mostOf", "(I)I"⟩, 45) := ⟨⟨by decide +kernel, by decide +kernel⟩, List.mem_of_getElem? (i := 817) (by decide +kernel), List.mem_of_getElem? (i := 1115) (by decide +kernel), List.mem_of_getElem? (i := 1116) (by decide +kernel)⟩
theorem lw_p54 : lw_okq (⟨"LampCaveModel", "goMinute", "(I)V"⟩, 45) := ⟨⟨by decide +kernel, by decide +kernel⟩, List.mem_of_getElem? (i := 817) (by decide +kernel), List.mem_of_getElem? (i := 1119) (by decide +kernel), List.mem_of_getElem? (i := 1120) (by decide +kernel)⟩
theorem lw_p55 : lw_okq (⟨"LampCaveModel", "passMinute", "(I)V"⟩, 45) := ⟨⟨by decide +kernel, by decide +kernel⟩, List.mem_of_getElem? (i := 817) (by decide +kernel), List.mem_of_getElem? (i := 1123) (by decide +kernel), List.mem_of_getElem? (i := 1124) (by decide +kernel)⟩
theorem lw_p56 : lw_okq (⟨"LampCaveModel", "tellStory", "(I)V"⟩, 45) := ⟨⟨by decide +kernel, by decide +kernel⟩, List.mem_of_getElem? (i := 817) (by decide +kernel), List.mem_of_getElem? (i := 1151) (by decide +kernel), List.mem_of_getElem? (i := 1152) (by decide +kernel)⟩
theorem lw_p57 : lw_okq (⟨"LampCaveModel", "allFears", "()I"⟩, 45) := ⟨⟨by decide +kernel, by decide +kernel⟩, List.mem_of_getElem? (i := 817) (by decide +kernel), List.mem_of_getElem? (i := 1155) (by decide +kernel), List.mem_of_getElem? (i := 1156) (by decide +kernel)⟩
theorem lw_p58 : lw_okq (⟨"LampCaveModel", "holdsOf", "(I)I"⟩, 45) := ⟨⟨by decide +kernel, by decide +kernel⟩, List.mem_of_getElem? (i := 817) (by decide +kernel), List.mem_of_getElem? (i := 1175) (by decide +kernel), List.mem_of_getElem? (i := 1176) (by decide +kernel)⟩
theorem lw_p59 : lw_okq (⟨"LampCaveModel", "putAside", "()V"⟩, 45) := ⟨⟨by decide +kernel, by decide +kernel⟩, List.mem_of_getElem? (i := 817) (by decide +kernel), List.mem_of_getElem? (i := 1179) (by decide +kernel), List.mem_of_getElem? (i := 1180) (by decide +kernel)⟩
theorem lw_p60 : lw_okq (⟨"LampCaveModel", "comeBack", "()V"⟩, 45) := ⟨⟨by decide +kernel, by decide +kernel⟩, List.mem_of_getElem? (i := 817) (by decide +kernel), List.mem_of_getElem? (i := 1183) (by decide +kernel), List.mem_of_getElem? (i := 1184) (by decide +kernel)⟩
theorem lw_p61 : lw_okq (⟨"LampCaveModel", "setPast", "(I)V"⟩, 45) := ⟨⟨by decide +kernel, by decide +kernel⟩, List.mem_of_getElem? (i := 817) (by decide +kernel), List.mem_of_getElem? (i := 1199) (by decide +kernel), List.mem_of_getElem? (i := 1200) (by decide +kernel)⟩
theorem lw_p62 : lw_okq (⟨"LampCaveModel", "isPast", "(I)Z"⟩, 45) := ⟨⟨by decide +kernel, by decide +kernel⟩, List.mem_of_getElem? (i := 817) (by decide +kernel), List.mem_of_getElem? (i := 1203) (by decide +kernel), List.mem_of_getElem? (i := 1204) (by decide +kernel)⟩
theorem lw_p63 : lw_okq (⟨"LampCaveModel", "pass", "(II)V"⟩, 45) := ⟨⟨by decide +kernel, by decide +kernel⟩, List.mem_of_getElem? (i := 817) (by decide +kernel), List.mem_of_getElem? (i := 1214) (by decide +kernel), List.mem_of_getElem? (i := 1215) (by decide +kernel)⟩
def lw_privs_4 : List (MethodName × Nat) := [(⟨"LampCaveModel", "isCalm", "(I)Z"⟩, 45), (⟨"LampCaveModel", "isBeside", "(II)Z"⟩, 45), (⟨"LampCaveModel", "isOver", "()Z"⟩, 45), (⟨"LampCaveModel", "screaming", "()I"⟩, 45), (⟨"LampCaveModel", "nextBy", "(I)I"⟩, 45), (⟨"LampCaveModel", "mostOf", "(I)I"⟩, 45), (⟨"LampCaveModel", "goMinute", "(I)V"⟩, 45), (⟨"LampCaveModel", "passMinute", "(I)V"⟩, 45), (⟨"LampCaveModel", "tellStory", "(I)V"⟩, 45), (⟨"LampCaveModel", "allFears", "()I"⟩, 45), (⟨"LampCaveModel", "holdsOf", "(I)I"⟩, 45), (⟨"LampCaveModel", "putAside", "()V"⟩, 45), (⟨"LampCaveModel", "comeBack", "()V"⟩, 45), (⟨"LampCaveModel", "setPast", "(I)V"⟩, 45), (⟨"LampCaveModel", "isPast", "(I)Z"⟩, 45), (⟨"LampCaveModel", "pass", "(II)V"⟩, 45)]
theorem lw_r4 : ∀ q ∈ lw_privs_4, lw_okq q := List.forall_mem_cons.mpr ⟨lw_p48, List.forall_mem_cons.mpr ⟨lw_p49, List.forall_mem_cons.mpr ⟨lw_p50, List.forall_mem_cons.mpr ⟨lw_p51, List.forall_mem_cons.mpr ⟨lw_p52, List.forall_mem_cons.mpr ⟨lw_p53, List.forall_mem_cons.mpr ⟨lw_p54, List.forall_mem_cons.mpr ⟨lw_p55, List.forall_mem_cons.mpr ⟨lw_p56, List.forall_mem_cons.mpr ⟨lw_p57, List.forall_mem_cons.mpr ⟨lw_p58, List.forall_mem_cons.mpr ⟨lw_p59, List.forall_mem_cons.mpr ⟨lw_p60, List.forall_mem_cons.mpr ⟨lw_p61, List.forall_mem_cons.mpr ⟨lw_p62, List.forall_mem_cons.mpr ⟨lw_p63, fun _ h => absurd h List.not_mem_nil⟩⟩⟩⟩⟩⟩⟩⟩⟩⟩⟩⟩⟩⟩⟩⟩
theorem lw_p64 : lw_okq (⟨"LampCaveModel", "greatest", "()I"⟩, 45) := ⟨⟨by decide +kernel, by decide +kernel⟩, List.mem_of_getElem? (i := 817) (by decide +kernel), List.mem_of_getElem? (i := 1218) (by decide +kernel), List.mem_of_getElem? (i := 1219) (by decide +kernel)⟩
theorem lw_p65 : lw_okq (⟨"LampCaveModel", "longOn", "(I)V"⟩, 45) := ⟨⟨by decide +kernel, by decide +kernel⟩, List.mem_of_getElem? (i := 817) (by decide +kernel), List.mem_of_getElem? (i := 1230) (by decide +kernel), List.mem_of_getElem? (i := 1231) (by decide +kernel)⟩
theorem lw_p66 : lw_okq (⟨"LampCaveModel", "copyLaid", "(I)V"⟩, 45) := ⟨⟨by decide +kernel, by decide +kernel⟩, List.mem_of_getElem? (i := 817) (by decide +kernel), List.mem_of_getElem? (i := 1234) (by decide +kernel), List.mem_of_getElem? (i := 1235) (by decide +kernel)⟩
theorem lw_p67 : lw_okq (⟨"LampCaveModel", "putDepth", "(I)V"⟩, 45) := ⟨⟨by decide +kernel, by decide +kernel⟩, List.mem_of_getElem? (i := 817) (by decide +kernel), List.mem_of_getElem? (i := 1238) (by decide +kernel), List.mem_of_getElem? (i := 1239) (by decide +kernel)⟩
theorem lw_p68 : lw_okq (⟨"LampCaveModel", "backTo", "(I)V"⟩, 45) := ⟨⟨by decide +kernel, by decide +kernel⟩, List.mem_of_getElem? (i := 817) (by decide +kernel), List.mem_of_getElem? (i := 1242) (by decide +kernel), List.mem_of_getElem? (i := 1243) (by decide +kernel)⟩
theorem lw_p69 : lw_okq (⟨"LampCaveModel", "layBest", "(II)V"⟩, 45) := ⟨⟨by decide +kernel, by decide +kernel⟩, List.mem_of_getElem? (i := 817) (by decide +kernel), List.mem_of_getElem? (i := 1246) (by decide +kernel), List.mem_of_getElem? (i := 1247) (by decide +kernel)⟩
theorem lw_p70 : lw_okq (⟨"LampCaveModel", "calmOn", "(II)V"⟩, 45) := ⟨⟨by decide +kernel, by decide +kernel⟩, List.mem_of_getElem? (i := 817) (by decide +kernel), List.mem_of_getElem? (i := 1255) (by decide +kernel), List.mem_of_getElem? (i := 1256) (by decide +kernel)⟩
theorem lw_p71 : lw_okq (⟨"LampCaveModel", "orderOn", "(II)V"⟩, 45) := ⟨⟨by decide +kernel, by decide +kernel⟩, List.mem_of_getElem? (i := 817) (by decide +kernel), List.mem_of_getElem? (i := 1263) (by decide +kernel), List.mem_of_getElem? (i := 1264) (by decide +kernel)⟩
theorem lw_p72 : lw_okq (⟨"LampCaveModel", "holdsSo", "()I"⟩, 45) := ⟨⟨by decide +kernel, by decide +kernel⟩, List.mem_of_getElem? (i := 817) (by decide +kernel), List.mem_of_getElem? (i := 1267) (by decide +kernel), List.mem_of_getElem? (i := 1268) (by decide +kernel)⟩
theorem lw_p73 : lw_okq (⟨"LampCaveModel", "askedHandings", "(I)I"⟩, 45) := ⟨⟨by decide +kernel, by decide +kernel⟩, List.mem_of_getElem? (i := 817) (by decide +kernel), List.mem_of_getElem? (i := 1287) (by decide +kernel), List.mem_of_getElem? (i := 1288) (by decide +kernel)⟩
theorem lw_p74 : lw_okq (⟨"LampCaveModel", "judged", "(I)I"⟩, 45) := ⟨⟨by decide +kernel, by decide +kernel⟩, List.mem_of_getElem? (i := 817) (by decide +kernel), List.mem_of_getElem? (i := 1291) (by decide +kernel), List.mem_of_getElem? (i := 1292) (by decide +kernel)⟩
theorem lw_p75 : lw_okq (⟨"LampCaveModel", "askedOf", "(II)I"⟩, 45) := ⟨⟨by decide +kernel, by decide +kernel⟩, List.mem_of_getElem? (i := 817) (by decide +kernel), List.mem_of_getElem? (i := 1303) (by decide +kernel), List.mem_of_getElem? (i := 1304) (by decide +kernel)⟩
theorem lw_p76 : lw_okq (⟨"LampCaveModel", "allScreams", "()I"⟩, 45) := ⟨⟨by decide +kernel, by decide +kernel⟩, List.mem_of_getElem? (i := 817) (by decide +kernel), List.mem_of_getElem? (i := 1330) (by decide +kernel), List.mem_of_getElem? (i := 1331) (by decide +kernel)⟩
theorem lw_p77 : lw_okq (⟨"LampCaveModel", "tells", "(I)I"⟩, 45) := ⟨⟨by decide +kernel, by decide +kernel⟩, List.mem_of_getElem? (i := 817) (by decide +kernel), List.mem_of_getElem? (i := 1345) (by decide +kernel), List.mem_of_getElem? (i := 1346) (by decide +kernel)⟩
theorem lw_p78 : lw_okq (⟨"LampCaveModel", "mix", "(I)V"⟩, 45) := ⟨⟨by decide +kernel, by decide +kernel⟩, List.mem_of_getElem? (i := 817) (by decide +kernel), List.mem_of_getElem? (i := 1362) (by decide +kernel), List.mem_of_getElem? (i := 1363) (by decide +kernel)⟩
theorem lw_p79 : lw_okq (⟨"LampCaveModel", "mixCave", "()V"⟩, 45) := ⟨⟨by decide +kernel, by decide +kernel⟩, List.mem_of_getElem? (i := 817) (by decide +kernel), List.mem_of_getElem? (i := 1367) (by decide +kernel), List.mem_of_getElem? (i := 1368) (by decide +kernel)⟩
def lw_privs_5 : List (MethodName × Nat) := [(⟨"LampCaveModel", "greatest", "()I"⟩, 45), (⟨"LampCaveModel", "longOn", "(I)V"⟩, 45), (⟨"LampCaveModel", "copyLaid", "(I)V"⟩, 45), (⟨"LampCaveModel", "putDepth", "(I)V"⟩, 45), (⟨"LampCaveModel", "backTo", "(I)V"⟩, 45), (⟨"LampCaveModel", "layBest", "(II)V"⟩, 45), (⟨"LampCaveModel", "calmOn", "(II)V"⟩, 45), (⟨"LampCaveModel", "orderOn", "(II)V"⟩, 45), (⟨"LampCaveModel", "holdsSo", "()I"⟩, 45), (⟨"LampCaveModel", "askedHandings", "(I)I"⟩, 45), (⟨"LampCaveModel", "judged", "(I)I"⟩, 45), (⟨"LampCaveModel", "askedOf", "(II)I"⟩, 45), (⟨"LampCaveModel", "allScreams", "()I"⟩, 45), (⟨"LampCaveModel", "tells", "(I)I"⟩, 45), (⟨"LampCaveModel", "mix", "(I)V"⟩, 45), (⟨"LampCaveModel", "mixCave", "()V"⟩, 45)]
theorem lw_r5 : ∀ q ∈ lw_privs_5, lw_okq q := List.forall_mem_cons.mpr ⟨lw_p64, List.forall_mem_cons.mpr ⟨lw_p65, List.forall_mem_cons.mpr ⟨lw_p66, List.forall_mem_cons.mpr ⟨lw_p67, List.forall_mem_cons.mpr ⟨lw_p68, List.forall_mem_cons.mpr ⟨lw_p69, List.forall_mem_cons.mpr ⟨lw_p70, List.forall_mem_cons.mpr ⟨lw_p71, List.forall_mem_cons.mpr ⟨lw_p72, List.forall_mem_cons.mpr ⟨lw_p73, List.forall_mem_cons.mpr ⟨lw_p74, List.forall_mem_cons.mpr ⟨lw_p75, List.forall_mem_cons.mpr ⟨lw_p76, List.forall_mem_cons.mpr ⟨lw_p77, List.forall_mem_cons.mpr ⟨lw_p78, List.forall_mem_cons.mpr ⟨lw_p79, fun _ h => absurd h List.not_mem_nil⟩⟩⟩⟩⟩⟩⟩⟩⟩⟩⟩⟩⟩⟩⟩⟩
def lw_privs : List (MethodName × Nat) := lw_privs_1 ++ (lw_privs_2 ++ (lw_privs_3 ++ (lw_privs_4 ++ (lw_privs_5))))
def lw_tbl : List Cond := k2_sels lw_privs ++ tables_1
theorem lw_privs_ok : ∀ q ∈ lw_privs, lw_okq q := by
  show ∀ q ∈ lw_privs_1 ++ (lw_privs_2 ++ (lw_privs_3 ++ (lw_privs_4 ++ (lw_privs_5)))), lw_okq q
  exact List.forall_mem_append.mpr ⟨lw_r1, List.forall_mem_append.mpr ⟨lw_r2, List.forall_mem_append.mpr ⟨lw_r3, List.forall_mem_append.mpr ⟨lw_r4, lw_r5⟩⟩⟩⟩
end
section
def RA_c : String := "LampCave$Aside"
def TA_c : u_T := fun k => match k with
  | 0 => ("LampCave$Aside", "people", "I", false)
  | 1 => ("LampCave$Aside", "form", "I", false)
  | 2 => ("LampCave$Aside", "oil", "I", false)
  | 3 => ("LampCave$Aside", "endlessOil", "Z", false)
  | 4 => ("LampCave$Aside", "minute", "I", false)
  | 5 => ("LampCave$Aside", "last", "I", false)
  | 6 => ("LampCave$Aside", "liars", "I", false)
  | 7 => ("LampCave$Aside", "kind", "[I", true)
  | 8 => ("LampCave$Aside", "fear", "[I", true)
  | 9 => ("LampCave$Aside", "fearThen", "[I", true)
  | 10 => ("LampCave$Aside", "grows", "[I", true)
  | 11 => ("LampCave$Aside", "falls", "[I", true)
  | 12 => ("LampCave$Aside", "screams", "[I", true)
  | 13 => ("LampCave$Aside", "beside", "[I", true)
  | 14 => ("LampCave$Aside", "calmBeside", "[I", true)
  | 15 => ("LampCave$Aside", "holders", "[I", true)
  | _ => ("LampCave$Aside", "saved", "[I", true)
def tA_c : Nat → FieldType := fun k => match k with
  | 0 => .int
  | 1 => .int
  | 2 => .int
  | 3 => .boolean
  | 4 => .int
  | 5 => .int
  | 6 => .int
  | 7 => .array .int
  | 8 => .array .int
  | 9 => .array .int
  | 10 => .array .int
  | 11 => .array .int
  | 12 => .array .int
  | 13 => .array .int
  | 14 => .array .int
  | 15 => .array .int
  | _ => .array .int
theorem tA_ok : ∀ k, k < 17 → parseFieldDescriptor (TA_c k).2.2.1 = some (tA_c k) := by decide +kernel
theorem nA_ok : ∀ a, a < 17 → ∀ b, b < 17 → a ≠ b → (TA_c a).2.1 ≠ (TA_c b).2.1 := by decide +kernel
def RV_c : String := "LampCave$Cave"
def TV_c : u_T := fun k => match k with
  | 0 => ("LampCave$Cave", "people", "I", false)
  | 1 => ("LampCave$Cave", "form", "I", false)
  | 2 => ("LampCave$Cave", "law", "I", false)
  | 3 => ("LampCave$Cave", "oil", "I", false)
  | 4 => ("LampCave$Cave", "minute", "I", false)
  | 5 => ("LampCave$Cave", "kind", "[I", true)
  | 6 => ("LampCave$Cave", "fear", "[I", true)
  | 7 => ("LampCave$Cave", "grows", "[I", true)
  | 8 => ("LampCave$Cave", "falls", "[I", true)
  | 9 => ("LampCave$Cave", "screams", "[I", true)
  | 10 => ("LampCave$Cave", "holder", "[I", true)
  | 11 => ("LampCave$Cave", "oilAhead", "[I", true)
  | _ => ("LampCave$Cave", "fearAhead", "[I", true)
def tV_c : Nat → FieldType := fun k => match k with
  | 0 => .int
  | 1 => .int
  | 2 => .int
  | 3 => .int
  | 4 => .int
  | 5 => .array .int
  | 6 => .array .int
  | 7 => .array .int
  | 8 => .array .int
  | 9 => .array .int
  | 10 => .array .int
  | 11 => .array .int
  | _ => .array .int
theorem tV_ok : ∀ k, k < 13 → parseFieldDescriptor (TV_c k).2.2.1 = some (tV_c k) := by decide +kernel
theorem nV_ok : ∀ a, a < 13 → ∀ b, b < 13 → a ≠ b → (TV_c a).2.1 ≠ (TV_c b).2.1 := by decide +kernel
def RR_c : String := "LampCave$Reader"
def TR_c : u_T := fun k => match k with
  | 0 => ("LampCave$Reader", "signs", "[B", false)
  | 1 => ("LampCave$Reader", "size", "I", false)
  | 2 => ("LampCave$Reader", "place", "I", false)
  | _ => ("LampCave$Reader", "faultPlace", "I", false)
def tR_c : Nat → FieldType := fun k => match k with
  | 0 => .array .byte
  | 1 => .int
  | 2 => .int
  | _ => .int
theorem tR_ok : ∀ k, k < 4 → parseFieldDescriptor (TR_c k).2.2.1 = some (tR_c k) := by decide +kernel
theorem nR_ok : ∀ a, a < 4 → ∀ b, b < 4 → a ≠ b → (TR_c a).2.1 ≠ (TR_c b).2.1 := by decide +kernel
def RS_c : String := "LampCave$Search"
def TS_c : u_T := fun k => match k with
  | 0 => ("LampCave$Search", "path", "[I", true)
  | 1 => ("LampCave$Search", "forLength", "Z", false)
  | 2 => ("LampCave$Search", "goal", "I", false)
  | 3 => ("LampCave$Search", "best", "[I", true)
  | 4 => ("LampCave$Search", "bestLength", "I", false)
  | _ => ("LampCave$Search", "leastFear", "I", false)
def tS_c : Nat → FieldType := fun k => match k with
  | 0 => .array .int
  | 1 => .boolean
  | 2 => .int
  | 3 => .array .int
  | 4 => .int
  | _ => .int
theorem tS_ok : ∀ k, k < 6 → parseFieldDescriptor (TS_c k).2.2.1 = some (tS_c k) := by decide +kernel
theorem nS_ok : ∀ a, a < 6 → ∀ b, b < 6 → a ≠ b → (TS_c a).2.1 ≠ (TS_c b).2.1 := by decide +kernel
def RC_c : String := "LampCave"
def TC_c : u_T := fun k => match k with
  | 0 => ("LampCave", "rows", "[[I", true)
  | 1 => ("LampCave", "rowSize", "[I", true)
  | 2 => ("LampCave", "texts", "[[B", true)
  | 3 => ("LampCave", "textSize", "[I", true)
  | 4 => ("LampCave", "now", "LLampCave$Cave;", true)
  | 5 => ("LampCave", "draft", "LLampCave$Cave;", true)
  | 6 => ("LampCave", "kept", "[LLampCave$Cave;", true)
  | 7 => ("LampCave", "reader", "LLampCave$Reader;", true)
  | 8 => ("LampCave", "aside", "LLampCave$Aside;", true)
  | 9 => ("LampCave", "search", "LLampCave$Search;", true)
  | 10 => ("LampCave", "seats", "[I", true)
  | 11 => ("LampCave", "bestSeats", "[I", true)
  | 12 => ("LampCave", "findingTimes", "[I", true)
  | 13 => ("LampCave", "latestFinding", "I", false)
  | _ => ("LampCave", "told", "I", false)
def tC_c : Nat → FieldType := fun k => match k with
  | 0 => .array (.array .int)
  | 1 => .array .int
  | 2 => .array (.array .byte)
  | 3 => .array .int
  | 4 => .object "LampCave$Cave"
  | 5 => .object "LampCave$Cave"
  | 6 => .array (.object "LampCave$Cave")
  | 7 => .object "LampCave$Reader"
  | 8 => .object "LampCave$Aside"
  | 9 => .object "LampCave$Search"
  | 10 => .array .int
  | 11 => .array .int
  | 12 => .array .int
  | 13 => .int
  | _ => .int
theorem tC_ok : ∀ k, k < 15 → parseFieldDescriptor (TC_c k).2.2.1 = some (tC_c k) := by decide +kernel
theorem nC_ok : ∀ a, a < 15 → ∀ b, b < 15 → a ≠ b → (TC_c a).2.1 ≠ (TC_c b).2.1 := by decide +kernel
def RM_c : String := "LampCaveModel"
def TM_c : u_T := fun k => match k with
  | 0 => ("LampCaveModel", "finding", "I", false)
  | 1 => ("LampCaveModel", "findings", "[I", true)
  | 2 => ("LampCaveModel", "asked", "I", false)
  | 3 => ("LampCaveModel", "sizes", "[I", true)
  | 4 => ("LampCaveModel", "rows", "[I", true)
  | 5 => ("LampCaveModel", "moving", "[I", true)
  | 6 => ("LampCaveModel", "lengths", "[I", true)
  | 7 => ("LampCaveModel", "texts", "[I", true)
  | 8 => ("LampCaveModel", "many", "I", false)
  | 9 => ("LampCaveModel", "form", "I", false)
  | 10 => ("LampCaveModel", "law", "I", false)
  | 11 => ("LampCaveModel", "oil", "I", false)
  | 12 => ("LampCaveModel", "kinds", "[I", true)
  | 13 => ("LampCaveModel", "fears", "[I", true)
  | 14 => ("LampCaveModel", "grow", "[I", true)
  | 15 => ("LampCaveModel", "fall", "[I", true)
  | 16 => ("LampCaveModel", "scream", "[I", true)
  | 17 => ("LampCaveModel", "readAt", "I", false)
  | 18 => ("LampCaveModel", "readMany", "I", false)
  | 19 => ("LampCaveModel", "readForm", "I", false)
  | 20 => ("LampCaveModel", "readLaw", "I", false)
  | 21 => ("LampCaveModel", "readOil", "I", false)
  | 22 => ("LampCaveModel", "lying", "I", false)
  | 23 => ("LampCaveModel", "place", "[I", true)
  | 24 => ("LampCaveModel", "minute", "I", false)
  | 25 => ("LampCaveModel", "holder", "I", false)
  | 26 => ("LampCaveModel", "had", "[I", true)
  | 27 => ("LampCaveModel", "notes", "[I", true)
  | 28 => ("LampCaveModel", "then", "[I", true)
  | 29 => ("LampCaveModel", "kept", "[I", true)
  | 30 => ("LampCaveModel", "aside", "[I", true)
  | 31 => ("LampCaveModel", "screamed", "I", false)
  | 32 => ("LampCaveModel", "past", "[I", true)
  | 33 => ("LampCaveModel", "oftenMany", "I", false)
  | 34 => ("LampCaveModel", "depth", "[I", true)
  | 35 => ("LampCaveModel", "laid", "[I", true)
  | 36 => ("LampCaveModel", "bestLaid", "[I", true)
  | 37 => ("LampCaveModel", "bestMany", "I", false)
  | 38 => ("LampCaveModel", "bestFear", "I", false)
  | 39 => ("LampCaveModel", "seats", "[I", true)
  | 40 => ("LampCaveModel", "bestSeats", "[I", true)
  | 41 => ("LampCaveModel", "orderMost", "I", false)
  | 42 => ("LampCaveModel", "isAny", "Z", false)
  | 43 => ("LampCaveModel", "overAt", "I", false)
  | _ => ("LampCaveModel", "h0", "J", false)
def tM_c : Nat → FieldType := fun k => match k with
  | 0 => .int
  | 1 => .array .int
  | 2 => .int
  | 3 => .array .int
  | 4 => .array .int
  | 5 => .array .int
  | 6 => .array .int
  | 7 => .array .int
  | 8 => .int
  | 9 => .int
  | 10 => .int
  | 11 => .int
  | 12 => .array .int
  | 13 => .array .int
  | 14 => .array .int
  | 15 => .array .int
  | 16 => .array .int
  | 17 => .int
  | 18 => .int
  | 19 => .int
  | 20 => .int
  | 21 => .int
  | 22 => .int
  | 23 => .array .int
  | 24 => .int
  | 25 => .int
  | 26 => .array .int
  | 27 => .array .int
  | 28 => .array .int
  | 29 => .array .int
  | 30 => .array .int
  | 31 => .int
  | 32 => .array .int
  | 33 => .int
  | 34 => .array .int
  | 35 => .array .int
  | 36 => .array .int
  | 37 => .int
  | 38 => .int
  | 39 => .array .int
  | 40 => .array .int
  | 41 => .int
  | 42 => .boolean
  | 43 => .int
  | _ => .long
theorem tM_ok : ∀ k, k < 45 → parseFieldDescriptor (TM_c k).2.2.1 = some (tM_c k) := by decide +kernel
theorem nM_ok : ∀ a, a < 45 → ∀ b, b < 45 → a ≠ b → (TM_c a).2.1 ≠ (TM_c b).2.1 := by decide +kernel
def RL_c : String := "LampCaveLaw"
def RI_c : String := "java/lang/Integer"
def RH_c : String := "java/lang/Math"
def RY_c : String := "java/util/Arrays"
def RZ_c : String := "java/lang/System"
abbrev mj_cl : List vw_C := [(RA_c, TA_c, 17), (RV_c, TV_c, 13), (RR_c, TR_c, 4), (RS_c, TS_c, 6), (RC_c, TC_c, 15), (RM_c, TM_c, 45)]
def mj_ws : List Cond := lw_tbl.filter goodWord
theorem mj_in {w : Cond} {i : Nat} (h : lw_tbl[i]? = some w) (g : goodWord w = true) : w ∈ mj_ws := List.mem_filter.mpr ⟨List.mem_of_getElem? h, g⟩
theorem mj_of {w : Cond} (h : w ∈ mj_ws) : w ∈ lw_tbl ∧ goodWord w = true := List.mem_filter.mp h
theorem uA_in : ∀ w ∈ u_ws RA_c TA_c 17, w ∈ mj_ws := by
  have e : u_ws RA_c TA_c 17 = [233, 235, 237, 239, 241, 243, 245, 247, 249, 251, 253, 255, 257, 259, 261, 263, 265].filterMap (fun i => lw_tbl[i]?) := by decide +kernel
  have g : (u_ws RA_c TA_c 17).all goodWord = true := by decide +kernel
  intro w hw
  have hg := List.all_eq_true.mp g w hw
  rw [e] at hw
  obtain ⟨i, -, hi⟩ := List.mem_filterMap.mp hw
  exact mj_in hi hg
theorem uV_in : ∀ w ∈ u_ws RV_c TV_c 13, w ∈ mj_ws := by
  have e : u_ws RV_c TV_c 13 = [151, 153, 155, 157, 159, 161, 163, 165, 167, 169, 171, 173, 175].filterMap (fun i => lw_tbl[i]?) := by decide +kernel
  have g : (u_ws RV_c TV_c 13).all goodWord = true := by decide +kernel
  intro w hw
  have hg := List.all_eq_true.mp g w hw
  rw [e] at hw
  obtain ⟨i, -, hi⟩ := List.mem_filterMap.mp hw
  exact mj_in hi hg
theorem uR_in : ∀ w ∈ u_ws RR_c TR_c 4, w ∈ mj_ws := by
  have e : u_ws RR_c TR_c 4 = [191, 193, 195, 197].filterMap (fun i => lw_tbl[i]?) := by decide +kernel
  have g : (u_ws RR_c TR_c 4).all goodWord = true := by decide +kernel
  intro w hw
  have hg := List.all_eq_true.mp g w hw
  rw [e] at hw
  obtain ⟨i, -, hi⟩ := List.mem_filterMap.mp hw
  exact mj_in hi hg
theorem uS_in : ∀ w ∈ u_ws RS_c TS_c 6, w ∈ mj_ws := by
  have e : u_ws RS_c TS_c 6 = [283, 285, 287, 289, 291, 293].filterMap (fun i => lw_tbl[i]?) := by decide +kernel
  have g : (u_ws RS_c TS_c 6).all goodWord = true := by decide +kernel
  intro w hw
  have hg := List.all_eq_true.mp g w hw
  rw [e] at hw
  obtain ⟨i, -, hi⟩ := List.mem_filterMap.mp hw
  exact mj_in hi hg
theorem uC_in : ∀ w ∈ u_ws RC_c TC_c 15, w ∈ mj_ws := by
  have e : u_ws RC_c TC_c 15 = [314, 316, 318, 320, 322, 324, 326, 328, 330, 332, 334, 336, 338, 340, 342].filterMap (fun i => lw_tbl[i]?) := by decide +kernel
  have g : (u_ws RC_c TC_c 15).all goodWord = true := by decide +kernel
  intro w hw
  have hg := List.all_eq_true.mp g w hw
  rw [e] at hw
  obtain ⟨i, -, hi⟩ := List.mem_filterMap.mp hw
  exact mj_in hi hg
theorem uM_in : ∀ w ∈ u_ws RM_c TM_c 45, w ∈ mj_ws := by
  have e : u_ws RM_c TM_c 45 = [947, 949, 951, 953, 955, 957, 959, 961, 963, 965, 967, 969, 971, 973, 975, 977, 979, 981, 983, 985, 987, 989, 991, 993, 995, 997, 999, 1001, 1003, 1005, 1007, 1009, 1011, 1013, 1015, 1017, 1019, 1021, 1023, 1025, 1027, 1029, 1031, 1033, 1035].filterMap (fun i => lw_tbl[i]?) := by decide +kernel
  have g : (u_ws RM_c TM_c 45).all goodWord = true := by decide +kernel
  intro w hw
  have hg := List.all_eq_true.mp g w hw
  rw [e] at hw
  obtain ⟨i, -, hi⟩ := List.mem_filterMap.mp hw
  exact mj_in hi hg
def mj_M (y : MethodName) (b : ByteArray) (mL n : Nat) (ret : Option FieldType) : Prop := Cond.code y b mL ret ∈ mj_ws ∧ Cond.initialized y.cls ∈ mj_ws ∧ (y.cls ≠ "java/lang/invoke/MethodHandle" ∧ y.cls ≠ "java/lang/invoke/VarHandle" ∧ (parseMethodDescriptor y.desc).map (fun d => d.parameters.length) = some n) ∧ plainName y.cls = true ∧ mL ≤ 41
abbrev bC_init : ByteArray := prog_1_method_1_code
def yC_init : MethodName := ⟨RC_c, "<init>", "()V"⟩
theorem mC_init : mj_M yC_init bC_init 1 0 none := ⟨mj_in (i := 95) (by decide +kernel) (by decide +kernel), mj_in (i := 81) (by decide +kernel) (by decide +kernel), ⟨by decide +kernel, by decide +kernel, by decide +kernel⟩, by decide +kernel, by decide +kernel⟩
abbrev bV_init : ByteArray := prog_3_method_1_code
def yV_init : MethodName := ⟨RV_c, "<init>", "()V"⟩
theorem mV_init : mj_M yV_init bV_init 1 0 none := ⟨mj_in (i := 107) (by decide +kernel) (by decide +kernel), mj_in (i := 82) (by decide +kernel) (by decide +kernel), ⟨by decide +kernel, by decide +kernel, by decide +kernel⟩, by decide +kernel, by decide +kernel⟩
abbrev bR_init : ByteArray := prog_4_method_1_code
def yR_init : MethodName := ⟨RR_c, "<init>", "()V"⟩
theorem mR_init : mj_M yR_init bR_init 1 0 none := ⟨mj_in (i := 185) (by decide +kernel) (by decide +kernel), mj_in (i := 83) (by decide +kernel) (by decide +kernel), ⟨by decide +kernel, by decide +kernel, by decide +kernel⟩, by decide +kernel, by decide +kernel⟩
abbrev bA_init : ByteArray := prog_2_method_1_code
def yA_init : MethodName := ⟨RA_c, "<init>", "()V"⟩
theorem mA_init : mj_M yA_init bA_init 1 0 none := ⟨mj_in (i := 204) (by decide +kernel) (by decide +kernel), mj_in (i := 84) (by decide +kernel) (by decide +kernel), ⟨by decide +kernel, by decide +kernel, by decide +kernel⟩, by decide +kernel, by decide +kernel⟩
abbrev bS_init : ByteArray := prog_5_method_1_code
def yS_init : MethodName := ⟨RS_c, "<init>", "()V"⟩
theorem mS_init : mj_M yS_init bS_init 1 0 none := ⟨mj_in (i := 272) (by decide +kernel) (by decide +kernel), mj_in (i := 85) (by decide +kernel) (by decide +kernel), ⟨by decide +kernel, by decide +kernel, by decide +kernel⟩, by decide +kernel, by decide +kernel⟩
abbrev bY_fillI : ByteArray := prog_11_method_103_code
def yY_fillI : MethodName := ⟨RY_c, "fill", "([II)V"⟩
theorem mY_fillI : mj_M yY_fillI bY_fillI 4 2 none := ⟨mj_in (i := 298) (by decide +kernel) (by decide +kernel), mj_in (i := 86) (by decide +kernel) (by decide +kernel), ⟨by decide +kernel, by decide +kernel, by decide +kernel⟩, by decide +kernel, by decide +kernel⟩
abbrev bC_row : ByteArray := prog_1_method_2_code
def yC_row : MethodName := ⟨RC_c, "row", "(II)I"⟩
theorem mC_row : mj_M yC_row bC_row 3 2 (some .int) := ⟨mj_in (i := 348) (by decide +kernel) (by decide +kernel), mj_in (i := 81) (by decide +kernel) (by decide +kernel), ⟨by decide +kernel, by decide +kernel, by decide +kernel⟩, by decide +kernel, by decide +kernel⟩
abbrev bC_isRow : ByteArray := prog_1_method_51_code
def yC_isRow : MethodName := ⟨RC_c, "isRow", "(I)Z"⟩
theorem mC_isRow : mj_M yC_isRow bC_isRow 1 1 (some .boolean) := ⟨mj_in (i := 351) (by decide +kernel) (by decide +kernel), mj_in (i := 81) (by decide +kernel) (by decide +kernel), ⟨by decide +kernel, by decide +kernel, by decide +kernel⟩, by decide +kernel, by decide +kernel⟩
abbrev bC_found : ByteArray := prog_1_method_59_code
def yC_found : MethodName := ⟨RC_c, "found", "(I)I"⟩
theorem mC_found : mj_M yC_found bC_found 2 1 (some .int) := ⟨mj_in (i := 355) (by decide +kernel) (by decide +kernel), mj_in (i := 81) (by decide +kernel) (by decide +kernel), ⟨by decide +kernel, by decide +kernel, by decide +kernel⟩, by decide +kernel, by decide +kernel⟩
abbrev bC_lay : ByteArray := prog_1_method_3_code
def yC_lay : MethodName := ⟨RC_c, "lay", "(III)I"⟩
theorem mC_lay : mj_M yC_lay bC_lay 5 3 (some .int) := ⟨mj_in (i := 359) (by decide +kernel) (by decide +kernel), mj_in (i := 81) (by decide +kernel) (by decide +kernel), ⟨by decide +kernel, by decide +kernel, by decide +kernel⟩, by decide +kernel, by decide +kernel⟩
abbrev bC_placeRefusal : ByteArray := prog_1_method_61_code
def yC_placeRefusal : MethodName := ⟨RC_c, "placeRefusal", "(II)I"⟩
theorem mC_placeRefusal : mj_M yC_placeRefusal bC_placeRefusal 4 2 (some .int) := ⟨mj_in (i := 363) (by decide +kernel) (by decide +kernel), mj_in (i := 81) (by decide +kernel) (by decide +kernel), ⟨by decide +kernel, by decide +kernel, by decide +kernel⟩, by decide +kernel, by decide +kernel⟩
abbrev bC_rowRefusal : ByteArray := prog_1_method_60_code
def yC_rowRefusal : MethodName := ⟨RC_c, "rowRefusal", "(I)I"⟩
theorem mC_rowRefusal : mj_M yC_rowRefusal bC_rowRefusal 2 1 (some .int) := ⟨mj_in (i := 367) (by decide +kernel) (by decide +kernel), mj_in (i := 81) (by decide +kernel) (by decide +kernel), ⟨by decide +kernel, by decide +kernel, by decide +kernel⟩, by decide +kernel, by decide +kernel⟩
abbrev bC_at : ByteArray := prog_1_method_4_code
def yC_at : MethodName := ⟨RC_c, "at", "(II)I"⟩
theorem mC_at : mj_M yC_at bC_at 4 2 (some .int) := ⟨mj_in (i := 371) (by decide +kernel) (by decide +kernel), mj_in (i := 81) (by decide +kernel) (by decide +kernel), ⟨by decide +kernel, by decide +kernel, by decide +kernel⟩, by decide +kernel, by decide +kernel⟩
abbrev bC_tear : ByteArray := prog_1_method_5_code
def yC_tear : MethodName := ⟨RC_c, "tear", "(I)I"⟩
theorem mC_tear : mj_M yC_tear bC_tear 3 1 (some .int) := ⟨mj_in (i := 375) (by decide +kernel) (by decide +kernel), mj_in (i := 81) (by decide +kernel) (by decide +kernel), ⟨by decide +kernel, by decide +kernel, by decide +kernel⟩, by decide +kernel, by decide +kernel⟩
abbrev bC_copy : ByteArray := prog_1_method_6_code
def yC_copy : MethodName := ⟨RC_c, "copy", "(IIIII)I"⟩
theorem mC_copy : mj_M yC_copy bC_copy 6 5 (some .int) := ⟨mj_in (i := 379) (by decide +kernel) (by decide +kernel), mj_in (i := 81) (by decide +kernel) (by decide +kernel), ⟨by decide +kernel, by decide +kernel, by decide +kernel⟩, by decide +kernel, by decide +kernel⟩
abbrev bC_hasPlaces : ByteArray := prog_1_method_58_code
def yC_hasPlaces : MethodName := ⟨RC_c, "hasPlaces", "(III)Z"⟩
theorem mC_hasPlaces : mj_M yC_hasPlaces bC_hasPlaces 3 3 (some .boolean) := ⟨mj_in (i := 382) (by decide +kernel) (by decide +kernel), mj_in (i := 81) (by decide +kernel) (by decide +kernel), ⟨by decide +kernel, by decide +kernel, by decide +kernel⟩, by decide +kernel, by decide +kernel⟩
abbrev bC_mean : ByteArray := prog_1_method_7_code
def yC_mean : MethodName := ⟨RC_c, "mean", "(I)I"⟩
theorem mC_mean : mj_M yC_mean bC_mean 7 1 (some .int) := ⟨mj_in (i := 389) (by decide +kernel) (by decide +kernel), mj_in (i := 81) (by decide +kernel) (by decide +kernel), ⟨by decide +kernel, by decide +kernel, by decide +kernel⟩, by decide +kernel, by decide +kernel⟩
abbrev bC_text : ByteArray := prog_1_method_8_code
def yC_text : MethodName := ⟨RC_c, "text", "(II)I"⟩
theorem mC_text : mj_M yC_text bC_text 3 2 (some .int) := ⟨mj_in (i := 393) (by decide +kernel) (by decide +kernel), mj_in (i := 81) (by decide +kernel) (by decide +kernel), ⟨by decide +kernel, by decide +kernel, by decide +kernel⟩, by decide +kernel, by decide +kernel⟩
abbrev bC_isText : ByteArray := prog_1_method_52_code
def yC_isText : MethodName := ⟨RC_c, "isText", "(I)Z"⟩
theorem mC_isText : mj_M yC_isText bC_isText 1 1 (some .boolean) := ⟨mj_in (i := 396) (by decide +kernel) (by decide +kernel), mj_in (i := 81) (by decide +kernel) (by decide +kernel), ⟨by decide +kernel, by decide +kernel, by decide +kernel⟩, by decide +kernel, by decide +kernel⟩
abbrev bY_fillB : ByteArray := prog_11_method_109_code
def yY_fillB : MethodName := ⟨RY_c, "fill", "([BB)V"⟩
theorem mY_fillB : mj_M yY_fillB bY_fillB 4 2 none := ⟨mj_in (i := 399) (by decide +kernel) (by decide +kernel), mj_in (i := 86) (by decide +kernel) (by decide +kernel), ⟨by decide +kernel, by decide +kernel, by decide +kernel⟩, by decide +kernel, by decide +kernel⟩
abbrev bC_put : ByteArray := prog_1_method_9_code
def yC_put : MethodName := ⟨RC_c, "put", "(III)I"⟩
theorem mC_put : mj_M yC_put bC_put 6 3 (some .int) := ⟨mj_in (i := 403) (by decide +kernel) (by decide +kernel), mj_in (i := 81) (by decide +kernel) (by decide +kernel), ⟨by decide +kernel, by decide +kernel, by decide +kernel⟩, by decide +kernel, by decide +kernel⟩
abbrev bC_textRefusal : ByteArray := prog_1_method_62_code
def yC_textRefusal : MethodName := ⟨RC_c, "textRefusal", "(I)I"⟩
theorem mC_textRefusal : mj_M yC_textRefusal bC_textRefusal 2 1 (some .int) := ⟨mj_in (i := 407) (by decide +kernel) (by decide +kernel), mj_in (i := 81) (by decide +kernel) (by decide +kernel), ⟨by decide +kernel, by decide +kernel, by decide +kernel⟩, by decide +kernel, by decide +kernel⟩
abbrev bC_fault : ByteArray := prog_1_method_10_code
def yC_fault : MethodName := ⟨RC_c, "fault", "(I)I"⟩
theorem mC_fault : mj_M yC_fault bC_fault 3 1 (some .int) := ⟨mj_in (i := 411) (by decide +kernel) (by decide +kernel), mj_in (i := 81) (by decide +kernel) (by decide +kernel), ⟨by decide +kernel, by decide +kernel, by decide +kernel⟩, by decide +kernel, by decide +kernel⟩
abbrev bR_read : ByteArray := prog_4_method_2_code
def yR_read : MethodName := ⟨RR_c, "read", "([BILLampCave$Cave;)I"⟩
theorem mR_read : mj_M yR_read bR_read 5 3 (some .int) := ⟨mj_in (i := 415) (by decide +kernel) (by decide +kernel), mj_in (i := 83) (by decide +kernel) (by decide +kernel), ⟨by decide +kernel, by decide +kernel, by decide +kernel⟩, by decide +kernel, by decide +kernel⟩
theorem mH_min : Cond.code Lib.Math.min.name Lib.Math.min.code 2 (some .int) ∈ mj_ws ∧ Cond.initialized "java/lang/Math" ∈ mj_ws := ⟨mj_in (i := 418) (by decide +kernel) (by decide +kernel), mj_in (i := 89) (by decide +kernel) (by decide +kernel)⟩
abbrev bV_clear : ByteArray := prog_3_method_2_code
def yV_clear : MethodName := ⟨RV_c, "clear", "()V"⟩
theorem mV_clear : mj_M yV_clear bV_clear 1 0 none := ⟨mj_in (i := 422) (by decide +kernel) (by decide +kernel), mj_in (i := 82) (by decide +kernel) (by decide +kernel), ⟨by decide +kernel, by decide +kernel, by decide +kernel⟩, by decide +kernel, by decide +kernel⟩
abbrev bR_readHead : ByteArray := prog_4_method_3_code
def yR_readHead : MethodName := ⟨RR_c, "readHead", "(LLampCave$Cave;)V"⟩
theorem mR_readHead : mj_M yR_readHead bR_readHead 3 1 none := ⟨mj_in (i := 426) (by decide +kernel) (by decide +kernel), mj_in (i := 83) (by decide +kernel) (by decide +kernel), ⟨by decide +kernel, by decide +kernel, by decide +kernel⟩, by decide +kernel, by decide +kernel⟩
abbrev bR_skipBlanks : ByteArray := prog_4_method_8_code
def yR_skipBlanks : MethodName := ⟨RR_c, "skipBlanks", "()V"⟩
theorem mR_skipBlanks : mj_M yR_skipBlanks bR_skipBlanks 1 0 none := ⟨mj_in (i := 430) (by decide +kernel) (by decide +kernel), mj_in (i := 83) (by decide +kernel) (by decide +kernel), ⟨by decide +kernel, by decide +kernel, by decide +kernel⟩, by decide +kernel, by decide +kernel⟩
abbrev bR_sign : ByteArray := prog_4_method_5_code
def yR_sign : MethodName := ⟨RR_c, "sign", "()I"⟩
theorem mR_sign : mj_M yR_sign bR_sign 1 0 (some .int) := ⟨mj_in (i := 434) (by decide +kernel) (by decide +kernel), mj_in (i := 83) (by decide +kernel) (by decide +kernel), ⟨by decide +kernel, by decide +kernel, by decide +kernel⟩, by decide +kernel, by decide +kernel⟩
abbrev bR_take : ByteArray := prog_4_method_6_code
def yR_take : MethodName := ⟨RR_c, "take", "(Z)V"⟩
theorem mR_take : mj_M yR_take bR_take 2 1 none := ⟨mj_in (i := 438) (by decide +kernel) (by decide +kernel), mj_in (i := 83) (by decide +kernel) (by decide +kernel), ⟨by decide +kernel, by decide +kernel, by decide +kernel⟩, by decide +kernel, by decide +kernel⟩
abbrev bR_figure : ByteArray := prog_4_method_7_code
def yR_figure : MethodName := ⟨RR_c, "figure", "(II)I"⟩
theorem mR_figure : mj_M yR_figure bR_figure 5 2 (some .int) := ⟨mj_in (i := 442) (by decide +kernel) (by decide +kernel), mj_in (i := 83) (by decide +kernel) (by decide +kernel), ⟨by decide +kernel, by decide +kernel, by decide +kernel⟩, by decide +kernel, by decide +kernel⟩
abbrev bR_readOne : ByteArray := prog_4_method_4_code
def yR_readOne : MethodName := ⟨RR_c, "readOne", "(LLampCave$Cave;I)V"⟩
theorem mR_readOne : mj_M yR_readOne bR_readOne 8 2 none := ⟨mj_in (i := 446) (by decide +kernel) (by decide +kernel), mj_in (i := 83) (by decide +kernel) (by decide +kernel), ⟨by decide +kernel, by decide +kernel, by decide +kernel⟩, by decide +kernel, by decide +kernel⟩
abbrev bR_kindOf : ByteArray := prog_4_method_9_code
def yR_kindOf : MethodName := ⟨RR_c, "kindOf", "(I)I"⟩
theorem mR_kindOf : mj_M yR_kindOf bR_kindOf 1 1 (some .int) := ⟨mj_in (i := 449) (by decide +kernel) (by decide +kernel), mj_in (i := 83) (by decide +kernel) (by decide +kernel), ⟨by decide +kernel, by decide +kernel, by decide +kernel⟩, by decide +kernel, by decide +kernel⟩
abbrev bC_cave : ByteArray := prog_1_method_11_code
def yC_cave : MethodName := ⟨RC_c, "cave", "(I)I"⟩
theorem mC_cave : mj_M yC_cave bC_cave 3 1 (some .int) := ⟨mj_in (i := 453) (by decide +kernel) (by decide +kernel), mj_in (i := 81) (by decide +kernel) (by decide +kernel), ⟨by decide +kernel, by decide +kernel, by decide +kernel⟩, by decide +kernel, by decide +kernel⟩
abbrev bV_become : ByteArray := prog_3_method_3_code
def yV_become : MethodName := ⟨RV_c, "become", "(LLampCave$Cave;)V"⟩
theorem mV_become : mj_M yV_become bV_become 2 1 none := ⟨mj_in (i := 457) (by decide +kernel) (by decide +kernel), mj_in (i := 82) (by decide +kernel) (by decide +kernel), ⟨by decide +kernel, by decide +kernel, by decide +kernel⟩, by decide +kernel, by decide +kernel⟩
abbrev bC_forgetKept : ByteArray := prog_1_method_69_code
def yC_forgetKept : MethodName := ⟨RC_c, "forgetKept", "()V"⟩
theorem mC_forgetKept : mj_M yC_forgetKept bC_forgetKept 3 0 none := ⟨mj_in (i := 462) (by decide +kernel) (by decide +kernel), mj_in (i := 81) (by decide +kernel) (by decide +kernel), ⟨by decide +kernel, by decide +kernel, by decide +kernel⟩, by decide +kernel, by decide +kernel⟩
abbrev bC_person : ByteArray := prog_1_method_12_code
def yC_person : MethodName := ⟨RC_c, "person", "(II)I"⟩
theorem mC_person : mj_M yC_person bC_person 3 2 (some .int) := ⟨mj_in (i := 467) (by decide +kernel) (by decide +kernel), mj_in (i := 81) (by decide +kernel) (by decide +kernel), ⟨by decide +kernel, by decide +kernel, by decide +kernel⟩, by decide +kernel, by decide +kernel⟩
abbrev bC_isOne : ByteArray := prog_1_method_56_code
def yC_isOne : MethodName := ⟨RC_c, "isOne", "(I)Z"⟩
theorem mC_isOne : mj_M yC_isOne bC_isOne 2 1 (some .boolean) := ⟨mj_in (i := 471) (by decide +kernel) (by decide +kernel), mj_in (i := 81) (by decide +kernel) (by decide +kernel), ⟨by decide +kernel, by decide +kernel, by decide +kernel⟩, by decide +kernel, by decide +kernel⟩
abbrev bC_ofPerson : ByteArray := prog_1_method_65_code
def yC_ofPerson : MethodName := ⟨RC_c, "ofPerson", "(II)I"⟩
theorem mC_ofPerson : mj_M yC_ofPerson bC_ofPerson 3 2 (some .int) := ⟨mj_in (i := 475) (by decide +kernel) (by decide +kernel), mj_in (i := 81) (by decide +kernel) (by decide +kernel), ⟨by decide +kernel, by decide +kernel, by decide +kernel⟩, by decide +kernel, by decide +kernel⟩
abbrev bA_begin : ByteArray := prog_2_method_2_code
def yA_begin : MethodName := ⟨RA_c, "begin", "(LLampCave$Cave;)V"⟩
theorem mA_begin : mj_M yA_begin bA_begin 3 1 none := ⟨mj_in (i := 479) (by decide +kernel) (by decide +kernel), mj_in (i := 84) (by decide +kernel) (by decide +kernel), ⟨by decide +kernel, by decide +kernel, by decide +kernel⟩, by decide +kernel, by decide +kernel⟩
abbrev bV_lastHolder : ByteArray := prog_3_method_7_code
def yV_lastHolder : MethodName := ⟨RV_c, "lastHolder", "()I"⟩
theorem mV_lastHolder : mj_M yV_lastHolder bV_lastHolder 1 0 (some .int) := ⟨mj_in (i := 483) (by decide +kernel) (by decide +kernel), mj_in (i := 82) (by decide +kernel) (by decide +kernel), ⟨by decide +kernel, by decide +kernel, by decide +kernel⟩, by decide +kernel, by decide +kernel⟩
abbrev bV_bitsOfKind : ByteArray := prog_3_method_9_code
def yV_bitsOfKind : MethodName := ⟨RV_c, "bitsOfKind", "(I)I"⟩
theorem mV_bitsOfKind : mj_M yV_bitsOfKind bV_bitsOfKind 4 1 (some .int) := ⟨mj_in (i := 487) (by decide +kernel) (by decide +kernel), mj_in (i := 82) (by decide +kernel) (by decide +kernel), ⟨by decide +kernel, by decide +kernel, by decide +kernel⟩, by decide +kernel, by decide +kernel⟩
abbrev bC_isOfKind : ByteArray := prog_1_method_57_code
def yC_isOfKind : MethodName := ⟨RC_c, "isOfKind", "(II)Z"⟩
theorem mC_isOfKind : mj_M yC_isOfKind bC_isOfKind 2 2 (some .boolean) := ⟨mj_in (i := 490) (by decide +kernel) (by decide +kernel), mj_in (i := 81) (by decide +kernel) (by decide +kernel), ⟨by decide +kernel, by decide +kernel, by decide +kernel⟩, by decide +kernel, by decide +kernel⟩
abbrev bA_seatTogether : ByteArray := prog_2_method_4_code
def yA_seatTogether : MethodName := ⟨RA_c, "seatTogether", "(II)V"⟩
theorem mA_seatTogether : mj_M yA_seatTogether bA_seatTogether 3 2 none := ⟨mj_in (i := 496) (by decide +kernel) (by decide +kernel), mj_in (i := 84) (by decide +kernel) (by decide +kernel), ⟨by decide +kernel, by decide +kernel, by decide +kernel⟩, by decide +kernel, by decide +kernel⟩
abbrev bA_isHere : ByteArray := prog_2_method_6_code
def yA_isHere : MethodName := ⟨RA_c, "isHere", "(I)Z"⟩
theorem mA_isHere : mj_M yA_isHere bA_isHere 2 1 (some .boolean) := ⟨mj_in (i := 500) (by decide +kernel) (by decide +kernel), mj_in (i := 84) (by decide +kernel) (by decide +kernel), ⟨by decide +kernel, by decide +kernel, by decide +kernel⟩, by decide +kernel, by decide +kernel⟩
abbrev bA_countCalmBeside : ByteArray := prog_2_method_5_code
def yA_countCalmBeside : MethodName := ⟨RA_c, "countCalmBeside", "()V"⟩
theorem mA_countCalmBeside : mj_M yA_countCalmBeside bA_countCalmBeside 3 0 none := ⟨mj_in (i := 504) (by decide +kernel) (by decide +kernel), mj_in (i := 84) (by decide +kernel) (by decide +kernel), ⟨by decide +kernel, by decide +kernel, by decide +kernel⟩, by decide +kernel, by decide +kernel⟩
abbrev bI_bitCount : ByteArray := prog_8_method_49_code
def yI_bitCount : MethodName := ⟨RI_c, "bitCount", "(I)I"⟩
theorem mI_bitCount : mj_M yI_bitCount bI_bitCount 1 1 (some .int) := ⟨mj_in (i := 508) (by decide +kernel) (by decide +kernel), mj_in (i := 90) (by decide +kernel) (by decide +kernel), ⟨by decide +kernel, by decide +kernel, by decide +kernel⟩, by decide +kernel, by decide +kernel⟩
abbrev bA_shows : ByteArray := prog_2_method_9_code
def yA_shows : MethodName := ⟨RA_c, "shows", "(I)I"⟩
theorem mA_shows : mj_M yA_shows bA_shows 2 1 (some .int) := ⟨mj_in (i := 515) (by decide +kernel) (by decide +kernel), mj_in (i := 84) (by decide +kernel) (by decide +kernel), ⟨by decide +kernel, by decide +kernel, by decide +kernel⟩, by decide +kernel, by decide +kernel⟩
abbrev bC_mark : ByteArray := prog_1_method_13_code
def yC_mark : MethodName := ⟨RC_c, "mark", "(II)I"⟩
theorem mC_mark : mj_M yC_mark bC_mark 3 2 (some .int) := ⟨mj_in (i := 519) (by decide +kernel) (by decide +kernel), mj_in (i := 81) (by decide +kernel) (by decide +kernel), ⟨by decide +kernel, by decide +kernel, by decide +kernel⟩, by decide +kernel, by decide +kernel⟩
abbrev bA_bitsBeside : ByteArray := prog_2_method_8_code
def yA_bitsBeside : MethodName := ⟨RA_c, "bitsBeside", "(I)I"⟩
theorem mA_bitsBeside : mj_M yA_bitsBeside bA_bitsBeside 2 1 (some .int) := ⟨mj_in (i := 524) (by decide +kernel) (by decide +kernel), mj_in (i := 84) (by decide +kernel) (by decide +kernel), ⟨by decide +kernel, by decide +kernel, by decide +kernel⟩, by decide +kernel, by decide +kernel⟩
abbrev bA_moreAfraid : ByteArray := prog_2_method_13_code
def yA_moreAfraid : MethodName := ⟨RA_c, "moreAfraid", "(II)I"⟩
theorem mA_moreAfraid : mj_M yA_moreAfraid bA_moreAfraid 5 2 (some .int) := ⟨mj_in (i := 529) (by decide +kernel) (by decide +kernel), mj_in (i := 84) (by decide +kernel) (by decide +kernel), ⟨by decide +kernel, by decide +kernel, by decide +kernel⟩, by decide +kernel, by decide +kernel⟩
abbrev bA_bitsOfAll : ByteArray := prog_2_method_7_code
def yA_bitsOfAll : MethodName := ⟨RA_c, "bitsOfAll", "()I"⟩
theorem mA_bitsOfAll : mj_M yA_bitsOfAll bA_bitsOfAll 1 0 (some .int) := ⟨mj_in (i := 533) (by decide +kernel) (by decide +kernel), mj_in (i := 84) (by decide +kernel) (by decide +kernel), ⟨by decide +kernel, by decide +kernel, by decide +kernel⟩, by decide +kernel, by decide +kernel⟩
abbrev bA_singers : ByteArray := prog_2_method_21_code
def yA_singers : MethodName := ⟨RA_c, "singers", "()I"⟩
theorem mA_singers : mj_M yA_singers bA_singers 3 0 (some .int) := ⟨mj_in (i := 537) (by decide +kernel) (by decide +kernel), mj_in (i := 84) (by decide +kernel) (by decide +kernel), ⟨by decide +kernel, by decide +kernel, by decide +kernel⟩, by decide +kernel, by decide +kernel⟩
abbrev bV_timesHeld : ByteArray := prog_3_method_8_code
def yV_timesHeld : MethodName := ⟨RV_c, "timesHeld", "(I)I"⟩
theorem mV_timesHeld : mj_M yV_timesHeld bV_timesHeld 4 1 (some .int) := ⟨mj_in (i := 541) (by decide +kernel) (by decide +kernel), mj_in (i := 82) (by decide +kernel) (by decide +kernel), ⟨by decide +kernel, by decide +kernel, by decide +kernel⟩, by decide +kernel, by decide +kernel⟩
abbrev bC_law : ByteArray := prog_1_method_14_code
def yC_law : MethodName := ⟨RC_c, "law", "(I)I"⟩
theorem mC_law : mj_M yC_law bC_law 3 1 (some .int) := ⟨mj_in (i := 545) (by decide +kernel) (by decide +kernel), mj_in (i := 81) (by decide +kernel) (by decide +kernel), ⟨by decide +kernel, by decide +kernel, by decide +kernel⟩, by decide +kernel, by decide +kernel⟩
abbrev bC_isLaw : ByteArray := prog_1_method_53_code
def yC_isLaw : MethodName := ⟨RC_c, "isLaw", "(I)Z"⟩
theorem mC_isLaw : mj_M yC_isLaw bC_isLaw 1 1 (some .boolean) := ⟨mj_in (i := 548) (by decide +kernel) (by decide +kernel), mj_in (i := 81) (by decide +kernel) (by decide +kernel), ⟨by decide +kernel, by decide +kernel, by decide +kernel⟩, by decide +kernel, by decide +kernel⟩
abbrev bC_oil : ByteArray := prog_1_method_15_code
def yC_oil : MethodName := ⟨RC_c, "oil", "(I)I"⟩
theorem mC_oil : mj_M yC_oil bC_oil 3 1 (some .int) := ⟨mj_in (i := 552) (by decide +kernel) (by decide +kernel), mj_in (i := 81) (by decide +kernel) (by decide +kernel), ⟨by decide +kernel, by decide +kernel, by decide +kernel⟩, by decide +kernel, by decide +kernel⟩
abbrev bC_fear : ByteArray := prog_1_method_16_code
def yC_fear : MethodName := ⟨RC_c, "fear", "(II)I"⟩
theorem mC_fear : mj_M yC_fear bC_fear 4 2 (some .int) := ⟨mj_in (i := 556) (by decide +kernel) (by decide +kernel), mj_in (i := 81) (by decide +kernel) (by decide +kernel), ⟨by decide +kernel, by decide +kernel, by decide +kernel⟩, by decide +kernel, by decide +kernel⟩
abbrev bC_minutes : ByteArray := prog_1_method_17_code
def yC_minutes : MethodName := ⟨RC_c, "minutes", "(I)I"⟩
theorem mC_minutes : mj_M yC_minutes bC_minutes 3 1 (some .int) := ⟨mj_in (i := 560) (by decide +kernel) (by decide +kernel), mj_in (i := 81) (by decide +kernel) (by decide +kernel), ⟨by decide +kernel, by decide +kernel, by decide +kernel⟩, by decide +kernel, by decide +kernel⟩
abbrev bC_isSpan : ByteArray := prog_1_method_54_code
def yC_isSpan : MethodName := ⟨RC_c, "isSpan", "(I)Z"⟩
theorem mC_isSpan : mj_M yC_isSpan bC_isSpan 1 1 (some .boolean) := ⟨mj_in (i := 563) (by decide +kernel) (by decide +kernel), mj_in (i := 81) (by decide +kernel) (by decide +kernel), ⟨by decide +kernel, by decide +kernel, by decide +kernel⟩, by decide +kernel, by decide +kernel⟩
abbrev bA_isOver : ByteArray := prog_2_method_15_code
def yA_isOver : MethodName := ⟨RA_c, "isOver", "()Z"⟩
theorem mA_isOver : mj_M yA_isOver bA_isOver 1 0 (some .boolean) := ⟨mj_in (i := 567) (by decide +kernel) (by decide +kernel), mj_in (i := 84) (by decide +kernel) (by decide +kernel), ⟨by decide +kernel, by decide +kernel, by decide +kernel⟩, by decide +kernel, by decide +kernel⟩
abbrev bA_whoScream : ByteArray := prog_2_method_14_code
def yA_whoScream : MethodName := ⟨RA_c, "whoScream", "()I"⟩
theorem mA_whoScream : mj_M yA_whoScream bA_whoScream 3 0 (some .int) := ⟨mj_in (i := 571) (by decide +kernel) (by decide +kernel), mj_in (i := 84) (by decide +kernel) (by decide +kernel), ⟨by decide +kernel, by decide +kernel, by decide +kernel⟩, by decide +kernel, by decide +kernel⟩
abbrev bA_byLaw : ByteArray := prog_2_method_10_code
def yA_byLaw : MethodName := ⟨RA_c, "byLaw", "(I)I"⟩
theorem mA_byLaw : mj_M yA_byLaw bA_byLaw 2 1 (some .int) := ⟨mj_in (i := 575) (by decide +kernel) (by decide +kernel), mj_in (i := 84) (by decide +kernel) (by decide +kernel), ⟨by decide +kernel, by decide +kernel, by decide +kernel⟩, by decide +kernel, by decide +kernel⟩
abbrev bA_showsMost : ByteArray := prog_2_method_11_code
def yA_showsMost : MethodName := ⟨RA_c, "showsMost", "(I)I"⟩
theorem mA_showsMost : mj_M yA_showsMost bA_showsMost 5 1 (some .int) := ⟨mj_in (i := 580) (by decide +kernel) (by decide +kernel), mj_in (i := 84) (by decide +kernel) (by decide +kernel), ⟨by decide +kernel, by decide +kernel, by decide +kernel⟩, by decide +kernel, by decide +kernel⟩
abbrev bC_passMinute : ByteArray := prog_1_method_74_code
def yC_passMinute : MethodName := ⟨RC_c, "passMinute", "(I)V"⟩
theorem mC_passMinute : mj_M yC_passMinute bC_passMinute 2 1 none := ⟨mj_in (i := 586) (by decide +kernel) (by decide +kernel), mj_in (i := 81) (by decide +kernel) (by decide +kernel), ⟨by decide +kernel, by decide +kernel, by decide +kernel⟩, by decide +kernel, by decide +kernel⟩
abbrev bV_remember : ByteArray := prog_3_method_4_code
def yV_remember : MethodName := ⟨RV_c, "remember", "(I)V"⟩
theorem mV_remember : mj_M yV_remember bV_remember 2 1 none := ⟨mj_in (i := 590) (by decide +kernel) (by decide +kernel), mj_in (i := 82) (by decide +kernel) (by decide +kernel), ⟨by decide +kernel, by decide +kernel, by decide +kernel⟩, by decide +kernel, by decide +kernel⟩
abbrev bA_pass : ByteArray := prog_2_method_12_code
def yA_pass : MethodName := ⟨RA_c, "pass", "(I)V"⟩
theorem mA_pass : mj_M yA_pass bA_pass 5 1 none := ⟨mj_in (i := 594) (by decide +kernel) (by decide +kernel), mj_in (i := 84) (by decide +kernel) (by decide +kernel), ⟨by decide +kernel, by decide +kernel, by decide +kernel⟩, by decide +kernel, by decide +kernel⟩
theorem mH_max : Cond.code Lib.Math.max.name Lib.Math.max.code 2 (some .int) ∈ mj_ws ∧ Cond.initialized "java/lang/Math" ∈ mj_ws := ⟨mj_in (i := 598) (by decide +kernel) (by decide +kernel), mj_in (i := 89) (by decide +kernel) (by decide +kernel)⟩
abbrev bV_take : ByteArray := prog_3_method_6_code
def yV_take : MethodName := ⟨RV_c, "take", "(LLampCave$Aside;)V"⟩
theorem mV_take : mj_M yV_take bV_take 2 1 none := ⟨mj_in (i := 603) (by decide +kernel) (by decide +kernel), mj_in (i := 82) (by decide +kernel) (by decide +kernel), ⟨by decide +kernel, by decide +kernel, by decide +kernel⟩, by decide +kernel, by decide +kernel⟩
abbrev bC_hand : ByteArray := prog_1_method_18_code
def yC_hand : MethodName := ⟨RC_c, "hand", "(I)I"⟩
theorem mC_hand : mj_M yC_hand bC_hand 2 1 (some .int) := ⟨mj_in (i := 607) (by decide +kernel) (by decide +kernel), mj_in (i := 81) (by decide +kernel) (by decide +kernel), ⟨by decide +kernel, by decide +kernel, by decide +kernel⟩, by decide +kernel, by decide +kernel⟩
abbrev bC_next : ByteArray := prog_1_method_19_code
def yC_next : MethodName := ⟨RC_c, "next", "()I"⟩
theorem mC_next : mj_M yC_next bC_next 1 0 (some .int) := ⟨mj_in (i := 611) (by decide +kernel) (by decide +kernel), mj_in (i := 81) (by decide +kernel) (by decide +kernel), ⟨by decide +kernel, by decide +kernel, by decide +kernel⟩, by decide +kernel, by decide +kernel⟩
abbrev bC_had : ByteArray := prog_1_method_20_code
def yC_had : MethodName := ⟨RC_c, "had", "(I)I"⟩
theorem mC_had : mj_M yC_had bC_had 2 1 (some .int) := ⟨mj_in (i := 615) (by decide +kernel) (by decide +kernel), mj_in (i := 81) (by decide +kernel) (by decide +kernel), ⟨by decide +kernel, by decide +kernel, by decide +kernel⟩, by decide +kernel, by decide +kernel⟩
abbrev bC_undo : ByteArray := prog_1_method_21_code
def yC_undo : MethodName := ⟨RC_c, "undo", "(I)I"⟩
theorem mC_undo : mj_M yC_undo bC_undo 3 1 (some .int) := ⟨mj_in (i := 619) (by decide +kernel) (by decide +kernel), mj_in (i := 81) (by decide +kernel) (by decide +kernel), ⟨by decide +kernel, by decide +kernel, by decide +kernel⟩, by decide +kernel, by decide +kernel⟩
abbrev bV_backTo : ByteArray := prog_3_method_5_code
def yV_backTo : MethodName := ⟨RV_c, "backTo", "(I)V"⟩
theorem mV_backTo : mj_M yV_backTo bV_backTo 2 1 none := ⟨mj_in (i := 623) (by decide +kernel) (by decide +kernel), mj_in (i := 82) (by decide +kernel) (by decide +kernel), ⟨by decide +kernel, by decide +kernel, by decide +kernel⟩, by decide +kernel, by decide +kernel⟩
abbrev bC_over : ByteArray := prog_1_method_22_code
def yC_over : MethodName := ⟨RC_c, "over", "()I"⟩
theorem mC_over : mj_M yC_over bC_over 1 0 (some .int) := ⟨mj_in (i := 627) (by decide +kernel) (by decide +kernel), mj_in (i := 81) (by decide +kernel) (by decide +kernel), ⟨by decide +kernel, by decide +kernel, by decide +kernel⟩, by decide +kernel, by decide +kernel⟩
abbrev bC_story : ByteArray := prog_1_method_23_code
def yC_story : MethodName := ⟨RC_c, "story", "(I)I"⟩
theorem mC_story : mj_M yC_story bC_story 2 1 (some .int) := ⟨mj_in (i := 632) (by decide +kernel) (by decide +kernel), mj_in (i := 81) (by decide +kernel) (by decide +kernel), ⟨by decide +kernel, by decide +kernel, by decide +kernel⟩, by decide +kernel, by decide +kernel⟩
abbrev bA_tellStory : ByteArray := prog_2_method_22_code
def yA_tellStory : MethodName := ⟨RA_c, "tellStory", "(I)V"⟩
theorem mA_tellStory : mj_M yA_tellStory bA_tellStory 4 1 none := ⟨mj_in (i := 636) (by decide +kernel) (by decide +kernel), mj_in (i := 84) (by decide +kernel) (by decide +kernel), ⟨by decide +kernel, by decide +kernel, by decide +kernel⟩, by decide +kernel, by decide +kernel⟩
abbrev bA_fearTogether : ByteArray := prog_2_method_20_code
def yA_fearTogether : MethodName := ⟨RA_c, "fearTogether", "()I"⟩
theorem mA_fearTogether : mj_M yA_fearTogether bA_fearTogether 3 0 (some .int) := ⟨mj_in (i := 640) (by decide +kernel) (by decide +kernel), mj_in (i := 84) (by decide +kernel) (by decide +kernel), ⟨by decide +kernel, by decide +kernel, by decide +kernel⟩, by decide +kernel, by decide +kernel⟩
abbrev bC_song : ByteArray := prog_1_method_24_code
def yC_song : MethodName := ⟨RC_c, "song", "(I)I"⟩
theorem mC_song : mj_M yC_song bC_song 2 1 (some .int) := ⟨mj_in (i := 644) (by decide +kernel) (by decide +kernel), mj_in (i := 81) (by decide +kernel) (by decide +kernel), ⟨by decide +kernel, by decide +kernel, by decide +kernel⟩, by decide +kernel, by decide +kernel⟩
abbrev bA_greatestFear : ByteArray := prog_2_method_18_code
def yA_greatestFear : MethodName := ⟨RA_c, "greatestFear", "()I"⟩
theorem mA_greatestFear : mj_M yA_greatestFear bA_greatestFear 2 0 (some .int) := ⟨mj_in (i := 648) (by decide +kernel) (by decide +kernel), mj_in (i := 84) (by decide +kernel) (by decide +kernel), ⟨by decide +kernel, by decide +kernel, by decide +kernel⟩, by decide +kernel, by decide +kernel⟩
abbrev bA_mostAfraid : ByteArray := prog_2_method_19_code
def yA_mostAfraid : MethodName := ⟨RA_c, "mostAfraid", "()I"⟩
theorem mA_mostAfraid : mj_M yA_mostAfraid bA_mostAfraid 3 0 (some .int) := ⟨mj_in (i := 652) (by decide +kernel) (by decide +kernel), mj_in (i := 84) (by decide +kernel) (by decide +kernel), ⟨by decide +kernel, by decide +kernel, by decide +kernel⟩, by decide +kernel, by decide +kernel⟩
abbrev bA_sing : ByteArray := prog_2_method_23_code
def yA_sing : MethodName := ⟨RA_c, "sing", "()V"⟩
theorem mA_sing : mj_M yA_sing bA_sing 3 0 none := ⟨mj_in (i := 656) (by decide +kernel) (by decide +kernel), mj_in (i := 84) (by decide +kernel) (by decide +kernel), ⟨by decide +kernel, by decide +kernel, by decide +kernel⟩, by decide +kernel, by decide +kernel⟩
abbrev bC_keep : ByteArray := prog_1_method_25_code
def yC_keep : MethodName := ⟨RC_c, "keep", "(I)I"⟩
theorem mC_keep : mj_M yC_keep bC_keep 3 1 (some .int) := ⟨mj_in (i := 661) (by decide +kernel) (by decide +kernel), mj_in (i := 81) (by decide +kernel) (by decide +kernel), ⟨by decide +kernel, by decide +kernel, by decide +kernel⟩, by decide +kernel, by decide +kernel⟩
abbrev bC_isKeepingPlace : ByteArray := prog_1_method_55_code
def yC_isKeepingPlace : MethodName := ⟨RC_c, "isKeepingPlace", "(I)Z"⟩
theorem mC_isKeepingPlace : mj_M yC_isKeepingPlace bC_isKeepingPlace 1 1 (some .boolean) := ⟨mj_in (i := 664) (by decide +kernel) (by decide +kernel), mj_in (i := 81) (by decide +kernel) (by decide +kernel), ⟨by decide +kernel, by decide +kernel, by decide +kernel⟩, by decide +kernel, by decide +kernel⟩
abbrev bC_on : ByteArray := prog_1_method_26_code
def yC_on : MethodName := ⟨RC_c, "on", "(I)I"⟩
theorem mC_on : mj_M yC_on bC_on 3 1 (some .int) := ⟨mj_in (i := 668) (by decide +kernel) (by decide +kernel), mj_in (i := 81) (by decide +kernel) (by decide +kernel), ⟨by decide +kernel, by decide +kernel, by decide +kernel⟩, by decide +kernel, by decide +kernel⟩
abbrev bC_holds : ByteArray := prog_1_method_27_code
def yC_holds : MethodName := ⟨RC_c, "holds", "(I)I"⟩
theorem mC_holds : mj_M yC_holds bC_holds 3 1 (some .int) := ⟨mj_in (i := 672) (by decide +kernel) (by decide +kernel), mj_in (i := 81) (by decide +kernel) (by decide +kernel), ⟨by decide +kernel, by decide +kernel, by decide +kernel⟩, by decide +kernel, by decide +kernel⟩
abbrev bA_howLong : ByteArray := prog_2_method_17_code
def yA_howLong : MethodName := ⟨RA_c, "howLong", "(II)I"⟩
theorem mA_howLong : mj_M yA_howLong bA_howLong 4 2 (some .int) := ⟨mj_in (i := 676) (by decide +kernel) (by decide +kernel), mj_in (i := 84) (by decide +kernel) (by decide +kernel), ⟨by decide +kernel, by decide +kernel, by decide +kernel⟩, by decide +kernel, by decide +kernel⟩
abbrev bA_goOn : ByteArray := prog_2_method_16_code
def yA_goOn : MethodName := ⟨RA_c, "goOn", "(II)I"⟩
theorem mA_goOn : mj_M yA_goOn bA_goOn 4 2 (some .int) := ⟨mj_in (i := 680) (by decide +kernel) (by decide +kernel), mj_in (i := 84) (by decide +kernel) (by decide +kernel), ⟨by decide +kernel, by decide +kernel, by decide +kernel⟩, by decide +kernel, by decide +kernel⟩
abbrev bC_best : ByteArray := prog_1_method_28_code
def yC_best : MethodName := ⟨RC_c, "best", "()I"⟩
theorem mC_best : mj_M yC_best bC_best 5 0 (some .int) := ⟨mj_in (i := 687) (by decide +kernel) (by decide +kernel), mj_in (i := 81) (by decide +kernel) (by decide +kernel), ⟨by decide +kernel, by decide +kernel, by decide +kernel⟩, by decide +kernel, by decide +kernel⟩
abbrev bC_isLonger : ByteArray := prog_1_method_75_code
def yC_isLonger : MethodName := ⟨RC_c, "isLonger", "(II)Z"⟩
theorem mC_isLonger : mj_M yC_isLonger bC_isLonger 2 2 (some .boolean) := ⟨mj_in (i := 690) (by decide +kernel) (by decide +kernel), mj_in (i := 81) (by decide +kernel) (by decide +kernel), ⟨by decide +kernel, by decide +kernel, by decide +kernel⟩, by decide +kernel, by decide +kernel⟩
abbrev bC_rest : ByteArray := prog_1_method_29_code
def yC_rest : MethodName := ⟨RC_c, "rest", "()I"⟩
theorem mC_rest : mj_M yC_rest bC_rest 2 0 (some .int) := ⟨mj_in (i := 694) (by decide +kernel) (by decide +kernel), mj_in (i := 81) (by decide +kernel) (by decide +kernel), ⟨by decide +kernel, by decide +kernel, by decide +kernel⟩, by decide +kernel, by decide +kernel⟩
abbrev bA_isAsSaved : ByteArray := prog_2_method_26_code
def yA_isAsSaved : MethodName := ⟨RA_c, "isAsSaved", "(I)Z"⟩
theorem mA_isAsSaved : mj_M yA_isAsSaved bA_isAsSaved 4 1 (some .boolean) := ⟨mj_in (i := 698) (by decide +kernel) (by decide +kernel), mj_in (i := 84) (by decide +kernel) (by decide +kernel), ⟨by decide +kernel, by decide +kernel, by decide +kernel⟩, by decide +kernel, by decide +kernel⟩
abbrev bA_save : ByteArray := prog_2_method_24_code
def yA_save : MethodName := ⟨RA_c, "save", "(I)V"⟩
theorem mA_save : mj_M yA_save bA_save 3 1 none := ⟨mj_in (i := 702) (by decide +kernel) (by decide +kernel), mj_in (i := 84) (by decide +kernel) (by decide +kernel), ⟨by decide +kernel, by decide +kernel, by decide +kernel⟩, by decide +kernel, by decide +kernel⟩
abbrev bC_worst : ByteArray := prog_1_method_30_code
def yC_worst : MethodName := ⟨RC_c, "worst", "(I)I"⟩
theorem mC_worst : mj_M yC_worst bC_worst 2 1 (some .int) := ⟨mj_in (i := 706) (by decide +kernel) (by decide +kernel), mj_in (i := 81) (by decide +kernel) (by decide +kernel), ⟨by decide +kernel, by decide +kernel, by decide +kernel⟩, by decide +kernel, by decide +kernel⟩
abbrev bC_often : ByteArray := prog_1_method_31_code
def yC_often : MethodName := ⟨RC_c, "often", "(II)I"⟩
theorem mC_often : mj_M yC_often bC_often 6 2 (some .int) := ⟨mj_in (i := 712) (by decide +kernel) (by decide +kernel), mj_in (i := 81) (by decide +kernel) (by decide +kernel), ⟨by decide +kernel, by decide +kernel, by decide +kernel⟩, by decide +kernel, by decide +kernel⟩
abbrev bC_longest : ByteArray := prog_1_method_32_code
def yC_longest : MethodName := ⟨RC_c, "longest", "(I)I"⟩
theorem mC_longest : mj_M yC_longest bC_longest 2 1 (some .int) := ⟨mj_in (i := 716) (by decide +kernel) (by decide +kernel), mj_in (i := 81) (by decide +kernel) (by decide +kernel), ⟨by decide +kernel, by decide +kernel, by decide +kernel⟩, by decide +kernel, by decide +kernel⟩
abbrev bS_findLongest : ByteArray := prog_5_method_2_code
def yS_findLongest : MethodName := ⟨RS_c, "findLongest", "(LLampCave$Aside;)V"⟩
theorem mS_findLongest : mj_M yS_findLongest bS_findLongest 2 1 none := ⟨mj_in (i := 720) (by decide +kernel) (by decide +kernel), mj_in (i := 85) (by decide +kernel) (by decide +kernel), ⟨by decide +kernel, by decide +kernel, by decide +kernel⟩, by decide +kernel, by decide +kernel⟩
abbrev bS_start : ByteArray := prog_5_method_4_code
def yS_start : MethodName := ⟨RS_c, "start", "(LLampCave$Aside;)V"⟩
theorem mS_start : mj_M yS_start bS_start 2 1 none := ⟨mj_in (i := 724) (by decide +kernel) (by decide +kernel), mj_in (i := 85) (by decide +kernel) (by decide +kernel), ⟨by decide +kernel, by decide +kernel, by decide +kernel⟩, by decide +kernel, by decide +kernel⟩
abbrev bS_handFrom : ByteArray := prog_5_method_5_code
def yS_handFrom : MethodName := ⟨RS_c, "handFrom", "(LLampCave$Aside;I)V"⟩
theorem mS_handFrom : mj_M yS_handFrom bS_handFrom 4 2 none := ⟨mj_in (i := 729) (by decide +kernel) (by decide +kernel), mj_in (i := 85) (by decide +kernel) (by decide +kernel), ⟨by decide +kernel, by decide +kernel, by decide +kernel⟩, by decide +kernel, by decide +kernel⟩
abbrev bS_weigh : ByteArray := prog_5_method_7_code
def yS_weigh : MethodName := ⟨RS_c, "weigh", "(LLampCave$Aside;I)V"⟩
theorem mS_weigh : mj_M yS_weigh bS_weigh 5 2 none := ⟨mj_in (i := 733) (by decide +kernel) (by decide +kernel), mj_in (i := 85) (by decide +kernel) (by decide +kernel), ⟨by decide +kernel, by decide +kernel, by decide +kernel⟩, by decide +kernel, by decide +kernel⟩
abbrev bS_isSettled : ByteArray := prog_5_method_6_code
def yS_isSettled : MethodName := ⟨RS_c, "isSettled", "()Z"⟩
theorem mS_isSettled : mj_M yS_isSettled bS_isSettled 1 0 (some .boolean) := ⟨mj_in (i := 740) (by decide +kernel) (by decide +kernel), mj_in (i := 85) (by decide +kernel) (by decide +kernel), ⟨by decide +kernel, by decide +kernel, by decide +kernel⟩, by decide +kernel, by decide +kernel⟩
abbrev bA_restore : ByteArray := prog_2_method_25_code
def yA_restore : MethodName := ⟨RA_c, "restore", "(I)V"⟩
theorem mA_restore : mj_M yA_restore bA_restore 3 1 none := ⟨mj_in (i := 745) (by decide +kernel) (by decide +kernel), mj_in (i := 84) (by decide +kernel) (by decide +kernel), ⟨by decide +kernel, by decide +kernel, by decide +kernel⟩, by decide +kernel, by decide +kernel⟩
abbrev bC_fillRow : ByteArray := prog_1_method_64_code
def yC_fillRow : MethodName := ⟨RC_c, "fillRow", "(I[II)V"⟩
theorem mC_fillRow : mj_M yC_fillRow bC_fillRow 5 3 none := ⟨mj_in (i := 749) (by decide +kernel) (by decide +kernel), mj_in (i := 81) (by decide +kernel) (by decide +kernel), ⟨by decide +kernel, by decide +kernel, by decide +kernel⟩, by decide +kernel, by decide +kernel⟩
abbrev bC_calmest : ByteArray := prog_1_method_33_code
def yC_calmest : MethodName := ⟨RC_c, "calmest", "(II)I"⟩
theorem mC_calmest : mj_M yC_calmest bC_calmest 3 2 (some .int) := ⟨mj_in (i := 755) (by decide +kernel) (by decide +kernel), mj_in (i := 81) (by decide +kernel) (by decide +kernel), ⟨by decide +kernel, by decide +kernel, by decide +kernel⟩, by decide +kernel, by decide +kernel⟩
abbrev bS_findCalmest : ByteArray := prog_5_method_3_code
def yS_findCalmest : MethodName := ⟨RS_c, "findCalmest", "(LLampCave$Aside;I)V"⟩
theorem mS_findCalmest : mj_M yS_findCalmest bS_findCalmest 3 2 none := ⟨mj_in (i := 759) (by decide +kernel) (by decide +kernel), mj_in (i := 85) (by decide +kernel) (by decide +kernel), ⟨by decide +kernel, by decide +kernel, by decide +kernel⟩, by decide +kernel, by decide +kernel⟩
abbrev bC_order : ByteArray := prog_1_method_34_code
def yC_order : MethodName := ⟨RC_c, "order", "(I)I"⟩
theorem mC_order : mj_M yC_order bC_order 5 1 (some .int) := ⟨mj_in (i := 764) (by decide +kernel) (by decide +kernel), mj_in (i := 81) (by decide +kernel) (by decide +kernel), ⟨by decide +kernel, by decide +kernel, by decide +kernel⟩, by decide +kernel, by decide +kernel⟩
abbrev bC_sitByNumbers : ByteArray := prog_1_method_78_code
def yC_sitByNumbers : MethodName := ⟨RC_c, "sitByNumbers", "()V"⟩
theorem mC_sitByNumbers : mj_M yC_sitByNumbers bC_sitByNumbers 2 0 none := ⟨mj_in (i := 768) (by decide +kernel) (by decide +kernel), mj_in (i := 81) (by decide +kernel) (by decide +kernel), ⟨by decide +kernel, by decide +kernel, by decide +kernel⟩, by decide +kernel, by decide +kernel⟩
abbrev bC_holdingAsSeated : ByteArray := prog_1_method_80_code
def yC_holdingAsSeated : MethodName := ⟨RC_c, "holdingAsSeated", "()I"⟩
theorem mC_holdingAsSeated : mj_M yC_holdingAsSeated bC_holdingAsSeated 1 0 (some .int) := ⟨mj_in (i := 772) (by decide +kernel) (by decide +kernel), mj_in (i := 81) (by decide +kernel) (by decide +kernel), ⟨by decide +kernel, by decide +kernel, by decide +kernel⟩, by decide +kernel, by decide +kernel⟩
abbrev bA_sit : ByteArray := prog_2_method_3_code
def yA_sit : MethodName := ⟨RA_c, "sit", "([I)V"⟩
theorem mA_sit : mj_M yA_sit bA_sit 3 1 none := ⟨mj_in (i := 776) (by decide +kernel) (by decide +kernel), mj_in (i := 84) (by decide +kernel) (by decide +kernel), ⟨by decide +kernel, by decide +kernel, by decide +kernel⟩, by decide +kernel, by decide +kernel⟩
abbrev bC_nextSeating : ByteArray := prog_1_method_81_code
def yC_nextSeating : MethodName := ⟨RC_c, "nextSeating", "()Z"⟩
theorem mC_nextSeating : mj_M yC_nextSeating bC_nextSeating 5 0 (some .boolean) := ⟨mj_in (i := 780) (by decide +kernel) (by decide +kernel), mj_in (i := 81) (by decide +kernel) (by decide +kernel), ⟨by decide +kernel, by decide +kernel, by decide +kernel⟩, by decide +kernel, by decide +kernel⟩
abbrev bC_exchangeSeats : ByteArray := prog_1_method_79_code
def yC_exchangeSeats : MethodName := ⟨RC_c, "exchangeSeats", "(II)V"⟩
theorem mC_exchangeSeats : mj_M yC_exchangeSeats bC_exchangeSeats 4 2 none := ⟨mj_in (i := 784) (by decide +kernel) (by decide +kernel), mj_in (i := 81) (by decide +kernel) (by decide +kernel), ⟨by decide +kernel, by decide +kernel, by decide +kernel⟩, by decide +kernel, by decide +kernel⟩
abbrev bC_swap : ByteArray := prog_1_method_35_code
def yC_swap : MethodName := ⟨RC_c, "swap", "()I"⟩
theorem mC_swap : mj_M yC_swap bC_swap 6 0 (some .int) := ⟨mj_in (i := 788) (by decide +kernel) (by decide +kernel), mj_in (i := 81) (by decide +kernel) (by decide +kernel), ⟨by decide +kernel, by decide +kernel, by decide +kernel⟩, by decide +kernel, by decide +kernel⟩
abbrev bC_spare : ByteArray := prog_1_method_36_code
def yC_spare : MethodName := ⟨RC_c, "spare", "(I)I"⟩
theorem mC_spare : mj_M yC_spare bC_spare 3 1 (some .int) := ⟨mj_in (i := 792) (by decide +kernel) (by decide +kernel), mj_in (i := 81) (by decide +kernel) (by decide +kernel), ⟨by decide +kernel, by decide +kernel, by decide +kernel⟩, by decide +kernel, by decide +kernel⟩
abbrev bC_teller : ByteArray := prog_1_method_37_code
def yC_teller : MethodName := ⟨RC_c, "teller", "()I"⟩
theorem mC_teller : mj_M yC_teller bC_teller 5 0 (some .int) := ⟨mj_in (i := 796) (by decide +kernel) (by decide +kernel), mj_in (i := 81) (by decide +kernel) (by decide +kernel), ⟨by decide +kernel, by decide +kernel, by decide +kernel⟩, by decide +kernel, by decide +kernel⟩
abbrev bC_judge : ByteArray := prog_1_method_38_code
def yC_judge : MethodName := ⟨RC_c, "judge", "(I)I"⟩
theorem mC_judge : mj_M yC_judge bC_judge 8 1 (some .int) := ⟨mj_in (i := 800) (by decide +kernel) (by decide +kernel), mj_in (i := 81) (by decide +kernel) (by decide +kernel), ⟨by decide +kernel, by decide +kernel, by decide +kernel⟩, by decide +kernel, by decide +kernel⟩
abbrev bC_handingsRefusal : ByteArray := prog_1_method_63_code
def yC_handingsRefusal : MethodName := ⟨RC_c, "handingsRefusal", "(I)I"⟩
theorem mC_handingsRefusal : mj_M yC_handingsRefusal bC_handingsRefusal 3 1 (some .int) := ⟨mj_in (i := 804) (by decide +kernel) (by decide +kernel), mj_in (i := 81) (by decide +kernel) (by decide +kernel), ⟨by decide +kernel, by decide +kernel, by decide +kernel⟩, by decide +kernel, by decide +kernel⟩
abbrev bC_liars : ByteArray := prog_1_method_39_code
def yC_liars : MethodName := ⟨RC_c, "liars", "(I)I"⟩
theorem mC_liars : mj_M yC_liars bC_liars 7 1 (some .int) := ⟨mj_in (i := 808) (by decide +kernel) (by decide +kernel), mj_in (i := 81) (by decide +kernel) (by decide +kernel), ⟨by decide +kernel, by decide +kernel, by decide +kernel⟩, by decide +kernel, by decide +kernel⟩
abbrev bC_allByLaw : ByteArray := prog_1_method_77_code
def yC_allByLaw : MethodName := ⟨RC_c, "allByLaw", "(I)Z"⟩
theorem mC_allByLaw : mj_M yC_allByLaw bC_allByLaw 3 1 (some .boolean) := ⟨mj_in (i := 813) (by decide +kernel) (by decide +kernel), mj_in (i := 81) (by decide +kernel) (by decide +kernel), ⟨by decide +kernel, by decide +kernel, by decide +kernel⟩, by decide +kernel, by decide +kernel⟩
abbrev bC_grows : ByteArray := prog_1_method_40_code
def yC_grows : MethodName := ⟨RC_c, "grows", "(II)I"⟩
theorem mC_grows : mj_M yC_grows bC_grows 3 2 (some .int) := ⟨mj_in (i := 817) (by decide +kernel) (by decide +kernel), mj_in (i := 81) (by decide +kernel) (by decide +kernel), ⟨by decide +kernel, by decide +kernel, by decide +kernel⟩, by decide +kernel, by decide +kernel⟩
abbrev bC_figuresThatFit : ByteArray := prog_1_method_76_code
def yC_figuresThatFit : MethodName := ⟨RC_c, "figuresThatFit", "(II[I)I"⟩
theorem mC_figuresThatFit : mj_M yC_figuresThatFit bC_figuresThatFit 7 3 (some .int) := ⟨mj_in (i := 821) (by decide +kernel) (by decide +kernel), mj_in (i := 81) (by decide +kernel) (by decide +kernel), ⟨by decide +kernel, by decide +kernel, by decide +kernel⟩, by decide +kernel, by decide +kernel⟩
abbrev bC_fears : ByteArray := prog_1_method_41_code
def yC_fears : MethodName := ⟨RC_c, "fears", "(II)I"⟩
theorem mC_fears : mj_M yC_fears bC_fears 3 2 (some .int) := ⟨mj_in (i := 825) (by decide +kernel) (by decide +kernel), mj_in (i := 81) (by decide +kernel) (by decide +kernel), ⟨by decide +kernel, by decide +kernel, by decide +kernel⟩, by decide +kernel, by decide +kernel⟩
abbrev bC_tell : ByteArray := prog_1_method_42_code
def yC_tell : MethodName := ⟨RC_c, "tell", "(III)I"⟩
theorem mC_tell : mj_M yC_tell bC_tell 5 3 (some .int) := ⟨mj_in (i := 829) (by decide +kernel) (by decide +kernel), mj_in (i := 81) (by decide +kernel) (by decide +kernel), ⟨by decide +kernel, by decide +kernel, by decide +kernel⟩, by decide +kernel, by decide +kernel⟩
abbrev bC_visit : ByteArray := prog_1_method_43_code
def yC_visit : MethodName := ⟨RC_c, "visit", "(II)I"⟩
theorem mC_visit : mj_M yC_visit bC_visit 7 2 (some .int) := ⟨mj_in (i := 833) (by decide +kernel) (by decide +kernel), mj_in (i := 81) (by decide +kernel) (by decide +kernel), ⟨by decide +kernel, by decide +kernel, by decide +kernel⟩, by decide +kernel, by decide +kernel⟩
abbrev bC_asked : ByteArray := prog_1_method_44_code
def yC_asked : MethodName := ⟨RC_c, "asked", "()I"⟩
theorem mC_asked : mj_M yC_asked bC_asked 1 0 (some .int) := ⟨mj_in (i := 839) (by decide +kernel) (by decide +kernel), mj_in (i := 81) (by decide +kernel) (by decide +kernel), ⟨by decide +kernel, by decide +kernel, by decide +kernel⟩, by decide +kernel, by decide +kernel⟩
abbrev bC_upper : ByteArray := prog_1_method_45_code
def yC_upper : MethodName := ⟨RC_c, "upper", "()J"⟩
theorem mC_upper : mj_M yC_upper bC_upper 3 0 (some .long) := ⟨mj_in (i := 843) (by decide +kernel) (by decide +kernel), mj_in (i := 81) (by decide +kernel) (by decide +kernel), ⟨by decide +kernel, by decide +kernel, by decide +kernel⟩, by decide +kernel, by decide +kernel⟩
abbrev bV_sumOf : ByteArray := prog_3_method_10_code
def yV_sumOf : MethodName := ⟨RV_c, "sumOf", "([I)I"⟩
theorem mV_sumOf : mj_M yV_sumOf bV_sumOf 4 1 (some .int) := ⟨mj_in (i := 847) (by decide +kernel) (by decide +kernel), mj_in (i := 82) (by decide +kernel) (by decide +kernel), ⟨by decide +kernel, by decide +kernel, by decide +kernel⟩, by decide +kernel, by decide +kernel⟩
abbrev bC_greatestDivisor : ByteArray := prog_1_method_73_code
def yC_greatestDivisor : MethodName := ⟨RC_c, "greatestDivisor", "(II)I"⟩
theorem mC_greatestDivisor : mj_M yC_greatestDivisor bC_greatestDivisor 4 2 (some .int) := ⟨mj_in (i := 850) (by decide +kernel) (by decide +kernel), mj_in (i := 81) (by decide +kernel) (by decide +kernel), ⟨by decide +kernel, by decide +kernel, by decide +kernel⟩, by decide +kernel, by decide +kernel⟩
abbrev bC_lower : ByteArray := prog_1_method_46_code
def yC_lower : MethodName := ⟨RC_c, "lower", "()J"⟩
theorem mC_lower : mj_M yC_lower bC_lower 3 0 (some .long) := ⟨mj_in (i := 854) (by decide +kernel) (by decide +kernel), mj_in (i := 81) (by decide +kernel) (by decide +kernel), ⟨by decide +kernel, by decide +kernel, by decide +kernel⟩, by decide +kernel, by decide +kernel⟩
abbrev bC_count : ByteArray := prog_1_method_47_code
def yC_count : MethodName := ⟨RC_c, "count", "(I)I"⟩
theorem mC_count : mj_M yC_count bC_count 2 1 (some .int) := ⟨mj_in (i := 858) (by decide +kernel) (by decide +kernel), mj_in (i := 81) (by decide +kernel) (by decide +kernel), ⟨by decide +kernel, by decide +kernel, by decide +kernel⟩, by decide +kernel, by decide +kernel⟩
abbrev bC_howMany : ByteArray := prog_1_method_66_code
def yC_howMany : MethodName := ⟨RC_c, "howMany", "(I)I"⟩
theorem mC_howMany : mj_M yC_howMany bC_howMany 2 1 (some .int) := ⟨mj_in (i := 862) (by decide +kernel) (by decide +kernel), mj_in (i := 81) (by decide +kernel) (by decide +kernel), ⟨by decide +kernel, by decide +kernel, by decide +kernel⟩, by decide +kernel, by decide +kernel⟩
abbrev bC_keptCaves : ByteArray := prog_1_method_67_code
def yC_keptCaves : MethodName := ⟨RC_c, "keptCaves", "()I"⟩
theorem mC_keptCaves : mj_M yC_keptCaves bC_keptCaves 3 0 (some .int) := ⟨mj_in (i := 866) (by decide +kernel) (by decide +kernel), mj_in (i := 81) (by decide +kernel) (by decide +kernel), ⟨by decide +kernel, by decide +kernel, by decide +kernel⟩, by decide +kernel, by decide +kernel⟩
abbrev bC_keptMinute : ByteArray := prog_1_method_68_code
def yC_keptMinute : MethodName := ⟨RC_c, "keptMinute", "(I)I"⟩
theorem mC_keptMinute : mj_M yC_keptMinute bC_keptMinute 3 1 (some .int) := ⟨mj_in (i := 870) (by decide +kernel) (by decide +kernel), mj_in (i := 81) (by decide +kernel) (by decide +kernel), ⟨by decide +kernel, by decide +kernel, by decide +kernel⟩, by decide +kernel, by decide +kernel⟩
abbrev bC_thereOf : ByteArray := prog_1_method_70_code
def yC_thereOf : MethodName := ⟨RC_c, "thereOf", "([I)I"⟩
theorem mC_thereOf : mj_M yC_thereOf bC_thereOf 6 1 (some .int) := ⟨mj_in (i := 873) (by decide +kernel) (by decide +kernel), mj_in (i := 81) (by decide +kernel) (by decide +kernel), ⟨by decide +kernel, by decide +kernel, by decide +kernel⟩, by decide +kernel, by decide +kernel⟩
abbrev bC_finding : ByteArray := prog_1_method_48_code
def yC_finding : MethodName := ⟨RC_c, "finding", "()I"⟩
theorem mC_finding : mj_M yC_finding bC_finding 1 0 (some .int) := ⟨mj_in (i := 877) (by decide +kernel) (by decide +kernel), mj_in (i := 81) (by decide +kernel) (by decide +kernel), ⟨by decide +kernel, by decide +kernel, by decide +kernel⟩, by decide +kernel, by decide +kernel⟩
abbrev bC_findings : ByteArray := prog_1_method_49_code
def yC_findings : MethodName := ⟨RC_c, "findings", "(I)I"⟩
theorem mC_findings : mj_M yC_findings bC_findings 2 1 (some .int) := ⟨mj_in (i := 881) (by decide +kernel) (by decide +kernel), mj_in (i := 81) (by decide +kernel) (by decide +kernel), ⟨by decide +kernel, by decide +kernel, by decide +kernel⟩, by decide +kernel, by decide +kernel⟩
abbrev bC_digest : ByteArray := prog_1_method_50_code
def yC_digest : MethodName := ⟨RC_c, "digest", "()J"⟩
theorem mC_digest : mj_M yC_digest bC_digest 5 0 (some .long) := ⟨mj_in (i := 885) (by decide +kernel) (by decide +kernel), mj_in (i := 81) (by decide +kernel) (by decide +kernel), ⟨by decide +kernel, by decide +kernel, by decide +kernel⟩, by decide +kernel, by decide +kernel⟩
abbrev bC_withRows : ByteArray := prog_1_method_71_code
def yC_withRows : MethodName := ⟨RC_c, "withRows", "(J)J"⟩
theorem mC_withRows : mj_M yC_withRows bC_withRows 5 1 (some .long) := ⟨mj_in (i := 891) (by decide +kernel) (by decide +kernel), mj_in (i := 81) (by decide +kernel) (by decide +kernel), ⟨by decide +kernel, by decide +kernel, by decide +kernel⟩, by decide +kernel, by decide +kernel⟩
abbrev bC_withTexts : ByteArray := prog_1_method_72_code
def yC_withTexts : MethodName := ⟨RC_c, "withTexts", "(J)J"⟩
theorem mC_withTexts : mj_M yC_withTexts bC_withTexts 5 1 (some .long) := ⟨mj_in (i := 895) (by decide +kernel) (by decide +kernel), mj_in (i := 81) (by decide +kernel) (by decide +kernel), ⟨by decide +kernel, by decide +kernel, by decide +kernel⟩, by decide +kernel, by decide +kernel⟩
abbrev bM_init : ByteArray := prog_7_method_1_code
def yM_init : MethodName := ⟨RM_c, "<init>", "()V"⟩
theorem mM_init : mj_M yM_init bM_init 2 0 none := ⟨mj_in (i := 900) (by decide +kernel) (by decide +kernel), mj_in (i := 87) (by decide +kernel) (by decide +kernel), ⟨by decide +kernel, by decide +kernel, by decide +kernel⟩, by decide +kernel, by decide +kernel⟩
abbrev bM_row : ByteArray := prog_7_method_13_code
def yM_row : MethodName := ⟨RM_c, "row", "(II)I"⟩
theorem mM_row : mj_M yM_row bM_row 4 2 (some .int) := ⟨mj_in (i := 1041) (by decide +kernel) (by decide +kernel), mj_in (i := 87) (by decide +kernel) (by decide +kernel), ⟨by decide +kernel, by decide +kernel, by decide +kernel⟩, by decide +kernel, by decide +kernel⟩
abbrev bM_isRow : ByteArray := prog_7_method_7_code
def yM_isRow : MethodName := ⟨RM_c, "isRow", "(I)Z"⟩
theorem mM_isRow : mj_M yM_isRow bM_isRow 1 1 (some .boolean) := ⟨mj_in (i := 1044) (by decide +kernel) (by decide +kernel), mj_in (i := 87) (by decide +kernel) (by decide +kernel), ⟨by decide +kernel, by decide +kernel, by decide +kernel⟩, by decide +kernel, by decide +kernel⟩
abbrev bM_in : ByteArray := prog_7_method_3_code
def yM_in : MethodName := ⟨RM_c, "in", "(III)Z"⟩
theorem mM_in : mj_M yM_in bM_in 3 3 (some .boolean) := ⟨mj_in (i := 1047) (by decide +kernel) (by decide +kernel), mj_in (i := 87) (by decide +kernel) (by decide +kernel), ⟨by decide +kernel, by decide +kernel, by decide +kernel⟩, by decide +kernel, by decide +kernel⟩
abbrev bM_meet : ByteArray := prog_7_method_4_code
def yM_meet : MethodName := ⟨RM_c, "meet", "(I)I"⟩
theorem mM_meet : mj_M yM_meet bM_meet 2 1 (some .int) := ⟨mj_in (i := 1051) (by decide +kernel) (by decide +kernel), mj_in (i := 87) (by decide +kernel) (by decide +kernel), ⟨by decide +kernel, by decide +kernel, by decide +kernel⟩, by decide +kernel, by decide +kernel⟩
abbrev bM_setRow : ByteArray := prog_7_method_12_code
def yM_setRow : MethodName := ⟨RM_c, "setRow", "(III)V"⟩
theorem mM_setRow : mj_M yM_setRow bM_setRow 4 3 none := ⟨mj_in (i := 1055) (by decide +kernel) (by decide +kernel), mj_in (i := 87) (by decide +kernel) (by decide +kernel), ⟨by decide +kernel, by decide +kernel, by decide +kernel⟩, by decide +kernel, by decide +kernel⟩
abbrev bM_at : ByteArray := prog_7_method_14_code
def yM_at : MethodName := ⟨RM_c, "at", "(II)I"⟩
theorem mM_at : mj_M yM_at bM_at 4 2 (some .int) := ⟨mj_in (i := 1059) (by decide +kernel) (by decide +kernel), mj_in (i := 87) (by decide +kernel) (by decide +kernel), ⟨by decide +kernel, by decide +kernel, by decide +kernel⟩, by decide +kernel, by decide +kernel⟩
abbrev bM_askedRow : ByteArray := prog_7_method_9_code
def yM_askedRow : MethodName := ⟨RM_c, "askedRow", "(I)I"⟩
theorem mM_askedRow : mj_M yM_askedRow bM_askedRow 2 1 (some .int) := ⟨mj_in (i := 1063) (by decide +kernel) (by decide +kernel), mj_in (i := 87) (by decide +kernel) (by decide +kernel), ⟨by decide +kernel, by decide +kernel, by decide +kernel⟩, by decide +kernel, by decide +kernel⟩
abbrev bM_rowAt : ByteArray := prog_7_method_11_code
def yM_rowAt : MethodName := ⟨RM_c, "rowAt", "(II)I"⟩
theorem mM_rowAt : mj_M yM_rowAt bM_rowAt 3 2 (some .int) := ⟨mj_in (i := 1067) (by decide +kernel) (by decide +kernel), mj_in (i := 87) (by decide +kernel) (by decide +kernel), ⟨by decide +kernel, by decide +kernel, by decide +kernel⟩, by decide +kernel, by decide +kernel⟩
abbrev bM_ask : ByteArray := prog_7_method_5_code
def yM_ask : MethodName := ⟨RM_c, "ask", "(II)I"⟩
theorem mM_ask : mj_M yM_ask bM_ask 3 2 (some .int) := ⟨mj_in (i := 1071) (by decide +kernel) (by decide +kernel), mj_in (i := 87) (by decide +kernel) (by decide +kernel), ⟨by decide +kernel, by decide +kernel, by decide +kernel⟩, by decide +kernel, by decide +kernel⟩
abbrev bM_lay : ByteArray := prog_7_method_15_code
def yM_lay : MethodName := ⟨RM_c, "lay", "(III)I"⟩
theorem mM_lay : mj_M yM_lay bM_lay 5 3 (some .int) := ⟨mj_in (i := 1075) (by decide +kernel) (by decide +kernel), mj_in (i := 87) (by decide +kernel) (by decide +kernel), ⟨by decide +kernel, by decide +kernel, by decide +kernel⟩, by decide +kernel, by decide +kernel⟩
abbrev bM_tear : ByteArray := prog_7_method_16_code
def yM_tear : MethodName := ⟨RM_c, "tear", "(I)I"⟩
theorem mM_tear : mj_M yM_tear bM_tear 3 1 (some .int) := ⟨mj_in (i := 1080) (by decide +kernel) (by decide +kernel), mj_in (i := 87) (by decide +kernel) (by decide +kernel), ⟨by decide +kernel, by decide +kernel, by decide +kernel⟩, by decide +kernel, by decide +kernel⟩
abbrev bM_copy : ByteArray := prog_7_method_17_code
def yM_copy : MethodName := ⟨RM_c, "copy", "(IIIII)I"⟩
theorem mM_copy : mj_M yM_copy bM_copy 7 5 (some .int) := ⟨mj_in (i := 1084) (by decide +kernel) (by decide +kernel), mj_in (i := 87) (by decide +kernel) (by decide +kernel), ⟨by decide +kernel, by decide +kernel, by decide +kernel⟩, by decide +kernel, by decide +kernel⟩
abbrev bM_mean : ByteArray := prog_7_method_18_code
def yM_mean : MethodName := ⟨RM_c, "mean", "(I)I"⟩
theorem mM_mean : mj_M yM_mean bM_mean 6 1 (some .int) := ⟨mj_in (i := 1088) (by decide +kernel) (by decide +kernel), mj_in (i := 87) (by decide +kernel) (by decide +kernel), ⟨by decide +kernel, by decide +kernel, by decide +kernel⟩, by decide +kernel, by decide +kernel⟩
abbrev bM_text : ByteArray := prog_7_method_19_code
def yM_text : MethodName := ⟨RM_c, "text", "(II)I"⟩
theorem mM_text : mj_M yM_text bM_text 4 2 (some .int) := ⟨mj_in (i := 1092) (by decide +kernel) (by decide +kernel), mj_in (i := 87) (by decide +kernel) (by decide +kernel), ⟨by decide +kernel, by decide +kernel, by decide +kernel⟩, by decide +kernel, by decide +kernel⟩
abbrev bM_isText : ByteArray := prog_7_method_8_code
def yM_isText : MethodName := ⟨RM_c, "isText", "(I)Z"⟩
theorem mM_isText : mj_M yM_isText bM_isText 1 1 (some .boolean) := ⟨mj_in (i := 1095) (by decide +kernel) (by decide +kernel), mj_in (i := 87) (by decide +kernel) (by decide +kernel), ⟨by decide +kernel, by decide +kernel, by decide +kernel⟩, by decide +kernel, by decide +kernel⟩
abbrev bM_put : ByteArray := prog_7_method_20_code
def yM_put : MethodName := ⟨RM_c, "put", "(III)I"⟩
theorem mM_put : mj_M yM_put bM_put 6 3 (some .int) := ⟨mj_in (i := 1099) (by decide +kernel) (by decide +kernel), mj_in (i := 87) (by decide +kernel) (by decide +kernel), ⟨by decide +kernel, by decide +kernel, by decide +kernel⟩, by decide +kernel, by decide +kernel⟩
abbrev bM_askedText : ByteArray := prog_7_method_10_code
def yM_askedText : MethodName := ⟨RM_c, "askedText", "(I)I"⟩
theorem mM_askedText : mj_M yM_askedText bM_askedText 2 1 (some .int) := ⟨mj_in (i := 1103) (by decide +kernel) (by decide +kernel), mj_in (i := 87) (by decide +kernel) (by decide +kernel), ⟨by decide +kernel, by decide +kernel, by decide +kernel⟩, by decide +kernel, by decide +kernel⟩
abbrev bM_fault : ByteArray := prog_7_method_27_code
def yM_fault : MethodName := ⟨RM_c, "fault", "(I)I"⟩
theorem mM_fault : mj_M yM_fault bM_fault 3 1 (some .int) := ⟨mj_in (i := 1107) (by decide +kernel) (by decide +kernel), mj_in (i := 87) (by decide +kernel) (by decide +kernel), ⟨by decide +kernel, by decide +kernel, by decide +kernel⟩, by decide +kernel, by decide +kernel⟩
abbrev bM_goesOn : ByteArray := prog_7_method_26_code
def yM_goesOn : MethodName := ⟨RM_c, "goesOn", "(I)I"⟩
theorem mM_goesOn : mj_M yM_goesOn bM_goesOn 2 1 (some .int) := ⟨mj_in (i := 1111) (by decide +kernel) (by decide +kernel), mj_in (i := 87) (by decide +kernel) (by decide +kernel), ⟨by decide +kernel, by decide +kernel, by decide +kernel⟩, by decide +kernel, by decide +kernel⟩
abbrev bM_here : ByteArray := prog_7_method_21_code
def yM_here : MethodName := ⟨RM_c, "here", "(I)I"⟩
theorem mM_here : mj_M yM_here bM_here 2 1 (some .int) := ⟨mj_in (i := 1115) (by decide +kernel) (by decide +kernel), mj_in (i := 87) (by decide +kernel) (by decide +kernel), ⟨by decide +kernel, by decide +kernel, by decide +kernel⟩, by decide +kernel, by decide +kernel⟩
abbrev bM_readsHead : ByteArray := prog_7_method_24_code
def yM_readsHead : MethodName := ⟨RM_c, "readsHead", "(I)Z"⟩
theorem mM_readsHead : mj_M yM_readsHead bM_readsHead 5 1 (some .boolean) := ⟨mj_in (i := 1119) (by decide +kernel) (by decide +kernel), mj_in (i := 87) (by decide +kernel) (by decide +kernel), ⟨by decide +kernel, by decide +kernel, by decide +kernel⟩, by decide +kernel, by decide +kernel⟩
abbrev bM_figure : ByteArray := prog_7_method_23_code
def yM_figure : MethodName := ⟨RM_c, "figure", "(III)I"⟩
theorem mM_figure : mj_M yM_figure bM_figure 5 3 (some .int) := ⟨mj_in (i := 1123) (by decide +kernel) (by decide +kernel), mj_in (i := 87) (by decide +kernel) (by decide +kernel), ⟨by decide +kernel, by decide +kernel, by decide +kernel⟩, by decide +kernel, by decide +kernel⟩
abbrev bM_readsPerson : ByteArray := prog_7_method_25_code
def yM_readsPerson : MethodName := ⟨RM_c, "readsPerson", "(I)Z"⟩
theorem mM_readsPerson : mj_M yM_readsPerson bM_readsPerson 8 1 (some .boolean) := ⟨mj_in (i := 1127) (by decide +kernel) (by decide +kernel), mj_in (i := 87) (by decide +kernel) (by decide +kernel), ⟨by decide +kernel, by decide +kernel, by decide +kernel⟩, by decide +kernel, by decide +kernel⟩
abbrev bM_kindOf : ByteArray := prog_7_method_22_code
def yM_kindOf : MethodName := ⟨RM_c, "kindOf", "(I)I"⟩
theorem mM_kindOf : mj_M yM_kindOf bM_kindOf 1 1 (some .int) := ⟨mj_in (i := 1130) (by decide +kernel) (by decide +kernel), mj_in (i := 87) (by decide +kernel) (by decide +kernel), ⟨by decide +kernel, by decide +kernel, by decide +kernel⟩, by decide +kernel, by decide +kernel⟩
abbrev bM_cave : ByteArray := prog_7_method_28_code
def yM_cave : MethodName := ⟨RM_c, "cave", "(I)I"⟩
theorem mM_cave : mj_M yM_cave bM_cave 4 1 (some .int) := ⟨mj_in (i := 1134) (by decide +kernel) (by decide +kernel), mj_in (i := 87) (by decide +kernel) (by decide +kernel), ⟨by decide +kernel, by decide +kernel, by decide +kernel⟩, by decide +kernel, by decide +kernel⟩
abbrev bM_person : ByteArray := prog_7_method_34_code
def yM_person : MethodName := ⟨RM_c, "person", "(II)I"⟩
theorem mM_person : mj_M yM_person bM_person 3 2 (some .int) := ⟨mj_in (i := 1138) (by decide +kernel) (by decide +kernel), mj_in (i := 87) (by decide +kernel) (by decide +kernel), ⟨by decide +kernel, by decide +kernel, by decide +kernel⟩, by decide +kernel, by decide +kernel⟩
abbrev bM_isOne : ByteArray := prog_7_method_29_code
def yM_isOne : MethodName := ⟨RM_c, "isOne", "(I)Z"⟩
theorem mM_isOne : mj_M yM_isOne bM_isOne 2 1 (some .boolean) := ⟨mj_in (i := 1142) (by decide +kernel) (by decide +kernel), mj_in (i := 87) (by decide +kernel) (by decide +kernel), ⟨by decide +kernel, by decide +kernel, by decide +kernel⟩, by decide +kernel, by decide +kernel⟩
abbrev bM_personOf : ByteArray := prog_7_method_33_code
def yM_personOf : MethodName := ⟨RM_c, "personOf", "(II)I"⟩
theorem mM_personOf : mj_M yM_personOf bM_personOf 3 2 (some .int) := ⟨mj_in (i := 1146) (by decide +kernel) (by decide +kernel), mj_in (i := 87) (by decide +kernel) (by decide +kernel), ⟨by decide +kernel, by decide +kernel, by decide +kernel⟩, by decide +kernel, by decide +kernel⟩
abbrev bM_showsOf : ByteArray := prog_7_method_31_code
def yM_showsOf : MethodName := ⟨RM_c, "showsOf", "(I)I"⟩
theorem mM_showsOf : mj_M yM_showsOf bM_showsOf 3 1 (some .int) := ⟨mj_in (i := 1150) (by decide +kernel) (by decide +kernel), mj_in (i := 87) (by decide +kernel) (by decide +kernel), ⟨by decide +kernel, by decide +kernel, by decide +kernel⟩, by decide +kernel, by decide +kernel⟩
abbrev bM_has : ByteArray := prog_7_method_6_code
def yM_has : MethodName := ⟨RM_c, "has", "(II)Z"⟩
theorem mM_has : mj_M yM_has bM_has 2 2 (some .boolean) := ⟨mj_in (i := 1153) (by decide +kernel) (by decide +kernel), mj_in (i := 87) (by decide +kernel) (by decide +kernel), ⟨by decide +kernel, by decide +kernel, by decide +kernel⟩, by decide +kernel, by decide +kernel⟩
abbrev bM_mark : ByteArray := prog_7_method_35_code
def yM_mark : MethodName := ⟨RM_c, "mark", "(II)I"⟩
theorem mM_mark : mj_M yM_mark bM_mark 7 2 (some .int) := ⟨mj_in (i := 1157) (by decide +kernel) (by decide +kernel), mj_in (i := 87) (by decide +kernel) (by decide +kernel), ⟨by decide +kernel, by decide +kernel, by decide +kernel⟩, by decide +kernel, by decide +kernel⟩
abbrev bM_isCalm : ByteArray := prog_7_method_30_code
def yM_isCalm : MethodName := ⟨RM_c, "isCalm", "(I)Z"⟩
theorem mM_isCalm : mj_M yM_isCalm bM_isCalm 2 1 (some .boolean) := ⟨mj_in (i := 1161) (by decide +kernel) (by decide +kernel), mj_in (i := 87) (by decide +kernel) (by decide +kernel), ⟨by decide +kernel, by decide +kernel, by decide +kernel⟩, by decide +kernel, by decide +kernel⟩
abbrev bM_isBeside : ByteArray := prog_7_method_32_code
def yM_isBeside : MethodName := ⟨RM_c, "isBeside", "(II)Z"⟩
theorem mM_isBeside : mj_M yM_isBeside bM_isBeside 4 2 (some .boolean) := ⟨mj_in (i := 1165) (by decide +kernel) (by decide +kernel), mj_in (i := 87) (by decide +kernel) (by decide +kernel), ⟨by decide +kernel, by decide +kernel, by decide +kernel⟩, by decide +kernel, by decide +kernel⟩
abbrev bM_law : ByteArray := prog_7_method_36_code
def yM_law : MethodName := ⟨RM_c, "law", "(I)I"⟩
theorem mM_law : mj_M yM_law bM_law 3 1 (some .int) := ⟨mj_in (i := 1169) (by decide +kernel) (by decide +kernel), mj_in (i := 87) (by decide +kernel) (by decide +kernel), ⟨by decide +kernel, by decide +kernel, by decide +kernel⟩, by decide +kernel, by decide +kernel⟩
abbrev bM_oil : ByteArray := prog_7_method_37_code
def yM_oil : MethodName := ⟨RM_c, "oil", "(I)I"⟩
theorem mM_oil : mj_M yM_oil bM_oil 3 1 (some .int) := ⟨mj_in (i := 1173) (by decide +kernel) (by decide +kernel), mj_in (i := 87) (by decide +kernel) (by decide +kernel), ⟨by decide +kernel, by decide +kernel, by decide +kernel⟩, by decide +kernel, by decide +kernel⟩
abbrev bM_fear : ByteArray := prog_7_method_38_code
def yM_fear : MethodName := ⟨RM_c, "fear", "(II)I"⟩
theorem mM_fear : mj_M yM_fear bM_fear 4 2 (some .int) := ⟨mj_in (i := 1177) (by decide +kernel) (by decide +kernel), mj_in (i := 87) (by decide +kernel) (by decide +kernel), ⟨by decide +kernel, by decide +kernel, by decide +kernel⟩, by decide +kernel, by decide +kernel⟩
abbrev bM_minutes : ByteArray := prog_7_method_45_code
def yM_minutes : MethodName := ⟨RM_c, "minutes", "(I)I"⟩
theorem mM_minutes : mj_M yM_minutes bM_minutes 3 1 (some .int) := ⟨mj_in (i := 1181) (by decide +kernel) (by decide +kernel), mj_in (i := 87) (by decide +kernel) (by decide +kernel), ⟨by decide +kernel, by decide +kernel, by decide +kernel⟩, by decide +kernel, by decide +kernel⟩
abbrev bM_isOver : ByteArray := prog_7_method_43_code
def yM_isOver : MethodName := ⟨RM_c, "isOver", "()Z"⟩
theorem mM_isOver : mj_M yM_isOver bM_isOver 1 0 (some .boolean) := ⟨mj_in (i := 1185) (by decide +kernel) (by decide +kernel), mj_in (i := 87) (by decide +kernel) (by decide +kernel), ⟨by decide +kernel, by decide +kernel, by decide +kernel⟩, by decide +kernel, by decide +kernel⟩
abbrev bM_screaming : ByteArray := prog_7_method_42_code
def yM_screaming : MethodName := ⟨RM_c, "screaming", "()I"⟩
theorem mM_screaming : mj_M yM_screaming bM_screaming 3 0 (some .int) := ⟨mj_in (i := 1189) (by decide +kernel) (by decide +kernel), mj_in (i := 87) (by decide +kernel) (by decide +kernel), ⟨by decide +kernel, by decide +kernel, by decide +kernel⟩, by decide +kernel, by decide +kernel⟩
abbrev bM_nextBy : ByteArray := prog_7_method_40_code
def yM_nextBy : MethodName := ⟨RM_c, "nextBy", "(I)I"⟩
theorem mM_nextBy : mj_M yM_nextBy bM_nextBy 5 1 (some .int) := ⟨mj_in (i := 1193) (by decide +kernel) (by decide +kernel), mj_in (i := 87) (by decide +kernel) (by decide +kernel), ⟨by decide +kernel, by decide +kernel, by decide +kernel⟩, by decide +kernel, by decide +kernel⟩
abbrev bM_mostOf : ByteArray := prog_7_method_39_code
def yM_mostOf : MethodName := ⟨RM_c, "mostOf", "(I)I"⟩
theorem mM_mostOf : mj_M yM_mostOf bM_mostOf 4 1 (some .int) := ⟨mj_in (i := 1197) (by decide +kernel) (by decide +kernel), mj_in (i := 87) (by decide +kernel) (by decide +kernel), ⟨by decide +kernel, by decide +kernel, by decide +kernel⟩, by decide +kernel, by decide +kernel⟩
abbrev bM_goMinute : ByteArray := prog_7_method_44_code
def yM_goMinute : MethodName := ⟨RM_c, "goMinute", "(I)V"⟩
theorem mM_goMinute : mj_M yM_goMinute bM_goMinute 3 1 none := ⟨mj_in (i := 1201) (by decide +kernel) (by decide +kernel), mj_in (i := 87) (by decide +kernel) (by decide +kernel), ⟨by decide +kernel, by decide +kernel, by decide +kernel⟩, by decide +kernel, by decide +kernel⟩
abbrev bM_passMinute : ByteArray := prog_7_method_41_code
def yM_passMinute : MethodName := ⟨RM_c, "passMinute", "(I)V"⟩
theorem mM_passMinute : mj_M yM_passMinute bM_passMinute 8 1 none := ⟨mj_in (i := 1205) (by decide +kernel) (by decide +kernel), mj_in (i := 87) (by decide +kernel) (by decide +kernel), ⟨by decide +kernel, by decide +kernel, by decide +kernel⟩, by decide +kernel, by decide +kernel⟩
abbrev bM_hand : ByteArray := prog_7_method_46_code
def yM_hand : MethodName := ⟨RM_c, "hand", "(I)I"⟩
theorem mM_hand : mj_M yM_hand bM_hand 2 1 (some .int) := ⟨mj_in (i := 1209) (by decide +kernel) (by decide +kernel), mj_in (i := 87) (by decide +kernel) (by decide +kernel), ⟨by decide +kernel, by decide +kernel, by decide +kernel⟩, by decide +kernel, by decide +kernel⟩
abbrev bM_next : ByteArray := prog_7_method_47_code
def yM_next : MethodName := ⟨RM_c, "next", "()I"⟩
theorem mM_next : mj_M yM_next bM_next 1 0 (some .int) := ⟨mj_in (i := 1213) (by decide +kernel) (by decide +kernel), mj_in (i := 87) (by decide +kernel) (by decide +kernel), ⟨by decide +kernel, by decide +kernel, by decide +kernel⟩, by decide +kernel, by decide +kernel⟩
abbrev bM_had : ByteArray := prog_7_method_48_code
def yM_had : MethodName := ⟨RM_c, "had", "(I)I"⟩
theorem mM_had : mj_M yM_had bM_had 2 1 (some .int) := ⟨mj_in (i := 1217) (by decide +kernel) (by decide +kernel), mj_in (i := 87) (by decide +kernel) (by decide +kernel), ⟨by decide +kernel, by decide +kernel, by decide +kernel⟩, by decide +kernel, by decide +kernel⟩
abbrev bM_undo : ByteArray := prog_7_method_49_code
def yM_undo : MethodName := ⟨RM_c, "undo", "(I)I"⟩
theorem mM_undo : mj_M yM_undo bM_undo 4 1 (some .int) := ⟨mj_in (i := 1221) (by decide +kernel) (by decide +kernel), mj_in (i := 87) (by decide +kernel) (by decide +kernel), ⟨by decide +kernel, by decide +kernel, by decide +kernel⟩, by decide +kernel, by decide +kernel⟩
abbrev bM_over : ByteArray := prog_7_method_50_code
def yM_over : MethodName := ⟨RM_c, "over", "()I"⟩
theorem mM_over : mj_M yM_over bM_over 1 0 (some .int) := ⟨mj_in (i := 1225) (by decide +kernel) (by decide +kernel), mj_in (i := 87) (by decide +kernel) (by decide +kernel), ⟨by decide +kernel, by decide +kernel, by decide +kernel⟩, by decide +kernel, by decide +kernel⟩
abbrev bM_story : ByteArray := prog_7_method_53_code
def yM_story : MethodName := ⟨RM_c, "story", "(I)I"⟩
theorem mM_story : mj_M yM_story bM_story 2 1 (some .int) := ⟨mj_in (i := 1229) (by decide +kernel) (by decide +kernel), mj_in (i := 87) (by decide +kernel) (by decide +kernel), ⟨by decide +kernel, by decide +kernel, by decide +kernel⟩, by decide +kernel, by decide +kernel⟩
abbrev bM_tellStory : ByteArray := prog_7_method_52_code
def yM_tellStory : MethodName := ⟨RM_c, "tellStory", "(I)V"⟩
theorem mM_tellStory : mj_M yM_tellStory bM_tellStory 3 1 none := ⟨mj_in (i := 1233) (by decide +kernel) (by decide +kernel), mj_in (i := 87) (by decide +kernel) (by decide +kernel), ⟨by decide +kernel, by decide +kernel, by decide +kernel⟩, by decide +kernel, by decide +kernel⟩
abbrev bM_allFears : ByteArray := prog_7_method_51_code
def yM_allFears : MethodName := ⟨RM_c, "allFears", "()I"⟩
theorem mM_allFears : mj_M yM_allFears bM_allFears 3 0 (some .int) := ⟨mj_in (i := 1237) (by decide +kernel) (by decide +kernel), mj_in (i := 87) (by decide +kernel) (by decide +kernel), ⟨by decide +kernel, by decide +kernel, by decide +kernel⟩, by decide +kernel, by decide +kernel⟩
abbrev bM_song : ByteArray := prog_7_method_54_code
def yM_song : MethodName := ⟨RM_c, "song", "(I)I"⟩
theorem mM_song : mj_M yM_song bM_song 4 1 (some .int) := ⟨mj_in (i := 1241) (by decide +kernel) (by decide +kernel), mj_in (i := 87) (by decide +kernel) (by decide +kernel), ⟨by decide +kernel, by decide +kernel, by decide +kernel⟩, by decide +kernel, by decide +kernel⟩
abbrev bM_keep : ByteArray := prog_7_method_55_code
def yM_keep : MethodName := ⟨RM_c, "keep", "(I)I"⟩
theorem mM_keep : mj_M yM_keep bM_keep 4 1 (some .int) := ⟨mj_in (i := 1245) (by decide +kernel) (by decide +kernel), mj_in (i := 87) (by decide +kernel) (by decide +kernel), ⟨by decide +kernel, by decide +kernel, by decide +kernel⟩, by decide +kernel, by decide +kernel⟩
abbrev bM_on : ByteArray := prog_7_method_56_code
def yM_on : MethodName := ⟨RM_c, "on", "(I)I"⟩
theorem mM_on : mj_M yM_on bM_on 4 1 (some .int) := ⟨mj_in (i := 1249) (by decide +kernel) (by decide +kernel), mj_in (i := 87) (by decide +kernel) (by decide +kernel), ⟨by decide +kernel, by decide +kernel, by decide +kernel⟩, by decide +kernel, by decide +kernel⟩
abbrev bM_holds : ByteArray := prog_7_method_60_code
def yM_holds : MethodName := ⟨RM_c, "holds", "(I)I"⟩
theorem mM_holds : mj_M yM_holds bM_holds 3 1 (some .int) := ⟨mj_in (i := 1253) (by decide +kernel) (by decide +kernel), mj_in (i := 87) (by decide +kernel) (by decide +kernel), ⟨by decide +kernel, by decide +kernel, by decide +kernel⟩, by decide +kernel, by decide +kernel⟩
abbrev bM_holdsOf : ByteArray := prog_7_method_59_code
def yM_holdsOf : MethodName := ⟨RM_c, "holdsOf", "(I)I"⟩
theorem mM_holdsOf : mj_M yM_holdsOf bM_holdsOf 3 1 (some .int) := ⟨mj_in (i := 1257) (by decide +kernel) (by decide +kernel), mj_in (i := 87) (by decide +kernel) (by decide +kernel), ⟨by decide +kernel, by decide +kernel, by decide +kernel⟩, by decide +kernel, by decide +kernel⟩
abbrev bM_putAside : ByteArray := prog_7_method_57_code
def yM_putAside : MethodName := ⟨RM_c, "putAside", "()V"⟩
theorem mM_putAside : mj_M yM_putAside bM_putAside 2 0 none := ⟨mj_in (i := 1261) (by decide +kernel) (by decide +kernel), mj_in (i := 87) (by decide +kernel) (by decide +kernel), ⟨by decide +kernel, by decide +kernel, by decide +kernel⟩, by decide +kernel, by decide +kernel⟩
abbrev bM_comeBack : ByteArray := prog_7_method_58_code
def yM_comeBack : MethodName := ⟨RM_c, "comeBack", "()V"⟩
theorem mM_comeBack : mj_M yM_comeBack bM_comeBack 2 0 none := ⟨mj_in (i := 1265) (by decide +kernel) (by decide +kernel), mj_in (i := 87) (by decide +kernel) (by decide +kernel), ⟨by decide +kernel, by decide +kernel, by decide +kernel⟩, by decide +kernel, by decide +kernel⟩
abbrev bM_best : ByteArray := prog_7_method_62_code
def yM_best : MethodName := ⟨RM_c, "best", "()I"⟩
theorem mM_best : mj_M yM_best bM_best 5 0 (some .int) := ⟨mj_in (i := 1269) (by decide +kernel) (by decide +kernel), mj_in (i := 87) (by decide +kernel) (by decide +kernel), ⟨by decide +kernel, by decide +kernel, by decide +kernel⟩, by decide +kernel, by decide +kernel⟩
abbrev bM_longBy : ByteArray := prog_7_method_61_code
def yM_longBy : MethodName := ⟨RM_c, "longBy", "(I)I"⟩
theorem mM_longBy : mj_M yM_longBy bM_longBy 1 1 (some .int) := ⟨mj_in (i := 1272) (by decide +kernel) (by decide +kernel), mj_in (i := 87) (by decide +kernel) (by decide +kernel), ⟨by decide +kernel, by decide +kernel, by decide +kernel⟩, by decide +kernel, by decide +kernel⟩
abbrev bM_rest : ByteArray := prog_7_method_65_code
def yM_rest : MethodName := ⟨RM_c, "rest", "()I"⟩
theorem mM_rest : mj_M yM_rest bM_rest 3 0 (some .int) := ⟨mj_in (i := 1277) (by decide +kernel) (by decide +kernel), mj_in (i := 87) (by decide +kernel) (by decide +kernel), ⟨by decide +kernel, by decide +kernel, by decide +kernel⟩, by decide +kernel, by decide +kernel⟩
abbrev bM_setPast : ByteArray := prog_7_method_63_code
def yM_setPast : MethodName := ⟨RM_c, "setPast", "(I)V"⟩
theorem mM_setPast : mj_M yM_setPast bM_setPast 4 1 none := ⟨mj_in (i := 1281) (by decide +kernel) (by decide +kernel), mj_in (i := 87) (by decide +kernel) (by decide +kernel), ⟨by decide +kernel, by decide +kernel, by decide +kernel⟩, by decide +kernel, by decide +kernel⟩
abbrev bM_isPast : ByteArray := prog_7_method_64_code
def yM_isPast : MethodName := ⟨RM_c, "isPast", "(I)Z"⟩
theorem mM_isPast : mj_M yM_isPast bM_isPast 5 1 (some .boolean) := ⟨mj_in (i := 1285) (by decide +kernel) (by decide +kernel), mj_in (i := 87) (by decide +kernel) (by decide +kernel), ⟨by decide +kernel, by decide +kernel, by decide +kernel⟩, by decide +kernel, by decide +kernel⟩
abbrev bM_worst : ByteArray := prog_7_method_69_code
def yM_worst : MethodName := ⟨RM_c, "worst", "(I)I"⟩
theorem mM_worst : mj_M yM_worst bM_worst 4 1 (some .int) := ⟨mj_in (i := 1289) (by decide +kernel) (by decide +kernel), mj_in (i := 87) (by decide +kernel) (by decide +kernel), ⟨by decide +kernel, by decide +kernel, by decide +kernel⟩, by decide +kernel, by decide +kernel⟩
abbrev bM_isSpan : ByteArray := prog_7_method_67_code
def yM_isSpan : MethodName := ⟨RM_c, "isSpan", "(I)Z"⟩
theorem mM_isSpan : mj_M yM_isSpan bM_isSpan 1 1 (some .boolean) := ⟨mj_in (i := 1292) (by decide +kernel) (by decide +kernel), mj_in (i := 87) (by decide +kernel) (by decide +kernel), ⟨by decide +kernel, by decide +kernel, by decide +kernel⟩, by decide +kernel, by decide +kernel⟩
abbrev bM_pass : ByteArray := prog_7_method_68_code
def yM_pass : MethodName := ⟨RM_c, "pass", "(II)V"⟩
theorem mM_pass : mj_M yM_pass bM_pass 4 2 none := ⟨mj_in (i := 1296) (by decide +kernel) (by decide +kernel), mj_in (i := 87) (by decide +kernel) (by decide +kernel), ⟨by decide +kernel, by decide +kernel, by decide +kernel⟩, by decide +kernel, by decide +kernel⟩
abbrev bM_greatest : ByteArray := prog_7_method_66_code
def yM_greatest : MethodName := ⟨RM_c, "greatest", "()I"⟩
theorem mM_greatest : mj_M yM_greatest bM_greatest 3 0 (some .int) := ⟨mj_in (i := 1300) (by decide +kernel) (by decide +kernel), mj_in (i := 87) (by decide +kernel) (by decide +kernel), ⟨by decide +kernel, by decide +kernel, by decide +kernel⟩, by decide +kernel, by decide +kernel⟩
abbrev bM_often : ByteArray := prog_7_method_70_code
def yM_often : MethodName := ⟨RM_c, "often", "(II)I"⟩
theorem mM_often : mj_M yM_often bM_often 3 2 (some .int) := ⟨mj_in (i := 1304) (by decide +kernel) (by decide +kernel), mj_in (i := 87) (by decide +kernel) (by decide +kernel), ⟨by decide +kernel, by decide +kernel, by decide +kernel⟩, by decide +kernel, by decide +kernel⟩
abbrev bM_longest : ByteArray := prog_7_method_76_code
def yM_longest : MethodName := ⟨RM_c, "longest", "(I)I"⟩
theorem mM_longest : mj_M yM_longest bM_longest 2 1 (some .int) := ⟨mj_in (i := 1308) (by decide +kernel) (by decide +kernel), mj_in (i := 87) (by decide +kernel) (by decide +kernel), ⟨by decide +kernel, by decide +kernel, by decide +kernel⟩, by decide +kernel, by decide +kernel⟩
abbrev bM_longOn : ByteArray := prog_7_method_74_code
def yM_longOn : MethodName := ⟨RM_c, "longOn", "(I)V"⟩
theorem mM_longOn : mj_M yM_longOn bM_longOn 3 1 none := ⟨mj_in (i := 1312) (by decide +kernel) (by decide +kernel), mj_in (i := 87) (by decide +kernel) (by decide +kernel), ⟨by decide +kernel, by decide +kernel, by decide +kernel⟩, by decide +kernel, by decide +kernel⟩
abbrev bM_copyLaid : ByteArray := prog_7_method_73_code
def yM_copyLaid : MethodName := ⟨RM_c, "copyLaid", "(I)V"⟩
theorem mM_copyLaid : mj_M yM_copyLaid bM_copyLaid 3 1 none := ⟨mj_in (i := 1316) (by decide +kernel) (by decide +kernel), mj_in (i := 87) (by decide +kernel) (by decide +kernel), ⟨by decide +kernel, by decide +kernel, by decide +kernel⟩, by decide +kernel, by decide +kernel⟩
abbrev bM_putDepth : ByteArray := prog_7_method_71_code
def yM_putDepth : MethodName := ⟨RM_c, "putDepth", "(I)V"⟩
theorem mM_putDepth : mj_M yM_putDepth bM_putDepth 3 1 none := ⟨mj_in (i := 1320) (by decide +kernel) (by decide +kernel), mj_in (i := 87) (by decide +kernel) (by decide +kernel), ⟨by decide +kernel, by decide +kernel, by decide +kernel⟩, by decide +kernel, by decide +kernel⟩
abbrev bM_backTo : ByteArray := prog_7_method_72_code
def yM_backTo : MethodName := ⟨RM_c, "backTo", "(I)V"⟩
theorem mM_backTo : mj_M yM_backTo bM_backTo 3 1 none := ⟨mj_in (i := 1324) (by decide +kernel) (by decide +kernel), mj_in (i := 87) (by decide +kernel) (by decide +kernel), ⟨by decide +kernel, by decide +kernel, by decide +kernel⟩, by decide +kernel, by decide +kernel⟩
abbrev bM_layBest : ByteArray := prog_7_method_75_code
def yM_layBest : MethodName := ⟨RM_c, "layBest", "(II)V"⟩
theorem mM_layBest : mj_M yM_layBest bM_layBest 4 2 none := ⟨mj_in (i := 1328) (by decide +kernel) (by decide +kernel), mj_in (i := 87) (by decide +kernel) (by decide +kernel), ⟨by decide +kernel, by decide +kernel, by decide +kernel⟩, by decide +kernel, by decide +kernel⟩
abbrev bM_calmest : ByteArray := prog_7_method_78_code
def yM_calmest : MethodName := ⟨RM_c, "calmest", "(II)I"⟩
theorem mM_calmest : mj_M yM_calmest bM_calmest 3 2 (some .int) := ⟨mj_in (i := 1333) (by decide +kernel) (by decide +kernel), mj_in (i := 87) (by decide +kernel) (by decide +kernel), ⟨by decide +kernel, by decide +kernel, by decide +kernel⟩, by decide +kernel, by decide +kernel⟩
abbrev bM_calmOn : ByteArray := prog_7_method_77_code
def yM_calmOn : MethodName := ⟨RM_c, "calmOn", "(II)V"⟩
theorem mM_calmOn : mj_M yM_calmOn bM_calmOn 4 2 none := ⟨mj_in (i := 1337) (by decide +kernel) (by decide +kernel), mj_in (i := 87) (by decide +kernel) (by decide +kernel), ⟨by decide +kernel, by decide +kernel, by decide +kernel⟩, by decide +kernel, by decide +kernel⟩
abbrev bM_order : ByteArray := prog_7_method_81_code
def yM_order : MethodName := ⟨RM_c, "order", "(I)I"⟩
theorem mM_order : mj_M yM_order bM_order 3 1 (some .int) := ⟨mj_in (i := 1341) (by decide +kernel) (by decide +kernel), mj_in (i := 87) (by decide +kernel) (by decide +kernel), ⟨by decide +kernel, by decide +kernel, by decide +kernel⟩, by decide +kernel, by decide +kernel⟩
abbrev bM_orderOn : ByteArray := prog_7_method_80_code
def yM_orderOn : MethodName := ⟨RM_c, "orderOn", "(II)V"⟩
theorem mM_orderOn : mj_M yM_orderOn bM_orderOn 5 2 none := ⟨mj_in (i := 1345) (by decide +kernel) (by decide +kernel), mj_in (i := 87) (by decide +kernel) (by decide +kernel), ⟨by decide +kernel, by decide +kernel, by decide +kernel⟩, by decide +kernel, by decide +kernel⟩
abbrev bM_holdsSo : ByteArray := prog_7_method_79_code
def yM_holdsSo : MethodName := ⟨RM_c, "holdsSo", "()I"⟩
theorem mM_holdsSo : mj_M yM_holdsSo bM_holdsSo 3 0 (some .int) := ⟨mj_in (i := 1349) (by decide +kernel) (by decide +kernel), mj_in (i := 87) (by decide +kernel) (by decide +kernel), ⟨by decide +kernel, by decide +kernel, by decide +kernel⟩, by decide +kernel, by decide +kernel⟩
abbrev bM_swap : ByteArray := prog_7_method_82_code
def yM_swap : MethodName := ⟨RM_c, "swap", "()I"⟩
theorem mM_swap : mj_M yM_swap bM_swap 6 0 (some .int) := ⟨mj_in (i := 1353) (by decide +kernel) (by decide +kernel), mj_in (i := 87) (by decide +kernel) (by decide +kernel), ⟨by decide +kernel, by decide +kernel, by decide +kernel⟩, by decide +kernel, by decide +kernel⟩
abbrev bM_spare : ByteArray := prog_7_method_83_code
def yM_spare : MethodName := ⟨RM_c, "spare", "(I)I"⟩
theorem mM_spare : mj_M yM_spare bM_spare 5 1 (some .int) := ⟨mj_in (i := 1357) (by decide +kernel) (by decide +kernel), mj_in (i := 87) (by decide +kernel) (by decide +kernel), ⟨by decide +kernel, by decide +kernel, by decide +kernel⟩, by decide +kernel, by decide +kernel⟩
abbrev bM_teller : ByteArray := prog_7_method_84_code
def yM_teller : MethodName := ⟨RM_c, "teller", "()I"⟩
theorem mM_teller : mj_M yM_teller bM_teller 5 0 (some .int) := ⟨mj_in (i := 1361) (by decide +kernel) (by decide +kernel), mj_in (i := 87) (by decide +kernel) (by decide +kernel), ⟨by decide +kernel, by decide +kernel, by decide +kernel⟩, by decide +kernel, by decide +kernel⟩
abbrev bM_judge : ByteArray := prog_7_method_87_code
def yM_judge : MethodName := ⟨RM_c, "judge", "(I)I"⟩
theorem mM_judge : mj_M yM_judge bM_judge 4 1 (some .int) := ⟨mj_in (i := 1365) (by decide +kernel) (by decide +kernel), mj_in (i := 87) (by decide +kernel) (by decide +kernel), ⟨by decide +kernel, by decide +kernel, by decide +kernel⟩, by decide +kernel, by decide +kernel⟩
abbrev bM_askedHandings : ByteArray := prog_7_method_85_code
def yM_askedHandings : MethodName := ⟨RM_c, "askedHandings", "(I)I"⟩
theorem mM_askedHandings : mj_M yM_askedHandings bM_askedHandings 4 1 (some .int) := ⟨mj_in (i := 1369) (by decide +kernel) (by decide +kernel), mj_in (i := 87) (by decide +kernel) (by decide +kernel), ⟨by decide +kernel, by decide +kernel, by decide +kernel⟩, by decide +kernel, by decide +kernel⟩
abbrev bM_judged : ByteArray := prog_7_method_86_code
def yM_judged : MethodName := ⟨RM_c, "judged", "(I)I"⟩
theorem mM_judged : mj_M yM_judged bM_judged 5 1 (some .int) := ⟨mj_in (i := 1373) (by decide +kernel) (by decide +kernel), mj_in (i := 87) (by decide +kernel) (by decide +kernel), ⟨by decide +kernel, by decide +kernel, by decide +kernel⟩, by decide +kernel, by decide +kernel⟩
abbrev bM_liars : ByteArray := prog_7_method_88_code
def yM_liars : MethodName := ⟨RM_c, "liars", "(I)I"⟩
theorem mM_liars : mj_M yM_liars bM_liars 8 1 (some .int) := ⟨mj_in (i := 1377) (by decide +kernel) (by decide +kernel), mj_in (i := 87) (by decide +kernel) (by decide +kernel), ⟨by decide +kernel, by decide +kernel, by decide +kernel⟩, by decide +kernel, by decide +kernel⟩
abbrev bM_grows : ByteArray := prog_7_method_90_code
def yM_grows : MethodName := ⟨RM_c, "grows", "(II)I"⟩
theorem mM_grows : mj_M yM_grows bM_grows 7 2 (some .int) := ⟨mj_in (i := 1381) (by decide +kernel) (by decide +kernel), mj_in (i := 87) (by decide +kernel) (by decide +kernel), ⟨by decide +kernel, by decide +kernel, by decide +kernel⟩, by decide +kernel, by decide +kernel⟩
abbrev bM_askedOf : ByteArray := prog_7_method_89_code
def yM_askedOf : MethodName := ⟨RM_c, "askedOf", "(II)I"⟩
theorem mM_askedOf : mj_M yM_askedOf bM_askedOf 3 2 (some .int) := ⟨mj_in (i := 1385) (by decide +kernel) (by decide +kernel), mj_in (i := 87) (by decide +kernel) (by decide +kernel), ⟨by decide +kernel, by decide +kernel, by decide +kernel⟩, by decide +kernel, by decide +kernel⟩
abbrev bM_fears : ByteArray := prog_7_method_91_code
def yM_fears : MethodName := ⟨RM_c, "fears", "(II)I"⟩
theorem mM_fears : mj_M yM_fears bM_fears 7 2 (some .int) := ⟨mj_in (i := 1389) (by decide +kernel) (by decide +kernel), mj_in (i := 87) (by decide +kernel) (by decide +kernel), ⟨by decide +kernel, by decide +kernel, by decide +kernel⟩, by decide +kernel, by decide +kernel⟩
abbrev bM_tell : ByteArray := prog_7_method_92_code
def yM_tell : MethodName := ⟨RM_c, "tell", "(III)I"⟩
theorem mM_tell : mj_M yM_tell bM_tell 6 3 (some .int) := ⟨mj_in (i := 1393) (by decide +kernel) (by decide +kernel), mj_in (i := 87) (by decide +kernel) (by decide +kernel), ⟨by decide +kernel, by decide +kernel, by decide +kernel⟩, by decide +kernel, by decide +kernel⟩
abbrev bM_visit : ByteArray := prog_7_method_93_code
def yM_visit : MethodName := ⟨RM_c, "visit", "(II)I"⟩
theorem mM_visit : mj_M yM_visit bM_visit 7 2 (some .int) := ⟨mj_in (i := 1397) (by decide +kernel) (by decide +kernel), mj_in (i := 87) (by decide +kernel) (by decide +kernel), ⟨by decide +kernel, by decide +kernel, by decide +kernel⟩, by decide +kernel, by decide +kernel⟩
abbrev bM_asked : ByteArray := prog_7_method_94_code
def yM_asked : MethodName := ⟨RM_c, "asked", "()I"⟩
theorem mM_asked : mj_M yM_asked bM_asked 1 0 (some .int) := ⟨mj_in (i := 1404) (by decide +kernel) (by decide +kernel), mj_in (i := 87) (by decide +kernel) (by decide +kernel), ⟨by decide +kernel, by decide +kernel, by decide +kernel⟩, by decide +kernel, by decide +kernel⟩
abbrev bM_upper : ByteArray := prog_7_method_97_code
def yM_upper : MethodName := ⟨RM_c, "upper", "()J"⟩
theorem mM_upper : mj_M yM_upper bM_upper 1 0 (some .long) := ⟨mj_in (i := 1408) (by decide +kernel) (by decide +kernel), mj_in (i := 87) (by decide +kernel) (by decide +kernel), ⟨by decide +kernel, by decide +kernel, by decide +kernel⟩, by decide +kernel, by decide +kernel⟩
abbrev bM_allScreams : ByteArray := prog_7_method_95_code
def yM_allScreams : MethodName := ⟨RM_c, "allScreams", "()I"⟩
theorem mM_allScreams : mj_M yM_allScreams bM_allScreams 3 0 (some .int) := ⟨mj_in (i := 1412) (by decide +kernel) (by decide +kernel), mj_in (i := 87) (by decide +kernel) (by decide +kernel), ⟨by decide +kernel, by decide +kernel, by decide +kernel⟩, by decide +kernel, by decide +kernel⟩
abbrev bM_divisor : ByteArray := prog_7_method_96_code
def yM_divisor : MethodName := ⟨RM_c, "divisor", "(II)I"⟩
theorem mM_divisor : mj_M yM_divisor bM_divisor 5 2 (some .int) := ⟨mj_in (i := 1415) (by decide +kernel) (by decide +kernel), mj_in (i := 87) (by decide +kernel) (by decide +kernel), ⟨by decide +kernel, by decide +kernel, by decide +kernel⟩, by decide +kernel, by decide +kernel⟩
abbrev bM_lower : ByteArray := prog_7_method_98_code
def yM_lower : MethodName := ⟨RM_c, "lower", "()J"⟩
theorem mM_lower : mj_M yM_lower bM_lower 1 0 (some .long) := ⟨mj_in (i := 1419) (by decide +kernel) (by decide +kernel), mj_in (i := 87) (by decide +kernel) (by decide +kernel), ⟨by decide +kernel, by decide +kernel, by decide +kernel⟩, by decide +kernel, by decide +kernel⟩
abbrev bM_count : ByteArray := prog_7_method_100_code
def yM_count : MethodName := ⟨RM_c, "count", "(I)I"⟩
theorem mM_count : mj_M yM_count bM_count 2 1 (some .int) := ⟨mj_in (i := 1423) (by decide +kernel) (by decide +kernel), mj_in (i := 87) (by decide +kernel) (by decide +kernel), ⟨by decide +kernel, by decide +kernel, by decide +kernel⟩, by decide +kernel, by decide +kernel⟩
abbrev bM_tells : ByteArray := prog_7_method_99_code
def yM_tells : MethodName := ⟨RM_c, "tells", "(I)I"⟩
theorem mM_tells : mj_M yM_tells bM_tells 4 1 (some .int) := ⟨mj_in (i := 1427) (by decide +kernel) (by decide +kernel), mj_in (i := 87) (by decide +kernel) (by decide +kernel), ⟨by decide +kernel, by decide +kernel, by decide +kernel⟩, by decide +kernel, by decide +kernel⟩
abbrev bM_finding : ByteArray := prog_7_method_101_code
def yM_finding : MethodName := ⟨RM_c, "finding", "()I"⟩
theorem mM_finding : mj_M yM_finding bM_finding 1 0 (some .int) := ⟨mj_in (i := 1431) (by decide +kernel) (by decide +kernel), mj_in (i := 87) (by decide +kernel) (by decide +kernel), ⟨by decide +kernel, by decide +kernel, by decide +kernel⟩, by decide +kernel, by decide +kernel⟩
abbrev bM_findings : ByteArray := prog_7_method_102_code
def yM_findings : MethodName := ⟨RM_c, "findings", "(I)I"⟩
theorem mM_findings : mj_M yM_findings bM_findings 2 1 (some .int) := ⟨mj_in (i := 1435) (by decide +kernel) (by decide +kernel), mj_in (i := 87) (by decide +kernel) (by decide +kernel), ⟨by decide +kernel, by decide +kernel, by decide +kernel⟩, by decide +kernel, by decide +kernel⟩
abbrev bM_digest : ByteArray := prog_7_method_105_code
def yM_digest : MethodName := ⟨RM_c, "digest", "()J"⟩
theorem mM_digest : mj_M yM_digest bM_digest 3 0 (some .long) := ⟨mj_in (i := 1439) (by decide +kernel) (by decide +kernel), mj_in (i := 87) (by decide +kernel) (by decide +kernel), ⟨by decide +kernel, by decide +kernel, by decide +kernel⟩, by decide +kernel, by decide +kernel⟩
abbrev bM_mix : ByteArray := prog_7_method_103_code
def yM_mix : MethodName := ⟨RM_c, "mix", "(I)V"⟩
theorem mM_mix : mj_M yM_mix bM_mix 2 1 none := ⟨mj_in (i := 1444) (by decide +kernel) (by decide +kernel), mj_in (i := 87) (by decide +kernel) (by decide +kernel), ⟨by decide +kernel, by decide +kernel, by decide +kernel⟩, by decide +kernel, by decide +kernel⟩
abbrev bM_mixCave : ByteArray := prog_7_method_104_code
def yM_mixCave : MethodName := ⟨RM_c, "mixCave", "()V"⟩
theorem mM_mixCave : mj_M yM_mixCave bM_mixCave 3 0 none := ⟨mj_in (i := 1449) (by decide +kernel) (by decide +kernel), mj_in (i := 87) (by decide +kernel) (by decide +kernel), ⟨by decide +kernel, by decide +kernel, by decide +kernel⟩, by decide +kernel, by decide +kernel⟩
end
section
def mj_F (own : String) (idx ci k : Nat) : Prop := ∃ (C : String) (T : u_T) (N : Nat), mj_cl[ci]? = some (C, T, N) ∧ k < N ∧ Cond.fieldLink own idx (T k).1 (T k).2.1 (T k).2.2.1 ∈ mj_ws
def mj_V (own : String) (idx : Nat) (y : MethodName) : Prop := Cond.methodLink own idx y ∈ mj_ws ∧ Cond.instanceMethod y ∈ mj_ws ∧ Cond.selects y.cls y y ∈ mj_ws
def mj_T (own : String) (idx : Nat) (y : MethodName) : Prop := Cond.methodLink own idx y ∈ mj_ws ∧ Cond.static y ∈ mj_ws
theorem mj_acw : Cond.native arraycopyName ∈ mj_ws ∧ Cond.static arraycopyName ∈ mj_ws ∧ Cond.initialized "java/lang/System" ∈ mj_ws := ⟨mj_in (i := 385) (by decide +kernel) (by decide +kernel), mj_in (i := 384) (by decide +kernel) (by decide +kernel), mj_in (i := 88) (by decide +kernel) (by decide +kernel)⟩
theorem fV_36 : mj_F RV_c 36 1 0 := ⟨RV_c, TV_c, 13, rfl, by decide, mj_in (i := 109) (by decide +kernel) (by decide +kernel)⟩
theorem fA_42 : mj_F RA_c 42 1 0 := ⟨RV_c, TV_c, 13, rfl, by decide, mj_in (i := 110) (by decide +kernel) (by decide +kernel)⟩
theorem fR_47 : mj_F RR_c 47 1 0 := ⟨RV_c, TV_c, 13, rfl, by decide, mj_in (i := 111) (by decide +kernel) (by decide +kernel)⟩
theorem fC_128 : mj_F RC_c 128 1 0 := ⟨RV_c, TV_c, 13, rfl, by decide, mj_in (i := 112) (by decide +kernel) (by decide +kernel)⟩
theorem fV_40 : mj_F RV_c 40 1 1 := ⟨RV_c, TV_c, 13, rfl, by decide, mj_in (i := 113) (by decide +kernel) (by decide +kernel)⟩
theorem fA_49 : mj_F RA_c 49 1 1 := ⟨RV_c, TV_c, 13, rfl, by decide, mj_in (i := 114) (by decide +kernel) (by decide +kernel)⟩
theorem fR_58 : mj_F RR_c 58 1 1 := ⟨RV_c, TV_c, 13, rfl, by decide, mj_in (i := 115) (by decide +kernel) (by decide +kernel)⟩
theorem fC_328 : mj_F RC_c 328 1 1 := ⟨RV_c, TV_c, 13, rfl, by decide, mj_in (i := 116) (by decide +kernel) (by decide +kernel)⟩
theorem fV_43 : mj_F RV_c 43 1 2 := ⟨RV_c, TV_c, 13, rfl, by decide, mj_in (i := 117) (by decide +kernel) (by decide +kernel)⟩
theorem fR_64 : mj_F RR_c 64 1 2 := ⟨RV_c, TV_c, 13, rfl, by decide, mj_in (i := 118) (by decide +kernel) (by decide +kernel)⟩
theorem fC_171 : mj_F RC_c 171 1 2 := ⟨RV_c, TV_c, 13, rfl, by decide, mj_in (i := 119) (by decide +kernel) (by decide +kernel)⟩
theorem fV_46 : mj_F RV_c 46 1 3 := ⟨RV_c, TV_c, 13, rfl, by decide, mj_in (i := 120) (by decide +kernel) (by decide +kernel)⟩
theorem fA_53 : mj_F RA_c 53 1 3 := ⟨RV_c, TV_c, 13, rfl, by decide, mj_in (i := 121) (by decide +kernel) (by decide +kernel)⟩
theorem fR_67 : mj_F RR_c 67 1 3 := ⟨RV_c, TV_c, 13, rfl, by decide, mj_in (i := 122) (by decide +kernel) (by decide +kernel)⟩
theorem fC_174 : mj_F RC_c 174 1 3 := ⟨RV_c, TV_c, 13, rfl, by decide, mj_in (i := 123) (by decide +kernel) (by decide +kernel)⟩
theorem fV_49 : mj_F RV_c 49 1 4 := ⟨RV_c, TV_c, 13, rfl, by decide, mj_in (i := 124) (by decide +kernel) (by decide +kernel)⟩
theorem fA_61 : mj_F RA_c 61 1 4 := ⟨RV_c, TV_c, 13, rfl, by decide, mj_in (i := 125) (by decide +kernel) (by decide +kernel)⟩
theorem fC_183 : mj_F RC_c 183 1 4 := ⟨RV_c, TV_c, 13, rfl, by decide, mj_in (i := 126) (by decide +kernel) (by decide +kernel)⟩
theorem fV_9 : mj_F RV_c 9 1 5 := ⟨RV_c, TV_c, 13, rfl, by decide, mj_in (i := 127) (by decide +kernel) (by decide +kernel)⟩
theorem fA_79 : mj_F RA_c 79 1 5 := ⟨RV_c, TV_c, 13, rfl, by decide, mj_in (i := 128) (by decide +kernel) (by decide +kernel)⟩
theorem fR_74 : mj_F RR_c 74 1 5 := ⟨RV_c, TV_c, 13, rfl, by decide, mj_in (i := 129) (by decide +kernel) (by decide +kernel)⟩
theorem fC_137 : mj_F RC_c 137 1 5 := ⟨RV_c, TV_c, 13, rfl, by decide, mj_in (i := 130) (by decide +kernel) (by decide +kernel)⟩
theorem fV_15 : mj_F RV_c 15 1 6 := ⟨RV_c, TV_c, 13, rfl, by decide, mj_in (i := 131) (by decide +kernel) (by decide +kernel)⟩
theorem fA_86 : mj_F RA_c 86 1 6 := ⟨RV_c, TV_c, 13, rfl, by decide, mj_in (i := 132) (by decide +kernel) (by decide +kernel)⟩
theorem fR_78 : mj_F RR_c 78 1 6 := ⟨RV_c, TV_c, 13, rfl, by decide, mj_in (i := 133) (by decide +kernel) (by decide +kernel)⟩
theorem fC_177 : mj_F RC_c 177 1 6 := ⟨RV_c, TV_c, 13, rfl, by decide, mj_in (i := 134) (by decide +kernel) (by decide +kernel)⟩
theorem fV_18 : mj_F RV_c 18 1 7 := ⟨RV_c, TV_c, 13, rfl, by decide, mj_in (i := 135) (by decide +kernel) (by decide +kernel)⟩
theorem fA_87 : mj_F RA_c 87 1 7 := ⟨RV_c, TV_c, 13, rfl, by decide, mj_in (i := 136) (by decide +kernel) (by decide +kernel)⟩
theorem fR_81 : mj_F RR_c 81 1 7 := ⟨RV_c, TV_c, 13, rfl, by decide, mj_in (i := 137) (by decide +kernel) (by decide +kernel)⟩
theorem fC_349 : mj_F RC_c 349 1 7 := ⟨RV_c, TV_c, 13, rfl, by decide, mj_in (i := 138) (by decide +kernel) (by decide +kernel)⟩
theorem fV_21 : mj_F RV_c 21 1 8 := ⟨RV_c, TV_c, 13, rfl, by decide, mj_in (i := 139) (by decide +kernel) (by decide +kernel)⟩
theorem fA_88 : mj_F RA_c 88 1 8 := ⟨RV_c, TV_c, 13, rfl, by decide, mj_in (i := 140) (by decide +kernel) (by decide +kernel)⟩
theorem fR_84 : mj_F RR_c 84 1 8 := ⟨RV_c, TV_c, 13, rfl, by decide, mj_in (i := 141) (by decide +kernel) (by decide +kernel)⟩
theorem fC_350 : mj_F RC_c 350 1 8 := ⟨RV_c, TV_c, 13, rfl, by decide, mj_in (i := 142) (by decide +kernel) (by decide +kernel)⟩
theorem fV_24 : mj_F RV_c 24 1 9 := ⟨RV_c, TV_c, 13, rfl, by decide, mj_in (i := 143) (by decide +kernel) (by decide +kernel)⟩
theorem fA_89 : mj_F RA_c 89 1 9 := ⟨RV_c, TV_c, 13, rfl, by decide, mj_in (i := 144) (by decide +kernel) (by decide +kernel)⟩
theorem fR_87 : mj_F RR_c 87 1 9 := ⟨RV_c, TV_c, 13, rfl, by decide, mj_in (i := 145) (by decide +kernel) (by decide +kernel)⟩
theorem fC_315 : mj_F RC_c 315 1 9 := ⟨RV_c, TV_c, 13, rfl, by decide, mj_in (i := 146) (by decide +kernel) (by decide +kernel)⟩
theorem fV_27 : mj_F RV_c 27 1 10 := ⟨RV_c, TV_c, 13, rfl, by decide, mj_in (i := 147) (by decide +kernel) (by decide +kernel)⟩
theorem fC_197 : mj_F RC_c 197 1 10 := ⟨RV_c, TV_c, 13, rfl, by decide, mj_in (i := 148) (by decide +kernel) (by decide +kernel)⟩
theorem fV_30 : mj_F RV_c 30 1 11 := ⟨RV_c, TV_c, 13, rfl, by decide, mj_in (i := 149) (by decide +kernel) (by decide +kernel)⟩
theorem fV_33 : mj_F RV_c 33 1 12 := ⟨RV_c, TV_c, 13, rfl, by decide, mj_in (i := 150) (by decide +kernel) (by decide +kernel)⟩
theorem fR_9 : mj_F RR_c 9 2 0 := ⟨RR_c, TR_c, 4, rfl, by decide, mj_in (i := 187) (by decide +kernel) (by decide +kernel)⟩
theorem fR_21 : mj_F RR_c 21 2 1 := ⟨RR_c, TR_c, 4, rfl, by decide, mj_in (i := 188) (by decide +kernel) (by decide +kernel)⟩
theorem fR_25 : mj_F RR_c 25 2 2 := ⟨RR_c, TR_c, 4, rfl, by decide, mj_in (i := 189) (by decide +kernel) (by decide +kernel)⟩
theorem fR_28 : mj_F RR_c 28 2 3 := ⟨RR_c, TR_c, 4, rfl, by decide, mj_in (i := 190) (by decide +kernel) (by decide +kernel)⟩
theorem fA_48 : mj_F RA_c 48 0 0 := ⟨RA_c, TA_c, 17, rfl, by decide, mj_in (i := 206) (by decide +kernel) (by decide +kernel)⟩
theorem fS_59 : mj_F RS_c 59 0 0 := ⟨RA_c, TA_c, 17, rfl, by decide, mj_in (i := 207) (by decide +kernel) (by decide +kernel)⟩
theorem fA_52 : mj_F RA_c 52 0 1 := ⟨RA_c, TA_c, 17, rfl, by decide, mj_in (i := 208) (by decide +kernel) (by decide +kernel)⟩
theorem fA_56 : mj_F RA_c 56 0 2 := ⟨RA_c, TA_c, 17, rfl, by decide, mj_in (i := 209) (by decide +kernel) (by decide +kernel)⟩
theorem fV_58 : mj_F RV_c 58 0 2 := ⟨RA_c, TA_c, 17, rfl, by decide, mj_in (i := 210) (by decide +kernel) (by decide +kernel)⟩
theorem fC_286 : mj_F RC_c 286 0 2 := ⟨RA_c, TA_c, 17, rfl, by decide, mj_in (i := 211) (by decide +kernel) (by decide +kernel)⟩
theorem fA_57 : mj_F RA_c 57 0 3 := ⟨RA_c, TA_c, 17, rfl, by decide, mj_in (i := 212) (by decide +kernel) (by decide +kernel)⟩
theorem fC_231 : mj_F RC_c 231 0 3 := ⟨RA_c, TA_c, 17, rfl, by decide, mj_in (i := 213) (by decide +kernel) (by decide +kernel)⟩
theorem fA_64 : mj_F RA_c 64 0 4 := ⟨RA_c, TA_c, 17, rfl, by decide, mj_in (i := 214) (by decide +kernel) (by decide +kernel)⟩
theorem fV_61 : mj_F RV_c 61 0 4 := ⟨RA_c, TA_c, 17, rfl, by decide, mj_in (i := 215) (by decide +kernel) (by decide +kernel)⟩
theorem fA_69 : mj_F RA_c 69 0 5 := ⟨RA_c, TA_c, 17, rfl, by decide, mj_in (i := 216) (by decide +kernel) (by decide +kernel)⟩
theorem fA_76 : mj_F RA_c 76 0 6 := ⟨RA_c, TA_c, 17, rfl, by decide, mj_in (i := 217) (by decide +kernel) (by decide +kernel)⟩
theorem fC_293 : mj_F RC_c 293 0 6 := ⟨RA_c, TA_c, 17, rfl, by decide, mj_in (i := 218) (by decide +kernel) (by decide +kernel)⟩
theorem fA_9 : mj_F RA_c 9 0 7 := ⟨RA_c, TA_c, 17, rfl, by decide, mj_in (i := 219) (by decide +kernel) (by decide +kernel)⟩
theorem fA_15 : mj_F RA_c 15 0 8 := ⟨RA_c, TA_c, 17, rfl, by decide, mj_in (i := 220) (by decide +kernel) (by decide +kernel)⟩
theorem fV_62 : mj_F RV_c 62 0 8 := ⟨RA_c, TA_c, 17, rfl, by decide, mj_in (i := 221) (by decide +kernel) (by decide +kernel)⟩
theorem fC_306 : mj_F RC_c 306 0 8 := ⟨RA_c, TA_c, 17, rfl, by decide, mj_in (i := 222) (by decide +kernel) (by decide +kernel)⟩
theorem fA_18 : mj_F RA_c 18 0 9 := ⟨RA_c, TA_c, 17, rfl, by decide, mj_in (i := 223) (by decide +kernel) (by decide +kernel)⟩
theorem fA_21 : mj_F RA_c 21 0 10 := ⟨RA_c, TA_c, 17, rfl, by decide, mj_in (i := 224) (by decide +kernel) (by decide +kernel)⟩
theorem fC_299 : mj_F RC_c 299 0 10 := ⟨RA_c, TA_c, 17, rfl, by decide, mj_in (i := 225) (by decide +kernel) (by decide +kernel)⟩
theorem fA_24 : mj_F RA_c 24 0 11 := ⟨RA_c, TA_c, 17, rfl, by decide, mj_in (i := 226) (by decide +kernel) (by decide +kernel)⟩
theorem fA_27 : mj_F RA_c 27 0 12 := ⟨RA_c, TA_c, 17, rfl, by decide, mj_in (i := 227) (by decide +kernel) (by decide +kernel)⟩
theorem fA_30 : mj_F RA_c 30 0 13 := ⟨RA_c, TA_c, 17, rfl, by decide, mj_in (i := 228) (by decide +kernel) (by decide +kernel)⟩
theorem fA_33 : mj_F RA_c 33 0 14 := ⟨RA_c, TA_c, 17, rfl, by decide, mj_in (i := 229) (by decide +kernel) (by decide +kernel)⟩
theorem fA_36 : mj_F RA_c 36 0 15 := ⟨RA_c, TA_c, 17, rfl, by decide, mj_in (i := 230) (by decide +kernel) (by decide +kernel)⟩
theorem fC_250 : mj_F RC_c 250 0 15 := ⟨RA_c, TA_c, 17, rfl, by decide, mj_in (i := 231) (by decide +kernel) (by decide +kernel)⟩
theorem fA_39 : mj_F RA_c 39 0 16 := ⟨RA_c, TA_c, 17, rfl, by decide, mj_in (i := 232) (by decide +kernel) (by decide +kernel)⟩
theorem fS_9 : mj_F RS_c 9 3 0 := ⟨RS_c, TS_c, 6, rfl, by decide, mj_in (i := 274) (by decide +kernel) (by decide +kernel)⟩
theorem fS_18 : mj_F RS_c 18 3 1 := ⟨RS_c, TS_c, 6, rfl, by decide, mj_in (i := 275) (by decide +kernel) (by decide +kernel)⟩
theorem fS_22 : mj_F RS_c 22 3 2 := ⟨RS_c, TS_c, 6, rfl, by decide, mj_in (i := 276) (by decide +kernel) (by decide +kernel)⟩
theorem fS_15 : mj_F RS_c 15 3 3 := ⟨RS_c, TS_c, 6, rfl, by decide, mj_in (i := 277) (by decide +kernel) (by decide +kernel)⟩
theorem fC_256 : mj_F RC_c 256 3 3 := ⟨RS_c, TS_c, 6, rfl, by decide, mj_in (i := 278) (by decide +kernel) (by decide +kernel)⟩
theorem fS_26 : mj_F RS_c 26 3 4 := ⟨RS_c, TS_c, 6, rfl, by decide, mj_in (i := 279) (by decide +kernel) (by decide +kernel)⟩
theorem fC_259 : mj_F RC_c 259 3 4 := ⟨RS_c, TS_c, 6, rfl, by decide, mj_in (i := 280) (by decide +kernel) (by decide +kernel)⟩
theorem fS_39 : mj_F RS_c 39 3 5 := ⟨RS_c, TS_c, 6, rfl, by decide, mj_in (i := 281) (by decide +kernel) (by decide +kernel)⟩
theorem fC_270 : mj_F RC_c 270 3 5 := ⟨RS_c, TS_c, 6, rfl, by decide, mj_in (i := 282) (by decide +kernel) (by decide +kernel)⟩
theorem vC_77 : mj_T RC_c 77 yY_fillI := ⟨mj_in (i := 296) (by decide +kernel) (by decide +kernel), mj_in (i := 297) (by decide +kernel) (by decide +kernel)⟩
theorem fC_11 : mj_F RC_c 11 4 0 := ⟨RC_c, TC_c, 15, rfl, by decide, mj_in (i := 299) (by decide +kernel) (by decide +kernel)⟩
theorem fC_14 : mj_F RC_c 14 4 1 := ⟨RC_c, TC_c, 15, rfl, by decide, mj_in (i := 300) (by decide +kernel) (by decide +kernel)⟩
theorem fC_20 : mj_F RC_c 20 4 2 := ⟨RC_c, TC_c, 15, rfl, by decide, mj_in (i := 301) (by decide +kernel) (by decide +kernel)⟩
theorem fC_23 : mj_F RC_c 23 4 3 := ⟨RC_c, TC_c, 15, rfl, by decide, mj_in (i := 302) (by decide +kernel) (by decide +kernel)⟩
theorem fC_29 : mj_F RC_c 29 4 4 := ⟨RC_c, TC_c, 15, rfl, by decide, mj_in (i := 303) (by decide +kernel) (by decide +kernel)⟩
theorem fC_33 : mj_F RC_c 33 4 5 := ⟨RC_c, TC_c, 15, rfl, by decide, mj_in (i := 304) (by decide +kernel) (by decide +kernel)⟩
theorem fC_36 : mj_F RC_c 36 4 6 := ⟨RC_c, TC_c, 15, rfl, by decide, mj_in (i := 305) (by decide +kernel) (by decide +kernel)⟩
theorem fC_43 : mj_F RC_c 43 4 7 := ⟨RC_c, TC_c, 15, rfl, by decide, mj_in (i := 306) (by decide +kernel) (by decide +kernel)⟩
theorem fC_50 : mj_F RC_c 50 4 8 := ⟨RC_c, TC_c, 15, rfl, by decide, mj_in (i := 307) (by decide +kernel) (by decide +kernel)⟩
theorem fC_57 : mj_F RC_c 57 4 9 := ⟨RC_c, TC_c, 15, rfl, by decide, mj_in (i := 308) (by decide +kernel) (by decide +kernel)⟩
theorem fC_61 : mj_F RC_c 61 4 10 := ⟨RC_c, TC_c, 15, rfl, by decide, mj_in (i := 309) (by decide +kernel) (by decide +kernel)⟩
theorem fC_64 : mj_F RC_c 64 4 11 := ⟨RC_c, TC_c, 15, rfl, by decide, mj_in (i := 310) (by decide +kernel) (by decide +kernel)⟩
theorem fC_67 : mj_F RC_c 67 4 12 := ⟨RC_c, TC_c, 15, rfl, by decide, mj_in (i := 311) (by decide +kernel) (by decide +kernel)⟩
theorem fC_70 : mj_F RC_c 70 4 13 := ⟨RC_c, TC_c, 15, rfl, by decide, mj_in (i := 312) (by decide +kernel) (by decide +kernel)⟩
theorem fC_74 : mj_F RC_c 74 4 14 := ⟨RC_c, TC_c, 15, rfl, by decide, mj_in (i := 313) (by decide +kernel) (by decide +kernel)⟩
theorem vL_13 : mj_V RL_c 13 yC_row := ⟨mj_in (i := 345) (by decide +kernel) (by decide +kernel), mj_in (i := 346) (by decide +kernel) (by decide +kernel), mj_in (i := 347) (by decide +kernel) (by decide +kernel)⟩
theorem vC_83 : mj_T RC_c 83 yC_isRow := ⟨mj_in (i := 349) (by decide +kernel) (by decide +kernel), mj_in (i := 350) (by decide +kernel) (by decide +kernel)⟩
theorem vC_87 : mj_V RC_c 87 yC_found := ⟨mj_in (i := 352) (by decide +kernel) (by decide +kernel), mj_in (i := 354) (by decide +kernel) (by decide +kernel), mj_in (i := 0) (by decide +kernel) (by decide +kernel)⟩
theorem vL_18 : mj_V RL_c 18 yC_lay := ⟨mj_in (i := 356) (by decide +kernel) (by decide +kernel), mj_in (i := 357) (by decide +kernel) (by decide +kernel), mj_in (i := 358) (by decide +kernel) (by decide +kernel)⟩
theorem vC_91 : mj_V RC_c 91 yC_placeRefusal := ⟨mj_in (i := 360) (by decide +kernel) (by decide +kernel), mj_in (i := 362) (by decide +kernel) (by decide +kernel), mj_in (i := 1) (by decide +kernel) (by decide +kernel)⟩
theorem vC_95 : mj_V RC_c 95 yC_rowRefusal := ⟨mj_in (i := 364) (by decide +kernel) (by decide +kernel), mj_in (i := 366) (by decide +kernel) (by decide +kernel), mj_in (i := 2) (by decide +kernel) (by decide +kernel)⟩
theorem vL_23 : mj_V RL_c 23 yC_at := ⟨mj_in (i := 368) (by decide +kernel) (by decide +kernel), mj_in (i := 369) (by decide +kernel) (by decide +kernel), mj_in (i := 370) (by decide +kernel) (by decide +kernel)⟩
theorem vL_27 : mj_V RL_c 27 yC_tear := ⟨mj_in (i := 372) (by decide +kernel) (by decide +kernel), mj_in (i := 373) (by decide +kernel) (by decide +kernel), mj_in (i := 374) (by decide +kernel) (by decide +kernel)⟩
theorem vL_32 : mj_V RL_c 32 yC_copy := ⟨mj_in (i := 376) (by decide +kernel) (by decide +kernel), mj_in (i := 377) (by decide +kernel) (by decide +kernel), mj_in (i := 378) (by decide +kernel) (by decide +kernel)⟩
theorem vC_98 : mj_T RC_c 98 yC_hasPlaces := ⟨mj_in (i := 380) (by decide +kernel) (by decide +kernel), mj_in (i := 381) (by decide +kernel) (by decide +kernel)⟩
theorem vC_102 : Cond.methodLink RC_c 102 arraycopyName ∈ mj_ws := mj_in (i := 383) (by decide +kernel) (by decide +kernel)
theorem vL_37 : mj_V RL_c 37 yC_mean := ⟨mj_in (i := 386) (by decide +kernel) (by decide +kernel), mj_in (i := 387) (by decide +kernel) (by decide +kernel), mj_in (i := 388) (by decide +kernel) (by decide +kernel)⟩
theorem vL_41 : mj_V RL_c 41 yC_text := ⟨mj_in (i := 390) (by decide +kernel) (by decide +kernel), mj_in (i := 391) (by decide +kernel) (by decide +kernel), mj_in (i := 392) (by decide +kernel) (by decide +kernel)⟩
theorem vC_108 : mj_T RC_c 108 yC_isText := ⟨mj_in (i := 394) (by decide +kernel) (by decide +kernel), mj_in (i := 395) (by decide +kernel) (by decide +kernel)⟩
theorem vC_111 : mj_T RC_c 111 yY_fillB := ⟨mj_in (i := 397) (by decide +kernel) (by decide +kernel), mj_in (i := 398) (by decide +kernel) (by decide +kernel)⟩
theorem vL_45 : mj_V RL_c 45 yC_put := ⟨mj_in (i := 400) (by decide +kernel) (by decide +kernel), mj_in (i := 401) (by decide +kernel) (by decide +kernel), mj_in (i := 402) (by decide +kernel) (by decide +kernel)⟩
theorem vC_114 : mj_V RC_c 114 yC_textRefusal := ⟨mj_in (i := 404) (by decide +kernel) (by decide +kernel), mj_in (i := 406) (by decide +kernel) (by decide +kernel), mj_in (i := 3) (by decide +kernel) (by decide +kernel)⟩
theorem vL_49 : mj_V RL_c 49 yC_fault := ⟨mj_in (i := 408) (by decide +kernel) (by decide +kernel), mj_in (i := 409) (by decide +kernel) (by decide +kernel), mj_in (i := 410) (by decide +kernel) (by decide +kernel)⟩
theorem vC_117 : mj_V RC_c 117 yR_read := ⟨mj_in (i := 412) (by decide +kernel) (by decide +kernel), mj_in (i := 413) (by decide +kernel) (by decide +kernel), mj_in (i := 414) (by decide +kernel) (by decide +kernel)⟩
theorem vR_15 : mj_T RR_c 15 Lib.Math.min.name := ⟨mj_in (i := 416) (by decide +kernel) (by decide +kernel), mj_in (i := 417) (by decide +kernel) (by decide +kernel)⟩
theorem vR_31 : mj_V RR_c 31 yV_clear := ⟨mj_in (i := 419) (by decide +kernel) (by decide +kernel), mj_in (i := 420) (by decide +kernel) (by decide +kernel), mj_in (i := 421) (by decide +kernel) (by decide +kernel)⟩
theorem vR_36 : mj_V RR_c 36 yR_readHead := ⟨mj_in (i := 423) (by decide +kernel) (by decide +kernel), mj_in (i := 425) (by decide +kernel) (by decide +kernel), mj_in (i := 4) (by decide +kernel) (by decide +kernel)⟩
theorem vR_40 : mj_V RR_c 40 yR_skipBlanks := ⟨mj_in (i := 427) (by decide +kernel) (by decide +kernel), mj_in (i := 429) (by decide +kernel) (by decide +kernel), mj_in (i := 5) (by decide +kernel) (by decide +kernel)⟩
theorem vR_50 : mj_V RR_c 50 yR_sign := ⟨mj_in (i := 431) (by decide +kernel) (by decide +kernel), mj_in (i := 433) (by decide +kernel) (by decide +kernel), mj_in (i := 6) (by decide +kernel) (by decide +kernel)⟩
theorem vR_54 : mj_V RR_c 54 yR_take := ⟨mj_in (i := 435) (by decide +kernel) (by decide +kernel), mj_in (i := 437) (by decide +kernel) (by decide +kernel), mj_in (i := 7) (by decide +kernel) (by decide +kernel)⟩
theorem vR_61 : mj_V RR_c 61 yR_figure := ⟨mj_in (i := 439) (by decide +kernel) (by decide +kernel), mj_in (i := 441) (by decide +kernel) (by decide +kernel), mj_in (i := 8) (by decide +kernel) (by decide +kernel)⟩
theorem vR_43 : mj_V RR_c 43 yR_readOne := ⟨mj_in (i := 443) (by decide +kernel) (by decide +kernel), mj_in (i := 445) (by decide +kernel) (by decide +kernel), mj_in (i := 9) (by decide +kernel) (by decide +kernel)⟩
theorem vR_70 : mj_T RR_c 70 yR_kindOf := ⟨mj_in (i := 447) (by decide +kernel) (by decide +kernel), mj_in (i := 448) (by decide +kernel) (by decide +kernel)⟩
theorem vL_53 : mj_V RL_c 53 yC_cave := ⟨mj_in (i := 450) (by decide +kernel) (by decide +kernel), mj_in (i := 451) (by decide +kernel) (by decide +kernel), mj_in (i := 452) (by decide +kernel) (by decide +kernel)⟩
theorem vC_121 : mj_V RC_c 121 yV_become := ⟨mj_in (i := 454) (by decide +kernel) (by decide +kernel), mj_in (i := 455) (by decide +kernel) (by decide +kernel), mj_in (i := 456) (by decide +kernel) (by decide +kernel)⟩
theorem vV_52 : Cond.methodLink RV_c 52 arraycopyName ∈ mj_ws := mj_in (i := 458) (by decide +kernel) (by decide +kernel)
theorem vC_125 : mj_V RC_c 125 yC_forgetKept := ⟨mj_in (i := 459) (by decide +kernel) (by decide +kernel), mj_in (i := 461) (by decide +kernel) (by decide +kernel), mj_in (i := 10) (by decide +kernel) (by decide +kernel)⟩
theorem vC_362 : mj_V RC_c 362 yV_clear := ⟨mj_in (i := 463) (by decide +kernel) (by decide +kernel), mj_in (i := 420) (by decide +kernel) (by decide +kernel), mj_in (i := 421) (by decide +kernel) (by decide +kernel)⟩
theorem vL_57 : mj_V RL_c 57 yC_person := ⟨mj_in (i := 464) (by decide +kernel) (by decide +kernel), mj_in (i := 465) (by decide +kernel) (by decide +kernel), mj_in (i := 466) (by decide +kernel) (by decide +kernel)⟩
theorem vC_131 : mj_V RC_c 131 yC_isOne := ⟨mj_in (i := 468) (by decide +kernel) (by decide +kernel), mj_in (i := 470) (by decide +kernel) (by decide +kernel), mj_in (i := 11) (by decide +kernel) (by decide +kernel)⟩
theorem vC_134 : mj_V RC_c 134 yC_ofPerson := ⟨mj_in (i := 472) (by decide +kernel) (by decide +kernel), mj_in (i := 474) (by decide +kernel) (by decide +kernel), mj_in (i := 12) (by decide +kernel) (by decide +kernel)⟩
theorem vC_144 : mj_V RC_c 144 yA_begin := ⟨mj_in (i := 476) (by decide +kernel) (by decide +kernel), mj_in (i := 477) (by decide +kernel) (by decide +kernel), mj_in (i := 478) (by decide +kernel) (by decide +kernel)⟩
theorem vA_65 : mj_V RA_c 65 yV_lastHolder := ⟨mj_in (i := 480) (by decide +kernel) (by decide +kernel), mj_in (i := 481) (by decide +kernel) (by decide +kernel), mj_in (i := 482) (by decide +kernel) (by decide +kernel)⟩
theorem vA_72 : mj_V RA_c 72 yV_bitsOfKind := ⟨mj_in (i := 484) (by decide +kernel) (by decide +kernel), mj_in (i := 485) (by decide +kernel) (by decide +kernel), mj_in (i := 486) (by decide +kernel) (by decide +kernel)⟩
theorem vA_80 : Cond.methodLink RA_c 80 arraycopyName ∈ mj_ws := mj_in (i := 491) (by decide +kernel) (by decide +kernel)
theorem vA_90 : mj_T RA_c 90 yY_fillI := ⟨mj_in (i := 492) (by decide +kernel) (by decide +kernel), mj_in (i := 297) (by decide +kernel) (by decide +kernel)⟩
theorem vA_96 : mj_V RA_c 96 yA_seatTogether := ⟨mj_in (i := 493) (by decide +kernel) (by decide +kernel), mj_in (i := 495) (by decide +kernel) (by decide +kernel), mj_in (i := 13) (by decide +kernel) (by decide +kernel)⟩
theorem vA_103 : mj_V RA_c 103 yA_isHere := ⟨mj_in (i := 497) (by decide +kernel) (by decide +kernel), mj_in (i := 498) (by decide +kernel) (by decide +kernel), mj_in (i := 499) (by decide +kernel) (by decide +kernel)⟩
theorem vA_100 : mj_V RA_c 100 yA_countCalmBeside := ⟨mj_in (i := 501) (by decide +kernel) (by decide +kernel), mj_in (i := 503) (by decide +kernel) (by decide +kernel), mj_in (i := 14) (by decide +kernel) (by decide +kernel)⟩
theorem vA_111 : mj_T RA_c 111 yI_bitCount := ⟨mj_in (i := 506) (by decide +kernel) (by decide +kernel), mj_in (i := 507) (by decide +kernel) (by decide +kernel)⟩
theorem cI_265 : Cond.constant RI_c 265 (1431655765) ∈ mj_ws := mj_in (i := 509) (by decide +kernel) (by decide +kernel)
theorem cI_266 : Cond.constant RI_c 266 (858993459) ∈ mj_ws := mj_in (i := 510) (by decide +kernel) (by decide +kernel)
theorem cI_267 : Cond.constant RI_c 267 (252645135) ∈ mj_ws := mj_in (i := 511) (by decide +kernel) (by decide +kernel)
theorem vC_353 : mj_V RC_c 353 yA_shows := ⟨mj_in (i := 512) (by decide +kernel) (by decide +kernel), mj_in (i := 513) (by decide +kernel) (by decide +kernel), mj_in (i := 514) (by decide +kernel) (by decide +kernel)⟩
theorem vL_61 : mj_V RL_c 61 yC_mark := ⟨mj_in (i := 516) (by decide +kernel) (by decide +kernel), mj_in (i := 517) (by decide +kernel) (by decide +kernel), mj_in (i := 518) (by decide +kernel) (by decide +kernel)⟩
theorem vC_140 : mj_T RC_c 140 yC_isOfKind := ⟨mj_in (i := 520) (by decide +kernel) (by decide +kernel), mj_in (i := 489) (by decide +kernel) (by decide +kernel)⟩
theorem vC_147 : mj_V RC_c 147 yA_bitsBeside := ⟨mj_in (i := 521) (by decide +kernel) (by decide +kernel), mj_in (i := 522) (by decide +kernel) (by decide +kernel), mj_in (i := 523) (by decide +kernel) (by decide +kernel)⟩
theorem vC_150 : mj_T RC_c 150 yI_bitCount := ⟨mj_in (i := 525) (by decide +kernel) (by decide +kernel), mj_in (i := 507) (by decide +kernel) (by decide +kernel)⟩
theorem vC_155 : mj_V RC_c 155 yA_moreAfraid := ⟨mj_in (i := 526) (by decide +kernel) (by decide +kernel), mj_in (i := 527) (by decide +kernel) (by decide +kernel), mj_in (i := 528) (by decide +kernel) (by decide +kernel)⟩
theorem vC_158 : mj_V RC_c 158 yA_bitsOfAll := ⟨mj_in (i := 530) (by decide +kernel) (by decide +kernel), mj_in (i := 531) (by decide +kernel) (by decide +kernel), mj_in (i := 532) (by decide +kernel) (by decide +kernel)⟩
theorem vC_162 : mj_V RC_c 162 yA_singers := ⟨mj_in (i := 534) (by decide +kernel) (by decide +kernel), mj_in (i := 535) (by decide +kernel) (by decide +kernel), mj_in (i := 536) (by decide +kernel) (by decide +kernel)⟩
theorem vC_165 : mj_V RC_c 165 yV_timesHeld := ⟨mj_in (i := 538) (by decide +kernel) (by decide +kernel), mj_in (i := 539) (by decide +kernel) (by decide +kernel), mj_in (i := 540) (by decide +kernel) (by decide +kernel)⟩
theorem vL_65 : mj_V RL_c 65 yC_law := ⟨mj_in (i := 542) (by decide +kernel) (by decide +kernel), mj_in (i := 543) (by decide +kernel) (by decide +kernel), mj_in (i := 544) (by decide +kernel) (by decide +kernel)⟩
theorem vC_168 : mj_T RC_c 168 yC_isLaw := ⟨mj_in (i := 546) (by decide +kernel) (by decide +kernel), mj_in (i := 547) (by decide +kernel) (by decide +kernel)⟩
theorem vL_69 : mj_V RL_c 69 yC_oil := ⟨mj_in (i := 549) (by decide +kernel) (by decide +kernel), mj_in (i := 550) (by decide +kernel) (by decide +kernel), mj_in (i := 551) (by decide +kernel) (by decide +kernel)⟩
theorem vL_73 : mj_V RL_c 73 yC_fear := ⟨mj_in (i := 553) (by decide +kernel) (by decide +kernel), mj_in (i := 554) (by decide +kernel) (by decide +kernel), mj_in (i := 555) (by decide +kernel) (by decide +kernel)⟩
theorem vL_77 : mj_V RL_c 77 yC_minutes := ⟨mj_in (i := 557) (by decide +kernel) (by decide +kernel), mj_in (i := 558) (by decide +kernel) (by decide +kernel), mj_in (i := 559) (by decide +kernel) (by decide +kernel)⟩
theorem vC_180 : mj_T RC_c 180 yC_isSpan := ⟨mj_in (i := 561) (by decide +kernel) (by decide +kernel), mj_in (i := 562) (by decide +kernel) (by decide +kernel)⟩
theorem vC_186 : mj_V RC_c 186 yA_isOver := ⟨mj_in (i := 564) (by decide +kernel) (by decide +kernel), mj_in (i := 565) (by decide +kernel) (by decide +kernel), mj_in (i := 566) (by decide +kernel) (by decide +kernel)⟩
theorem vA_140 : mj_V RA_c 140 yA_whoScream := ⟨mj_in (i := 568) (by decide +kernel) (by decide +kernel), mj_in (i := 569) (by decide +kernel) (by decide +kernel), mj_in (i := 570) (by decide +kernel) (by decide +kernel)⟩
theorem vC_190 : mj_V RC_c 190 yA_byLaw := ⟨mj_in (i := 572) (by decide +kernel) (by decide +kernel), mj_in (i := 573) (by decide +kernel) (by decide +kernel), mj_in (i := 574) (by decide +kernel) (by decide +kernel)⟩
theorem vA_116 : mj_V RA_c 116 yA_bitsBeside := ⟨mj_in (i := 576) (by decide +kernel) (by decide +kernel), mj_in (i := 522) (by decide +kernel) (by decide +kernel), mj_in (i := 523) (by decide +kernel) (by decide +kernel)⟩
theorem vA_119 : mj_V RA_c 119 yA_showsMost := ⟨mj_in (i := 577) (by decide +kernel) (by decide +kernel), mj_in (i := 579) (by decide +kernel) (by decide +kernel), mj_in (i := 15) (by decide +kernel) (by decide +kernel)⟩
theorem vA_125 : mj_V RA_c 125 yA_shows := ⟨mj_in (i := 581) (by decide +kernel) (by decide +kernel), mj_in (i := 513) (by decide +kernel) (by decide +kernel), mj_in (i := 514) (by decide +kernel) (by decide +kernel)⟩
theorem vA_122 : mj_V RA_c 122 yA_bitsOfAll := ⟨mj_in (i := 582) (by decide +kernel) (by decide +kernel), mj_in (i := 531) (by decide +kernel) (by decide +kernel), mj_in (i := 532) (by decide +kernel) (by decide +kernel)⟩
theorem vC_193 : mj_V RC_c 193 yC_passMinute := ⟨mj_in (i := 583) (by decide +kernel) (by decide +kernel), mj_in (i := 585) (by decide +kernel) (by decide +kernel), mj_in (i := 16) (by decide +kernel) (by decide +kernel)⟩
theorem vC_365 : mj_V RC_c 365 yV_remember := ⟨mj_in (i := 587) (by decide +kernel) (by decide +kernel), mj_in (i := 588) (by decide +kernel) (by decide +kernel), mj_in (i := 589) (by decide +kernel) (by decide +kernel)⟩
theorem vC_241 : mj_V RC_c 241 yA_pass := ⟨mj_in (i := 591) (by decide +kernel) (by decide +kernel), mj_in (i := 592) (by decide +kernel) (by decide +kernel), mj_in (i := 593) (by decide +kernel) (by decide +kernel)⟩
theorem vA_128 : mj_V RA_c 128 yA_moreAfraid := ⟨mj_in (i := 595) (by decide +kernel) (by decide +kernel), mj_in (i := 527) (by decide +kernel) (by decide +kernel), mj_in (i := 528) (by decide +kernel) (by decide +kernel)⟩
theorem vA_132 : mj_T RA_c 132 Lib.Math.max.name := ⟨mj_in (i := 596) (by decide +kernel) (by decide +kernel), mj_in (i := 597) (by decide +kernel) (by decide +kernel)⟩
theorem vA_137 : mj_T RA_c 137 Lib.Math.min.name := ⟨mj_in (i := 599) (by decide +kernel) (by decide +kernel), mj_in (i := 417) (by decide +kernel) (by decide +kernel)⟩
theorem vC_209 : mj_V RC_c 209 yV_take := ⟨mj_in (i := 600) (by decide +kernel) (by decide +kernel), mj_in (i := 601) (by decide +kernel) (by decide +kernel), mj_in (i := 602) (by decide +kernel) (by decide +kernel)⟩
theorem vL_81 : mj_V RL_c 81 yC_hand := ⟨mj_in (i := 604) (by decide +kernel) (by decide +kernel), mj_in (i := 605) (by decide +kernel) (by decide +kernel), mj_in (i := 606) (by decide +kernel) (by decide +kernel)⟩
theorem vL_85 : mj_V RL_c 85 yC_next := ⟨mj_in (i := 608) (by decide +kernel) (by decide +kernel), mj_in (i := 609) (by decide +kernel) (by decide +kernel), mj_in (i := 610) (by decide +kernel) (by decide +kernel)⟩
theorem vL_90 : mj_V RL_c 90 yC_had := ⟨mj_in (i := 612) (by decide +kernel) (by decide +kernel), mj_in (i := 613) (by decide +kernel) (by decide +kernel), mj_in (i := 614) (by decide +kernel) (by decide +kernel)⟩
theorem vL_94 : mj_V RL_c 94 yC_undo := ⟨mj_in (i := 616) (by decide +kernel) (by decide +kernel), mj_in (i := 617) (by decide +kernel) (by decide +kernel), mj_in (i := 618) (by decide +kernel) (by decide +kernel)⟩
theorem vC_200 : mj_V RC_c 200 yV_backTo := ⟨mj_in (i := 620) (by decide +kernel) (by decide +kernel), mj_in (i := 621) (by decide +kernel) (by decide +kernel), mj_in (i := 622) (by decide +kernel) (by decide +kernel)⟩
theorem vL_98 : mj_V RL_c 98 yC_over := ⟨mj_in (i := 624) (by decide +kernel) (by decide +kernel), mj_in (i := 625) (by decide +kernel) (by decide +kernel), mj_in (i := 626) (by decide +kernel) (by decide +kernel)⟩
theorem vC_203 : mj_V RC_c 203 yA_whoScream := ⟨mj_in (i := 628) (by decide +kernel) (by decide +kernel), mj_in (i := 569) (by decide +kernel) (by decide +kernel), mj_in (i := 570) (by decide +kernel) (by decide +kernel)⟩
theorem vL_102 : mj_V RL_c 102 yC_story := ⟨mj_in (i := 629) (by decide +kernel) (by decide +kernel), mj_in (i := 630) (by decide +kernel) (by decide +kernel), mj_in (i := 631) (by decide +kernel) (by decide +kernel)⟩
theorem vC_206 : mj_V RC_c 206 yA_tellStory := ⟨mj_in (i := 633) (by decide +kernel) (by decide +kernel), mj_in (i := 634) (by decide +kernel) (by decide +kernel), mj_in (i := 635) (by decide +kernel) (by decide +kernel)⟩
theorem vC_213 : mj_V RC_c 213 yA_fearTogether := ⟨mj_in (i := 637) (by decide +kernel) (by decide +kernel), mj_in (i := 638) (by decide +kernel) (by decide +kernel), mj_in (i := 639) (by decide +kernel) (by decide +kernel)⟩
theorem vL_106 : mj_V RL_c 106 yC_song := ⟨mj_in (i := 641) (by decide +kernel) (by decide +kernel), mj_in (i := 642) (by decide +kernel) (by decide +kernel), mj_in (i := 643) (by decide +kernel) (by decide +kernel)⟩
theorem vC_216 : mj_V RC_c 216 yA_greatestFear := ⟨mj_in (i := 645) (by decide +kernel) (by decide +kernel), mj_in (i := 646) (by decide +kernel) (by decide +kernel), mj_in (i := 647) (by decide +kernel) (by decide +kernel)⟩
theorem vA_157 : mj_V RA_c 157 yA_mostAfraid := ⟨mj_in (i := 649) (by decide +kernel) (by decide +kernel), mj_in (i := 650) (by decide +kernel) (by decide +kernel), mj_in (i := 651) (by decide +kernel) (by decide +kernel)⟩
theorem vC_219 : mj_V RC_c 219 yA_sing := ⟨mj_in (i := 653) (by decide +kernel) (by decide +kernel), mj_in (i := 654) (by decide +kernel) (by decide +kernel), mj_in (i := 655) (by decide +kernel) (by decide +kernel)⟩
theorem vA_160 : mj_V RA_c 160 yA_singers := ⟨mj_in (i := 657) (by decide +kernel) (by decide +kernel), mj_in (i := 535) (by decide +kernel) (by decide +kernel), mj_in (i := 536) (by decide +kernel) (by decide +kernel)⟩
theorem vL_110 : mj_V RL_c 110 yC_keep := ⟨mj_in (i := 658) (by decide +kernel) (by decide +kernel), mj_in (i := 659) (by decide +kernel) (by decide +kernel), mj_in (i := 660) (by decide +kernel) (by decide +kernel)⟩
theorem vC_222 : mj_T RC_c 222 yC_isKeepingPlace := ⟨mj_in (i := 662) (by decide +kernel) (by decide +kernel), mj_in (i := 663) (by decide +kernel) (by decide +kernel)⟩
theorem vL_114 : mj_V RL_c 114 yC_on := ⟨mj_in (i := 665) (by decide +kernel) (by decide +kernel), mj_in (i := 666) (by decide +kernel) (by decide +kernel), mj_in (i := 667) (by decide +kernel) (by decide +kernel)⟩
theorem vL_118 : mj_V RL_c 118 yC_holds := ⟨mj_in (i := 669) (by decide +kernel) (by decide +kernel), mj_in (i := 670) (by decide +kernel) (by decide +kernel), mj_in (i := 671) (by decide +kernel) (by decide +kernel)⟩
theorem vC_225 : mj_V RC_c 225 yA_howLong := ⟨mj_in (i := 673) (by decide +kernel) (by decide +kernel), mj_in (i := 674) (by decide +kernel) (by decide +kernel), mj_in (i := 675) (by decide +kernel) (by decide +kernel)⟩
theorem vA_154 : mj_V RA_c 154 yA_goOn := ⟨mj_in (i := 677) (by decide +kernel) (by decide +kernel), mj_in (i := 678) (by decide +kernel) (by decide +kernel), mj_in (i := 679) (by decide +kernel) (by decide +kernel)⟩
theorem vA_143 : mj_V RA_c 143 yA_isOver := ⟨mj_in (i := 681) (by decide +kernel) (by decide +kernel), mj_in (i := 565) (by decide +kernel) (by decide +kernel), mj_in (i := 566) (by decide +kernel) (by decide +kernel)⟩
theorem vA_147 : mj_V RA_c 147 yA_byLaw := ⟨mj_in (i := 682) (by decide +kernel) (by decide +kernel), mj_in (i := 573) (by decide +kernel) (by decide +kernel), mj_in (i := 574) (by decide +kernel) (by decide +kernel)⟩
theorem vA_150 : mj_V RA_c 150 yA_pass := ⟨mj_in (i := 683) (by decide +kernel) (by decide +kernel), mj_in (i := 592) (by decide +kernel) (by decide +kernel), mj_in (i := 593) (by decide +kernel) (by decide +kernel)⟩
theorem vL_122 : mj_V RL_c 122 yC_best := ⟨mj_in (i := 684) (by decide +kernel) (by decide +kernel), mj_in (i := 685) (by decide +kernel) (by decide +kernel), mj_in (i := 686) (by decide +kernel) (by decide +kernel)⟩
theorem vC_228 : mj_T RC_c 228 yC_isLonger := ⟨mj_in (i := 688) (by decide +kernel) (by decide +kernel), mj_in (i := 689) (by decide +kernel) (by decide +kernel)⟩
theorem vL_126 : mj_V RL_c 126 yC_rest := ⟨mj_in (i := 691) (by decide +kernel) (by decide +kernel), mj_in (i := 692) (by decide +kernel) (by decide +kernel), mj_in (i := 693) (by decide +kernel) (by decide +kernel)⟩
theorem vC_235 : mj_V RC_c 235 yA_isAsSaved := ⟨mj_in (i := 695) (by decide +kernel) (by decide +kernel), mj_in (i := 696) (by decide +kernel) (by decide +kernel), mj_in (i := 697) (by decide +kernel) (by decide +kernel)⟩
theorem vC_238 : mj_V RC_c 238 yA_save := ⟨mj_in (i := 699) (by decide +kernel) (by decide +kernel), mj_in (i := 700) (by decide +kernel) (by decide +kernel), mj_in (i := 701) (by decide +kernel) (by decide +kernel)⟩
theorem vL_130 : mj_V RL_c 130 yC_worst := ⟨mj_in (i := 703) (by decide +kernel) (by decide +kernel), mj_in (i := 704) (by decide +kernel) (by decide +kernel), mj_in (i := 705) (by decide +kernel) (by decide +kernel)⟩
theorem vC_244 : mj_V RC_c 244 yA_goOn := ⟨mj_in (i := 707) (by decide +kernel) (by decide +kernel), mj_in (i := 678) (by decide +kernel) (by decide +kernel), mj_in (i := 679) (by decide +kernel) (by decide +kernel)⟩
theorem vC_247 : mj_V RC_c 247 yA_mostAfraid := ⟨mj_in (i := 708) (by decide +kernel) (by decide +kernel), mj_in (i := 650) (by decide +kernel) (by decide +kernel), mj_in (i := 651) (by decide +kernel) (by decide +kernel)⟩
theorem vL_134 : mj_V RL_c 134 yC_often := ⟨mj_in (i := 709) (by decide +kernel) (by decide +kernel), mj_in (i := 710) (by decide +kernel) (by decide +kernel), mj_in (i := 711) (by decide +kernel) (by decide +kernel)⟩
theorem vL_138 : mj_V RL_c 138 yC_longest := ⟨mj_in (i := 713) (by decide +kernel) (by decide +kernel), mj_in (i := 714) (by decide +kernel) (by decide +kernel), mj_in (i := 715) (by decide +kernel) (by decide +kernel)⟩
theorem vC_253 : mj_V RC_c 253 yS_findLongest := ⟨mj_in (i := 717) (by decide +kernel) (by decide +kernel), mj_in (i := 718) (by decide +kernel) (by decide +kernel), mj_in (i := 719) (by decide +kernel) (by decide +kernel)⟩
theorem vS_29 : mj_V RS_c 29 yS_start := ⟨mj_in (i := 721) (by decide +kernel) (by decide +kernel), mj_in (i := 723) (by decide +kernel) (by decide +kernel), mj_in (i := 17) (by decide +kernel) (by decide +kernel)⟩
theorem vS_42 : mj_V RS_c 42 yA_isOver := ⟨mj_in (i := 725) (by decide +kernel) (by decide +kernel), mj_in (i := 565) (by decide +kernel) (by decide +kernel), mj_in (i := 566) (by decide +kernel) (by decide +kernel)⟩
theorem vS_48 : mj_V RS_c 48 yS_handFrom := ⟨mj_in (i := 726) (by decide +kernel) (by decide +kernel), mj_in (i := 728) (by decide +kernel) (by decide +kernel), mj_in (i := 18) (by decide +kernel) (by decide +kernel)⟩
theorem vS_52 : mj_V RS_c 52 yS_weigh := ⟨mj_in (i := 730) (by decide +kernel) (by decide +kernel), mj_in (i := 732) (by decide +kernel) (by decide +kernel), mj_in (i := 19) (by decide +kernel) (by decide +kernel)⟩
theorem vS_71 : mj_V RS_c 71 yA_greatestFear := ⟨mj_in (i := 734) (by decide +kernel) (by decide +kernel), mj_in (i := 646) (by decide +kernel) (by decide +kernel), mj_in (i := 647) (by decide +kernel) (by decide +kernel)⟩
theorem vS_75 : Cond.methodLink RS_c 75 arraycopyName ∈ mj_ws := mj_in (i := 735) (by decide +kernel) (by decide +kernel)
theorem vS_55 : mj_V RS_c 55 yA_save := ⟨mj_in (i := 736) (by decide +kernel) (by decide +kernel), mj_in (i := 700) (by decide +kernel) (by decide +kernel), mj_in (i := 701) (by decide +kernel) (by decide +kernel)⟩
theorem vS_62 : mj_V RS_c 62 yS_isSettled := ⟨mj_in (i := 737) (by decide +kernel) (by decide +kernel), mj_in (i := 739) (by decide +kernel) (by decide +kernel), mj_in (i := 20) (by decide +kernel) (by decide +kernel)⟩
theorem vS_65 : mj_V RS_c 65 yA_pass := ⟨mj_in (i := 741) (by decide +kernel) (by decide +kernel), mj_in (i := 592) (by decide +kernel) (by decide +kernel), mj_in (i := 593) (by decide +kernel) (by decide +kernel)⟩
theorem vS_68 : mj_V RS_c 68 yA_restore := ⟨mj_in (i := 742) (by decide +kernel) (by decide +kernel), mj_in (i := 743) (by decide +kernel) (by decide +kernel), mj_in (i := 744) (by decide +kernel) (by decide +kernel)⟩
theorem vC_262 : mj_V RC_c 262 yC_fillRow := ⟨mj_in (i := 746) (by decide +kernel) (by decide +kernel), mj_in (i := 748) (by decide +kernel) (by decide +kernel), mj_in (i := 21) (by decide +kernel) (by decide +kernel)⟩
theorem vC_341 : mj_T RC_c 341 Lib.Math.max.name := ⟨mj_in (i := 750) (by decide +kernel) (by decide +kernel), mj_in (i := 597) (by decide +kernel) (by decide +kernel)⟩
theorem vC_346 : mj_T RC_c 346 Lib.Math.min.name := ⟨mj_in (i := 751) (by decide +kernel) (by decide +kernel), mj_in (i := 417) (by decide +kernel) (by decide +kernel)⟩
theorem vL_142 : mj_V RL_c 142 yC_calmest := ⟨mj_in (i := 752) (by decide +kernel) (by decide +kernel), mj_in (i := 753) (by decide +kernel) (by decide +kernel), mj_in (i := 754) (by decide +kernel) (by decide +kernel)⟩
theorem vC_266 : mj_V RC_c 266 yS_findCalmest := ⟨mj_in (i := 756) (by decide +kernel) (by decide +kernel), mj_in (i := 757) (by decide +kernel) (by decide +kernel), mj_in (i := 758) (by decide +kernel) (by decide +kernel)⟩
theorem vS_33 : mj_T RS_c 33 Lib.Math.min.name := ⟨mj_in (i := 760) (by decide +kernel) (by decide +kernel), mj_in (i := 417) (by decide +kernel) (by decide +kernel)⟩
theorem vL_146 : mj_V RL_c 146 yC_order := ⟨mj_in (i := 761) (by decide +kernel) (by decide +kernel), mj_in (i := 762) (by decide +kernel) (by decide +kernel), mj_in (i := 763) (by decide +kernel) (by decide +kernel)⟩
theorem vC_273 : mj_V RC_c 273 yC_sitByNumbers := ⟨mj_in (i := 765) (by decide +kernel) (by decide +kernel), mj_in (i := 767) (by decide +kernel) (by decide +kernel), mj_in (i := 22) (by decide +kernel) (by decide +kernel)⟩
theorem vC_276 : mj_V RC_c 276 yC_holdingAsSeated := ⟨mj_in (i := 769) (by decide +kernel) (by decide +kernel), mj_in (i := 771) (by decide +kernel) (by decide +kernel), mj_in (i := 23) (by decide +kernel) (by decide +kernel)⟩
theorem vC_368 : mj_V RC_c 368 yA_sit := ⟨mj_in (i := 773) (by decide +kernel) (by decide +kernel), mj_in (i := 774) (by decide +kernel) (by decide +kernel), mj_in (i := 775) (by decide +kernel) (by decide +kernel)⟩
theorem vC_279 : mj_V RC_c 279 yC_nextSeating := ⟨mj_in (i := 777) (by decide +kernel) (by decide +kernel), mj_in (i := 779) (by decide +kernel) (by decide +kernel), mj_in (i := 24) (by decide +kernel) (by decide +kernel)⟩
theorem vC_282 : mj_V RC_c 282 yC_exchangeSeats := ⟨mj_in (i := 781) (by decide +kernel) (by decide +kernel), mj_in (i := 783) (by decide +kernel) (by decide +kernel), mj_in (i := 25) (by decide +kernel) (by decide +kernel)⟩
theorem vL_150 : mj_V RL_c 150 yC_swap := ⟨mj_in (i := 785) (by decide +kernel) (by decide +kernel), mj_in (i := 786) (by decide +kernel) (by decide +kernel), mj_in (i := 787) (by decide +kernel) (by decide +kernel)⟩
theorem vL_154 : mj_V RL_c 154 yC_spare := ⟨mj_in (i := 789) (by decide +kernel) (by decide +kernel), mj_in (i := 790) (by decide +kernel) (by decide +kernel), mj_in (i := 791) (by decide +kernel) (by decide +kernel)⟩
theorem vL_158 : mj_V RL_c 158 yC_teller := ⟨mj_in (i := 793) (by decide +kernel) (by decide +kernel), mj_in (i := 794) (by decide +kernel) (by decide +kernel), mj_in (i := 795) (by decide +kernel) (by decide +kernel)⟩
theorem vL_162 : mj_V RL_c 162 yC_judge := ⟨mj_in (i := 797) (by decide +kernel) (by decide +kernel), mj_in (i := 798) (by decide +kernel) (by decide +kernel), mj_in (i := 799) (by decide +kernel) (by decide +kernel)⟩
theorem vC_287 : mj_V RC_c 287 yC_handingsRefusal := ⟨mj_in (i := 801) (by decide +kernel) (by decide +kernel), mj_in (i := 803) (by decide +kernel) (by decide +kernel), mj_in (i := 26) (by decide +kernel) (by decide +kernel)⟩
theorem vL_166 : mj_V RL_c 166 yC_liars := ⟨mj_in (i := 805) (by decide +kernel) (by decide +kernel), mj_in (i := 806) (by decide +kernel) (by decide +kernel), mj_in (i := 807) (by decide +kernel) (by decide +kernel)⟩
theorem vC_290 : mj_V RC_c 290 yV_bitsOfKind := ⟨mj_in (i := 809) (by decide +kernel) (by decide +kernel), mj_in (i := 485) (by decide +kernel) (by decide +kernel), mj_in (i := 486) (by decide +kernel) (by decide +kernel)⟩
theorem vC_296 : mj_V RC_c 296 yC_allByLaw := ⟨mj_in (i := 810) (by decide +kernel) (by decide +kernel), mj_in (i := 812) (by decide +kernel) (by decide +kernel), mj_in (i := 27) (by decide +kernel) (by decide +kernel)⟩
theorem vL_170 : mj_V RL_c 170 yC_grows := ⟨mj_in (i := 814) (by decide +kernel) (by decide +kernel), mj_in (i := 815) (by decide +kernel) (by decide +kernel), mj_in (i := 816) (by decide +kernel) (by decide +kernel)⟩
theorem vC_302 : mj_V RC_c 302 yC_figuresThatFit := ⟨mj_in (i := 818) (by decide +kernel) (by decide +kernel), mj_in (i := 820) (by decide +kernel) (by decide +kernel), mj_in (i := 28) (by decide +kernel) (by decide +kernel)⟩
theorem vL_174 : mj_V RL_c 174 yC_fears := ⟨mj_in (i := 822) (by decide +kernel) (by decide +kernel), mj_in (i := 823) (by decide +kernel) (by decide +kernel), mj_in (i := 824) (by decide +kernel) (by decide +kernel)⟩
theorem vL_178 : mj_V RL_c 178 yC_tell := ⟨mj_in (i := 826) (by decide +kernel) (by decide +kernel), mj_in (i := 827) (by decide +kernel) (by decide +kernel), mj_in (i := 828) (by decide +kernel) (by decide +kernel)⟩
theorem vL_182 : mj_V RL_c 182 yC_visit := ⟨mj_in (i := 830) (by decide +kernel) (by decide +kernel), mj_in (i := 831) (by decide +kernel) (by decide +kernel), mj_in (i := 832) (by decide +kernel) (by decide +kernel)⟩
theorem cC_307 : Cond.constantLong RC_c 307 (2147483647) ∈ mj_ws := mj_in (i := 834) (by decide +kernel) (by decide +kernel)
theorem cC_309 : Cond.constantLong RC_c 309 (48271) ∈ mj_ws := mj_in (i := 835) (by decide +kernel) (by decide +kernel)
theorem vL_186 : mj_V RL_c 186 yC_asked := ⟨mj_in (i := 836) (by decide +kernel) (by decide +kernel), mj_in (i := 837) (by decide +kernel) (by decide +kernel), mj_in (i := 838) (by decide +kernel) (by decide +kernel)⟩
theorem vL_190 : mj_V RL_c 190 yC_upper := ⟨mj_in (i := 840) (by decide +kernel) (by decide +kernel), mj_in (i := 841) (by decide +kernel) (by decide +kernel), mj_in (i := 842) (by decide +kernel) (by decide +kernel)⟩
theorem vC_311 : mj_V RC_c 311 yV_sumOf := ⟨mj_in (i := 844) (by decide +kernel) (by decide +kernel), mj_in (i := 845) (by decide +kernel) (by decide +kernel), mj_in (i := 846) (by decide +kernel) (by decide +kernel)⟩
theorem vC_318 : mj_T RC_c 318 yC_greatestDivisor := ⟨mj_in (i := 848) (by decide +kernel) (by decide +kernel), mj_in (i := 849) (by decide +kernel) (by decide +kernel)⟩
theorem vL_195 : mj_V RL_c 195 yC_lower := ⟨mj_in (i := 851) (by decide +kernel) (by decide +kernel), mj_in (i := 852) (by decide +kernel) (by decide +kernel), mj_in (i := 853) (by decide +kernel) (by decide +kernel)⟩
theorem vL_199 : mj_V RL_c 199 yC_count := ⟨mj_in (i := 855) (by decide +kernel) (by decide +kernel), mj_in (i := 856) (by decide +kernel) (by decide +kernel), mj_in (i := 857) (by decide +kernel) (by decide +kernel)⟩
theorem vC_321 : mj_V RC_c 321 yC_howMany := ⟨mj_in (i := 859) (by decide +kernel) (by decide +kernel), mj_in (i := 861) (by decide +kernel) (by decide +kernel), mj_in (i := 29) (by decide +kernel) (by decide +kernel)⟩
theorem vC_356 : mj_V RC_c 356 yC_keptCaves := ⟨mj_in (i := 863) (by decide +kernel) (by decide +kernel), mj_in (i := 865) (by decide +kernel) (by decide +kernel), mj_in (i := 30) (by decide +kernel) (by decide +kernel)⟩
theorem vC_331 : mj_V RC_c 331 yC_keptMinute := ⟨mj_in (i := 867) (by decide +kernel) (by decide +kernel), mj_in (i := 869) (by decide +kernel) (by decide +kernel), mj_in (i := 31) (by decide +kernel) (by decide +kernel)⟩
theorem vC_359 : mj_T RC_c 359 yC_thereOf := ⟨mj_in (i := 871) (by decide +kernel) (by decide +kernel), mj_in (i := 872) (by decide +kernel) (by decide +kernel)⟩
theorem vL_203 : mj_V RL_c 203 yC_finding := ⟨mj_in (i := 874) (by decide +kernel) (by decide +kernel), mj_in (i := 875) (by decide +kernel) (by decide +kernel), mj_in (i := 876) (by decide +kernel) (by decide +kernel)⟩
theorem vL_207 : mj_V RL_c 207 yC_findings := ⟨mj_in (i := 878) (by decide +kernel) (by decide +kernel), mj_in (i := 879) (by decide +kernel) (by decide +kernel), mj_in (i := 880) (by decide +kernel) (by decide +kernel)⟩
theorem vL_211 : mj_V RL_c 211 yC_digest := ⟨mj_in (i := 882) (by decide +kernel) (by decide +kernel), mj_in (i := 883) (by decide +kernel) (by decide +kernel), mj_in (i := 884) (by decide +kernel) (by decide +kernel)⟩
theorem cC_324 : Cond.constantLong RC_c 324 (17) ∈ mj_ws := mj_in (i := 886) (by decide +kernel) (by decide +kernel)
theorem cC_326 : Cond.constantLong RC_c 326 (31) ∈ mj_ws := mj_in (i := 887) (by decide +kernel) (by decide +kernel)
theorem vC_334 : mj_V RC_c 334 yC_withRows := ⟨mj_in (i := 888) (by decide +kernel) (by decide +kernel), mj_in (i := 890) (by decide +kernel) (by decide +kernel), mj_in (i := 32) (by decide +kernel) (by decide +kernel)⟩
theorem vC_338 : mj_V RC_c 338 yC_withTexts := ⟨mj_in (i := 892) (by decide +kernel) (by decide +kernel), mj_in (i := 894) (by decide +kernel) (by decide +kernel), mj_in (i := 33) (by decide +kernel) (by decide +kernel)⟩
theorem fM_86 : mj_F RM_c 86 5 0 := ⟨RM_c, TM_c, 45, rfl, by decide, mj_in (i := 902) (by decide +kernel) (by decide +kernel)⟩
theorem fM_7 : mj_F RM_c 7 5 1 := ⟨RM_c, TM_c, 45, rfl, by decide, mj_in (i := 903) (by decide +kernel) (by decide +kernel)⟩
theorem fM_89 : mj_F RM_c 89 5 2 := ⟨RM_c, TM_c, 45, rfl, by decide, mj_in (i := 904) (by decide +kernel) (by decide +kernel)⟩
theorem fM_13 : mj_F RM_c 13 5 3 := ⟨RM_c, TM_c, 45, rfl, by decide, mj_in (i := 905) (by decide +kernel) (by decide +kernel)⟩
theorem fM_16 : mj_F RM_c 16 5 4 := ⟨RM_c, TM_c, 45, rfl, by decide, mj_in (i := 906) (by decide +kernel) (by decide +kernel)⟩
theorem fM_19 : mj_F RM_c 19 5 5 := ⟨RM_c, TM_c, 45, rfl, by decide, mj_in (i := 907) (by decide +kernel) (by decide +kernel)⟩
theorem fM_22 : mj_F RM_c 22 5 6 := ⟨RM_c, TM_c, 45, rfl, by decide, mj_in (i := 908) (by decide +kernel) (by decide +kernel)⟩
theorem fM_25 : mj_F RM_c 25 5 7 := ⟨RM_c, TM_c, 45, rfl, by decide, mj_in (i := 909) (by decide +kernel) (by decide +kernel)⟩
theorem fM_161 : mj_F RM_c 161 5 8 := ⟨RM_c, TM_c, 45, rfl, by decide, mj_in (i := 910) (by decide +kernel) (by decide +kernel)⟩
theorem fM_164 : mj_F RM_c 164 5 9 := ⟨RM_c, TM_c, 45, rfl, by decide, mj_in (i := 911) (by decide +kernel) (by decide +kernel)⟩
theorem fM_167 : mj_F RM_c 167 5 10 := ⟨RM_c, TM_c, 45, rfl, by decide, mj_in (i := 912) (by decide +kernel) (by decide +kernel)⟩
theorem fM_170 : mj_F RM_c 170 5 11 := ⟨RM_c, TM_c, 45, rfl, by decide, mj_in (i := 913) (by decide +kernel) (by decide +kernel)⟩
theorem fM_28 : mj_F RM_c 28 5 12 := ⟨RM_c, TM_c, 45, rfl, by decide, mj_in (i := 914) (by decide +kernel) (by decide +kernel)⟩
theorem fM_31 : mj_F RM_c 31 5 13 := ⟨RM_c, TM_c, 45, rfl, by decide, mj_in (i := 915) (by decide +kernel) (by decide +kernel)⟩
theorem fM_34 : mj_F RM_c 34 5 14 := ⟨RM_c, TM_c, 45, rfl, by decide, mj_in (i := 916) (by decide +kernel) (by decide +kernel)⟩
theorem fM_37 : mj_F RM_c 37 5 15 := ⟨RM_c, TM_c, 45, rfl, by decide, mj_in (i := 917) (by decide +kernel) (by decide +kernel)⟩
theorem fM_40 : mj_F RM_c 40 5 16 := ⟨RM_c, TM_c, 45, rfl, by decide, mj_in (i := 918) (by decide +kernel) (by decide +kernel)⟩
theorem fM_127 : mj_F RM_c 127 5 17 := ⟨RM_c, TM_c, 45, rfl, by decide, mj_in (i := 919) (by decide +kernel) (by decide +kernel)⟩
theorem fM_149 : mj_F RM_c 149 5 18 := ⟨RM_c, TM_c, 45, rfl, by decide, mj_in (i := 920) (by decide +kernel) (by decide +kernel)⟩
theorem fM_137 : mj_F RM_c 137 5 19 := ⟨RM_c, TM_c, 45, rfl, by decide, mj_in (i := 921) (by decide +kernel) (by decide +kernel)⟩
theorem fM_140 : mj_F RM_c 140 5 20 := ⟨RM_c, TM_c, 45, rfl, by decide, mj_in (i := 922) (by decide +kernel) (by decide +kernel)⟩
theorem fM_143 : mj_F RM_c 143 5 21 := ⟨RM_c, TM_c, 45, rfl, by decide, mj_in (i := 923) (by decide +kernel) (by decide +kernel)⟩
theorem fM_43 : mj_F RM_c 43 5 22 := ⟨RM_c, TM_c, 45, rfl, by decide, mj_in (i := 924) (by decide +kernel) (by decide +kernel)⟩
theorem fM_47 : mj_F RM_c 47 5 23 := ⟨RM_c, TM_c, 45, rfl, by decide, mj_in (i := 925) (by decide +kernel) (by decide +kernel)⟩
theorem fM_173 : mj_F RM_c 173 5 24 := ⟨RM_c, TM_c, 45, rfl, by decide, mj_in (i := 926) (by decide +kernel) (by decide +kernel)⟩
theorem fM_50 : mj_F RM_c 50 5 25 := ⟨RM_c, TM_c, 45, rfl, by decide, mj_in (i := 927) (by decide +kernel) (by decide +kernel)⟩
theorem fM_53 : mj_F RM_c 53 5 26 := ⟨RM_c, TM_c, 45, rfl, by decide, mj_in (i := 928) (by decide +kernel) (by decide +kernel)⟩
theorem fM_56 : mj_F RM_c 56 5 27 := ⟨RM_c, TM_c, 45, rfl, by decide, mj_in (i := 929) (by decide +kernel) (by decide +kernel)⟩
theorem fM_59 : mj_F RM_c 59 5 28 := ⟨RM_c, TM_c, 45, rfl, by decide, mj_in (i := 930) (by decide +kernel) (by decide +kernel)⟩
theorem fM_62 : mj_F RM_c 62 5 29 := ⟨RM_c, TM_c, 45, rfl, by decide, mj_in (i := 931) (by decide +kernel) (by decide +kernel)⟩
theorem fM_65 : mj_F RM_c 65 5 30 := ⟨RM_c, TM_c, 45, rfl, by decide, mj_in (i := 932) (by decide +kernel) (by decide +kernel)⟩
theorem fM_225 : mj_F RM_c 225 5 31 := ⟨RM_c, TM_c, 45, rfl, by decide, mj_in (i := 933) (by decide +kernel) (by decide +kernel)⟩
theorem fM_68 : mj_F RM_c 68 5 32 := ⟨RM_c, TM_c, 45, rfl, by decide, mj_in (i := 934) (by decide +kernel) (by decide +kernel)⟩
theorem fM_244 : mj_F RM_c 244 5 33 := ⟨RM_c, TM_c, 45, rfl, by decide, mj_in (i := 935) (by decide +kernel) (by decide +kernel)⟩
theorem fM_71 : mj_F RM_c 71 5 34 := ⟨RM_c, TM_c, 45, rfl, by decide, mj_in (i := 936) (by decide +kernel) (by decide +kernel)⟩
theorem fM_74 : mj_F RM_c 74 5 35 := ⟨RM_c, TM_c, 45, rfl, by decide, mj_in (i := 937) (by decide +kernel) (by decide +kernel)⟩
theorem fM_77 : mj_F RM_c 77 5 36 := ⟨RM_c, TM_c, 45, rfl, by decide, mj_in (i := 938) (by decide +kernel) (by decide +kernel)⟩
theorem fM_257 : mj_F RM_c 257 5 37 := ⟨RM_c, TM_c, 45, rfl, by decide, mj_in (i := 939) (by decide +kernel) (by decide +kernel)⟩
theorem fM_278 : mj_F RM_c 278 5 38 := ⟨RM_c, TM_c, 45, rfl, by decide, mj_in (i := 940) (by decide +kernel) (by decide +kernel)⟩
theorem fM_80 : mj_F RM_c 80 5 39 := ⟨RM_c, TM_c, 45, rfl, by decide, mj_in (i := 941) (by decide +kernel) (by decide +kernel)⟩
theorem fM_83 : mj_F RM_c 83 5 40 := ⟨RM_c, TM_c, 45, rfl, by decide, mj_in (i := 942) (by decide +kernel) (by decide +kernel)⟩
theorem fM_291 : mj_F RM_c 291 5 41 := ⟨RM_c, TM_c, 45, rfl, by decide, mj_in (i := 943) (by decide +kernel) (by decide +kernel)⟩
theorem fM_287 : mj_F RM_c 287 5 42 := ⟨RM_c, TM_c, 45, rfl, by decide, mj_in (i := 944) (by decide +kernel) (by decide +kernel)⟩
theorem fM_297 : mj_F RM_c 297 5 43 := ⟨RM_c, TM_c, 45, rfl, by decide, mj_in (i := 945) (by decide +kernel) (by decide +kernel)⟩
theorem fM_325 : mj_F RM_c 325 5 44 := ⟨RM_c, TM_c, 45, rfl, by decide, mj_in (i := 946) (by decide +kernel) (by decide +kernel)⟩
theorem vL_17 : mj_V RL_c 17 yM_row := ⟨mj_in (i := 1038) (by decide +kernel) (by decide +kernel), mj_in (i := 1039) (by decide +kernel) (by decide +kernel), mj_in (i := 1040) (by decide +kernel) (by decide +kernel)⟩
theorem vM_96 : mj_T RM_c 96 yM_isRow := ⟨mj_in (i := 1042) (by decide +kernel) (by decide +kernel), mj_in (i := 1043) (by decide +kernel) (by decide +kernel)⟩
theorem vM_92 : mj_T RM_c 92 yM_in := ⟨mj_in (i := 1045) (by decide +kernel) (by decide +kernel), mj_in (i := 1046) (by decide +kernel) (by decide +kernel)⟩
theorem vM_100 : mj_V RM_c 100 yM_meet := ⟨mj_in (i := 1048) (by decide +kernel) (by decide +kernel), mj_in (i := 1050) (by decide +kernel) (by decide +kernel), mj_in (i := 34) (by decide +kernel) (by decide +kernel)⟩
theorem vM_107 : mj_V RM_c 107 yM_setRow := ⟨mj_in (i := 1052) (by decide +kernel) (by decide +kernel), mj_in (i := 1054) (by decide +kernel) (by decide +kernel), mj_in (i := 35) (by decide +kernel) (by decide +kernel)⟩
theorem vL_26 : mj_V RL_c 26 yM_at := ⟨mj_in (i := 1056) (by decide +kernel) (by decide +kernel), mj_in (i := 1057) (by decide +kernel) (by decide +kernel), mj_in (i := 1058) (by decide +kernel) (by decide +kernel)⟩
theorem vM_111 : mj_V RM_c 111 yM_askedRow := ⟨mj_in (i := 1060) (by decide +kernel) (by decide +kernel), mj_in (i := 1062) (by decide +kernel) (by decide +kernel), mj_in (i := 36) (by decide +kernel) (by decide +kernel)⟩
theorem vM_114 : mj_V RM_c 114 yM_rowAt := ⟨mj_in (i := 1064) (by decide +kernel) (by decide +kernel), mj_in (i := 1066) (by decide +kernel) (by decide +kernel), mj_in (i := 37) (by decide +kernel) (by decide +kernel)⟩
theorem vM_118 : mj_V RM_c 118 yM_ask := ⟨mj_in (i := 1068) (by decide +kernel) (by decide +kernel), mj_in (i := 1070) (by decide +kernel) (by decide +kernel), mj_in (i := 38) (by decide +kernel) (by decide +kernel)⟩
theorem vL_22 : mj_V RL_c 22 yM_lay := ⟨mj_in (i := 1072) (by decide +kernel) (by decide +kernel), mj_in (i := 1073) (by decide +kernel) (by decide +kernel), mj_in (i := 1074) (by decide +kernel) (by decide +kernel)⟩
theorem vM_121 : mj_V RM_c 121 yM_at := ⟨mj_in (i := 1076) (by decide +kernel) (by decide +kernel), mj_in (i := 1057) (by decide +kernel) (by decide +kernel), mj_in (i := 1058) (by decide +kernel) (by decide +kernel)⟩
theorem vL_31 : mj_V RL_c 31 yM_tear := ⟨mj_in (i := 1077) (by decide +kernel) (by decide +kernel), mj_in (i := 1078) (by decide +kernel) (by decide +kernel), mj_in (i := 1079) (by decide +kernel) (by decide +kernel)⟩
theorem vL_36 : mj_V RL_c 36 yM_copy := ⟨mj_in (i := 1081) (by decide +kernel) (by decide +kernel), mj_in (i := 1082) (by decide +kernel) (by decide +kernel), mj_in (i := 1083) (by decide +kernel) (by decide +kernel)⟩
theorem vL_40 : mj_V RL_c 40 yM_mean := ⟨mj_in (i := 1085) (by decide +kernel) (by decide +kernel), mj_in (i := 1086) (by decide +kernel) (by decide +kernel), mj_in (i := 1087) (by decide +kernel) (by decide +kernel)⟩
theorem vL_44 : mj_V RL_c 44 yM_text := ⟨mj_in (i := 1089) (by decide +kernel) (by decide +kernel), mj_in (i := 1090) (by decide +kernel) (by decide +kernel), mj_in (i := 1091) (by decide +kernel) (by decide +kernel)⟩
theorem vM_104 : mj_T RM_c 104 yM_isText := ⟨mj_in (i := 1093) (by decide +kernel) (by decide +kernel), mj_in (i := 1094) (by decide +kernel) (by decide +kernel)⟩
theorem vL_48 : mj_V RL_c 48 yM_put := ⟨mj_in (i := 1096) (by decide +kernel) (by decide +kernel), mj_in (i := 1097) (by decide +kernel) (by decide +kernel), mj_in (i := 1098) (by decide +kernel) (by decide +kernel)⟩
theorem vM_124 : mj_V RM_c 124 yM_askedText := ⟨mj_in (i := 1100) (by decide +kernel) (by decide +kernel), mj_in (i := 1102) (by decide +kernel) (by decide +kernel), mj_in (i := 39) (by decide +kernel) (by decide +kernel)⟩
theorem vL_52 : mj_V RL_c 52 yM_fault := ⟨mj_in (i := 1104) (by decide +kernel) (by decide +kernel), mj_in (i := 1105) (by decide +kernel) (by decide +kernel), mj_in (i := 1106) (by decide +kernel) (by decide +kernel)⟩
theorem vM_158 : mj_V RM_c 158 yM_goesOn := ⟨mj_in (i := 1108) (by decide +kernel) (by decide +kernel), mj_in (i := 1110) (by decide +kernel) (by decide +kernel), mj_in (i := 40) (by decide +kernel) (by decide +kernel)⟩
theorem vM_130 : mj_V RM_c 130 yM_here := ⟨mj_in (i := 1112) (by decide +kernel) (by decide +kernel), mj_in (i := 1114) (by decide +kernel) (by decide +kernel), mj_in (i := 41) (by decide +kernel) (by decide +kernel)⟩
theorem vM_152 : mj_V RM_c 152 yM_readsHead := ⟨mj_in (i := 1116) (by decide +kernel) (by decide +kernel), mj_in (i := 1118) (by decide +kernel) (by decide +kernel), mj_in (i := 42) (by decide +kernel) (by decide +kernel)⟩
theorem vM_133 : mj_V RM_c 133 yM_figure := ⟨mj_in (i := 1120) (by decide +kernel) (by decide +kernel), mj_in (i := 1122) (by decide +kernel) (by decide +kernel), mj_in (i := 43) (by decide +kernel) (by decide +kernel)⟩
theorem vM_155 : mj_V RM_c 155 yM_readsPerson := ⟨mj_in (i := 1124) (by decide +kernel) (by decide +kernel), mj_in (i := 1126) (by decide +kernel) (by decide +kernel), mj_in (i := 44) (by decide +kernel) (by decide +kernel)⟩
theorem vM_146 : mj_T RM_c 146 yM_kindOf := ⟨mj_in (i := 1128) (by decide +kernel) (by decide +kernel), mj_in (i := 1129) (by decide +kernel) (by decide +kernel)⟩
theorem vL_56 : mj_V RL_c 56 yM_cave := ⟨mj_in (i := 1131) (by decide +kernel) (by decide +kernel), mj_in (i := 1132) (by decide +kernel) (by decide +kernel), mj_in (i := 1133) (by decide +kernel) (by decide +kernel)⟩
theorem vL_60 : mj_V RL_c 60 yM_person := ⟨mj_in (i := 1135) (by decide +kernel) (by decide +kernel), mj_in (i := 1136) (by decide +kernel) (by decide +kernel), mj_in (i := 1137) (by decide +kernel) (by decide +kernel)⟩
theorem vM_183 : mj_V RM_c 183 yM_isOne := ⟨mj_in (i := 1139) (by decide +kernel) (by decide +kernel), mj_in (i := 1141) (by decide +kernel) (by decide +kernel), mj_in (i := 45) (by decide +kernel) (by decide +kernel)⟩
theorem vM_186 : mj_V RM_c 186 yM_personOf := ⟨mj_in (i := 1143) (by decide +kernel) (by decide +kernel), mj_in (i := 1145) (by decide +kernel) (by decide +kernel), mj_in (i := 46) (by decide +kernel) (by decide +kernel)⟩
theorem vM_180 : mj_V RM_c 180 yM_showsOf := ⟨mj_in (i := 1147) (by decide +kernel) (by decide +kernel), mj_in (i := 1149) (by decide +kernel) (by decide +kernel), mj_in (i := 47) (by decide +kernel) (by decide +kernel)⟩
theorem vM_176 : mj_T RM_c 176 yM_has := ⟨mj_in (i := 1151) (by decide +kernel) (by decide +kernel), mj_in (i := 1152) (by decide +kernel) (by decide +kernel)⟩
theorem vL_64 : mj_V RL_c 64 yM_mark := ⟨mj_in (i := 1154) (by decide +kernel) (by decide +kernel), mj_in (i := 1155) (by decide +kernel) (by decide +kernel), mj_in (i := 1156) (by decide +kernel) (by decide +kernel)⟩
theorem vM_189 : mj_V RM_c 189 yM_isCalm := ⟨mj_in (i := 1158) (by decide +kernel) (by decide +kernel), mj_in (i := 1160) (by decide +kernel) (by decide +kernel), mj_in (i := 48) (by decide +kernel) (by decide +kernel)⟩
theorem vM_192 : mj_V RM_c 192 yM_isBeside := ⟨mj_in (i := 1162) (by decide +kernel) (by decide +kernel), mj_in (i := 1164) (by decide +kernel) (by decide +kernel), mj_in (i := 49) (by decide +kernel) (by decide +kernel)⟩
theorem vL_68 : mj_V RL_c 68 yM_law := ⟨mj_in (i := 1166) (by decide +kernel) (by decide +kernel), mj_in (i := 1167) (by decide +kernel) (by decide +kernel), mj_in (i := 1168) (by decide +kernel) (by decide +kernel)⟩
theorem vL_72 : mj_V RL_c 72 yM_oil := ⟨mj_in (i := 1170) (by decide +kernel) (by decide +kernel), mj_in (i := 1171) (by decide +kernel) (by decide +kernel), mj_in (i := 1172) (by decide +kernel) (by decide +kernel)⟩
theorem vL_76 : mj_V RL_c 76 yM_fear := ⟨mj_in (i := 1174) (by decide +kernel) (by decide +kernel), mj_in (i := 1175) (by decide +kernel) (by decide +kernel), mj_in (i := 1176) (by decide +kernel) (by decide +kernel)⟩
theorem vL_80 : mj_V RL_c 80 yM_minutes := ⟨mj_in (i := 1178) (by decide +kernel) (by decide +kernel), mj_in (i := 1179) (by decide +kernel) (by decide +kernel), mj_in (i := 1180) (by decide +kernel) (by decide +kernel)⟩
theorem vM_206 : mj_V RM_c 206 yM_isOver := ⟨mj_in (i := 1182) (by decide +kernel) (by decide +kernel), mj_in (i := 1184) (by decide +kernel) (by decide +kernel), mj_in (i := 50) (by decide +kernel) (by decide +kernel)⟩
theorem vM_198 : mj_V RM_c 198 yM_screaming := ⟨mj_in (i := 1186) (by decide +kernel) (by decide +kernel), mj_in (i := 1188) (by decide +kernel) (by decide +kernel), mj_in (i := 51) (by decide +kernel) (by decide +kernel)⟩
theorem vM_210 : mj_V RM_c 210 yM_nextBy := ⟨mj_in (i := 1190) (by decide +kernel) (by decide +kernel), mj_in (i := 1192) (by decide +kernel) (by decide +kernel), mj_in (i := 52) (by decide +kernel) (by decide +kernel)⟩
theorem vM_195 : mj_V RM_c 195 yM_mostOf := ⟨mj_in (i := 1194) (by decide +kernel) (by decide +kernel), mj_in (i := 1196) (by decide +kernel) (by decide +kernel), mj_in (i := 53) (by decide +kernel) (by decide +kernel)⟩
theorem vM_213 : mj_V RM_c 213 yM_goMinute := ⟨mj_in (i := 1198) (by decide +kernel) (by decide +kernel), mj_in (i := 1200) (by decide +kernel) (by decide +kernel), mj_in (i := 54) (by decide +kernel) (by decide +kernel)⟩
theorem vM_202 : mj_V RM_c 202 yM_passMinute := ⟨mj_in (i := 1202) (by decide +kernel) (by decide +kernel), mj_in (i := 1204) (by decide +kernel) (by decide +kernel), mj_in (i := 55) (by decide +kernel) (by decide +kernel)⟩
theorem vL_84 : mj_V RL_c 84 yM_hand := ⟨mj_in (i := 1206) (by decide +kernel) (by decide +kernel), mj_in (i := 1207) (by decide +kernel) (by decide +kernel), mj_in (i := 1208) (by decide +kernel) (by decide +kernel)⟩
theorem vL_89 : mj_V RL_c 89 yM_next := ⟨mj_in (i := 1210) (by decide +kernel) (by decide +kernel), mj_in (i := 1211) (by decide +kernel) (by decide +kernel), mj_in (i := 1212) (by decide +kernel) (by decide +kernel)⟩
theorem vL_93 : mj_V RL_c 93 yM_had := ⟨mj_in (i := 1214) (by decide +kernel) (by decide +kernel), mj_in (i := 1215) (by decide +kernel) (by decide +kernel), mj_in (i := 1216) (by decide +kernel) (by decide +kernel)⟩
theorem vL_97 : mj_V RL_c 97 yM_undo := ⟨mj_in (i := 1218) (by decide +kernel) (by decide +kernel), mj_in (i := 1219) (by decide +kernel) (by decide +kernel), mj_in (i := 1220) (by decide +kernel) (by decide +kernel)⟩
theorem vL_101 : mj_V RL_c 101 yM_over := ⟨mj_in (i := 1222) (by decide +kernel) (by decide +kernel), mj_in (i := 1223) (by decide +kernel) (by decide +kernel), mj_in (i := 1224) (by decide +kernel) (by decide +kernel)⟩
theorem vL_105 : mj_V RL_c 105 yM_story := ⟨mj_in (i := 1226) (by decide +kernel) (by decide +kernel), mj_in (i := 1227) (by decide +kernel) (by decide +kernel), mj_in (i := 1228) (by decide +kernel) (by decide +kernel)⟩
theorem vM_216 : mj_V RM_c 216 yM_tellStory := ⟨mj_in (i := 1230) (by decide +kernel) (by decide +kernel), mj_in (i := 1232) (by decide +kernel) (by decide +kernel), mj_in (i := 56) (by decide +kernel) (by decide +kernel)⟩
theorem vM_219 : mj_V RM_c 219 yM_allFears := ⟨mj_in (i := 1234) (by decide +kernel) (by decide +kernel), mj_in (i := 1236) (by decide +kernel) (by decide +kernel), mj_in (i := 57) (by decide +kernel) (by decide +kernel)⟩
theorem vL_109 : mj_V RL_c 109 yM_song := ⟨mj_in (i := 1238) (by decide +kernel) (by decide +kernel), mj_in (i := 1239) (by decide +kernel) (by decide +kernel), mj_in (i := 1240) (by decide +kernel) (by decide +kernel)⟩
theorem vL_113 : mj_V RL_c 113 yM_keep := ⟨mj_in (i := 1242) (by decide +kernel) (by decide +kernel), mj_in (i := 1243) (by decide +kernel) (by decide +kernel), mj_in (i := 1244) (by decide +kernel) (by decide +kernel)⟩
theorem vL_117 : mj_V RL_c 117 yM_on := ⟨mj_in (i := 1246) (by decide +kernel) (by decide +kernel), mj_in (i := 1247) (by decide +kernel) (by decide +kernel), mj_in (i := 1248) (by decide +kernel) (by decide +kernel)⟩
theorem vL_121 : mj_V RL_c 121 yM_holds := ⟨mj_in (i := 1250) (by decide +kernel) (by decide +kernel), mj_in (i := 1251) (by decide +kernel) (by decide +kernel), mj_in (i := 1252) (by decide +kernel) (by decide +kernel)⟩
theorem vM_231 : mj_V RM_c 231 yM_holdsOf := ⟨mj_in (i := 1254) (by decide +kernel) (by decide +kernel), mj_in (i := 1256) (by decide +kernel) (by decide +kernel), mj_in (i := 58) (by decide +kernel) (by decide +kernel)⟩
theorem vM_222 : mj_V RM_c 222 yM_putAside := ⟨mj_in (i := 1258) (by decide +kernel) (by decide +kernel), mj_in (i := 1260) (by decide +kernel) (by decide +kernel), mj_in (i := 59) (by decide +kernel) (by decide +kernel)⟩
theorem vM_228 : mj_V RM_c 228 yM_comeBack := ⟨mj_in (i := 1262) (by decide +kernel) (by decide +kernel), mj_in (i := 1264) (by decide +kernel) (by decide +kernel), mj_in (i := 60) (by decide +kernel) (by decide +kernel)⟩
theorem vL_125 : mj_V RL_c 125 yM_best := ⟨mj_in (i := 1266) (by decide +kernel) (by decide +kernel), mj_in (i := 1267) (by decide +kernel) (by decide +kernel), mj_in (i := 1268) (by decide +kernel) (by decide +kernel)⟩
theorem vM_235 : mj_T RM_c 235 yM_longBy := ⟨mj_in (i := 1270) (by decide +kernel) (by decide +kernel), mj_in (i := 1271) (by decide +kernel) (by decide +kernel)⟩
theorem cM_234 : Cond.constant RM_c 234 (1048576) ∈ mj_ws := mj_in (i := 1273) (by decide +kernel) (by decide +kernel)
theorem vL_129 : mj_V RL_c 129 yM_rest := ⟨mj_in (i := 1274) (by decide +kernel) (by decide +kernel), mj_in (i := 1275) (by decide +kernel) (by decide +kernel), mj_in (i := 1276) (by decide +kernel) (by decide +kernel)⟩
theorem vM_238 : mj_V RM_c 238 yM_setPast := ⟨mj_in (i := 1278) (by decide +kernel) (by decide +kernel), mj_in (i := 1280) (by decide +kernel) (by decide +kernel), mj_in (i := 61) (by decide +kernel) (by decide +kernel)⟩
theorem vM_241 : mj_V RM_c 241 yM_isPast := ⟨mj_in (i := 1282) (by decide +kernel) (by decide +kernel), mj_in (i := 1284) (by decide +kernel) (by decide +kernel), mj_in (i := 62) (by decide +kernel) (by decide +kernel)⟩
theorem vL_133 : mj_V RL_c 133 yM_worst := ⟨mj_in (i := 1286) (by decide +kernel) (by decide +kernel), mj_in (i := 1287) (by decide +kernel) (by decide +kernel), mj_in (i := 1288) (by decide +kernel) (by decide +kernel)⟩
theorem vM_247 : mj_T RM_c 247 yM_isSpan := ⟨mj_in (i := 1290) (by decide +kernel) (by decide +kernel), mj_in (i := 1291) (by decide +kernel) (by decide +kernel)⟩
theorem vM_250 : mj_V RM_c 250 yM_pass := ⟨mj_in (i := 1293) (by decide +kernel) (by decide +kernel), mj_in (i := 1295) (by decide +kernel) (by decide +kernel), mj_in (i := 63) (by decide +kernel) (by decide +kernel)⟩
theorem vM_254 : mj_V RM_c 254 yM_greatest := ⟨mj_in (i := 1297) (by decide +kernel) (by decide +kernel), mj_in (i := 1299) (by decide +kernel) (by decide +kernel), mj_in (i := 64) (by decide +kernel) (by decide +kernel)⟩
theorem vL_137 : mj_V RL_c 137 yM_often := ⟨mj_in (i := 1301) (by decide +kernel) (by decide +kernel), mj_in (i := 1302) (by decide +kernel) (by decide +kernel), mj_in (i := 1303) (by decide +kernel) (by decide +kernel)⟩
theorem vL_141 : mj_V RL_c 141 yM_longest := ⟨mj_in (i := 1305) (by decide +kernel) (by decide +kernel), mj_in (i := 1306) (by decide +kernel) (by decide +kernel), mj_in (i := 1307) (by decide +kernel) (by decide +kernel)⟩
theorem vM_266 : mj_V RM_c 266 yM_longOn := ⟨mj_in (i := 1309) (by decide +kernel) (by decide +kernel), mj_in (i := 1311) (by decide +kernel) (by decide +kernel), mj_in (i := 65) (by decide +kernel) (by decide +kernel)⟩
theorem vM_260 : mj_V RM_c 260 yM_copyLaid := ⟨mj_in (i := 1313) (by decide +kernel) (by decide +kernel), mj_in (i := 1315) (by decide +kernel) (by decide +kernel), mj_in (i := 66) (by decide +kernel) (by decide +kernel)⟩
theorem vM_263 : mj_V RM_c 263 yM_putDepth := ⟨mj_in (i := 1317) (by decide +kernel) (by decide +kernel), mj_in (i := 1319) (by decide +kernel) (by decide +kernel), mj_in (i := 67) (by decide +kernel) (by decide +kernel)⟩
theorem vM_269 : mj_V RM_c 269 yM_backTo := ⟨mj_in (i := 1321) (by decide +kernel) (by decide +kernel), mj_in (i := 1323) (by decide +kernel) (by decide +kernel), mj_in (i := 68) (by decide +kernel) (by decide +kernel)⟩
theorem vM_275 : mj_V RM_c 275 yM_layBest := ⟨mj_in (i := 1325) (by decide +kernel) (by decide +kernel), mj_in (i := 1327) (by decide +kernel) (by decide +kernel), mj_in (i := 69) (by decide +kernel) (by decide +kernel)⟩
theorem vM_272 : mj_V RM_c 272 yM_row := ⟨mj_in (i := 1329) (by decide +kernel) (by decide +kernel), mj_in (i := 1039) (by decide +kernel) (by decide +kernel), mj_in (i := 1040) (by decide +kernel) (by decide +kernel)⟩
theorem vL_145 : mj_V RL_c 145 yM_calmest := ⟨mj_in (i := 1330) (by decide +kernel) (by decide +kernel), mj_in (i := 1331) (by decide +kernel) (by decide +kernel), mj_in (i := 1332) (by decide +kernel) (by decide +kernel)⟩
theorem vM_281 : mj_V RM_c 281 yM_calmOn := ⟨mj_in (i := 1334) (by decide +kernel) (by decide +kernel), mj_in (i := 1336) (by decide +kernel) (by decide +kernel), mj_in (i := 70) (by decide +kernel) (by decide +kernel)⟩
theorem vL_149 : mj_V RL_c 149 yM_order := ⟨mj_in (i := 1338) (by decide +kernel) (by decide +kernel), mj_in (i := 1339) (by decide +kernel) (by decide +kernel), mj_in (i := 1340) (by decide +kernel) (by decide +kernel)⟩
theorem vM_294 : mj_V RM_c 294 yM_orderOn := ⟨mj_in (i := 1342) (by decide +kernel) (by decide +kernel), mj_in (i := 1344) (by decide +kernel) (by decide +kernel), mj_in (i := 71) (by decide +kernel) (by decide +kernel)⟩
theorem vM_284 : mj_V RM_c 284 yM_holdsSo := ⟨mj_in (i := 1346) (by decide +kernel) (by decide +kernel), mj_in (i := 1348) (by decide +kernel) (by decide +kernel), mj_in (i := 72) (by decide +kernel) (by decide +kernel)⟩
theorem vL_153 : mj_V RL_c 153 yM_swap := ⟨mj_in (i := 1350) (by decide +kernel) (by decide +kernel), mj_in (i := 1351) (by decide +kernel) (by decide +kernel), mj_in (i := 1352) (by decide +kernel) (by decide +kernel)⟩
theorem vL_157 : mj_V RL_c 157 yM_spare := ⟨mj_in (i := 1354) (by decide +kernel) (by decide +kernel), mj_in (i := 1355) (by decide +kernel) (by decide +kernel), mj_in (i := 1356) (by decide +kernel) (by decide +kernel)⟩
theorem vL_161 : mj_V RL_c 161 yM_teller := ⟨mj_in (i := 1358) (by decide +kernel) (by decide +kernel), mj_in (i := 1359) (by decide +kernel) (by decide +kernel), mj_in (i := 1360) (by decide +kernel) (by decide +kernel)⟩
theorem vL_165 : mj_V RL_c 165 yM_judge := ⟨mj_in (i := 1362) (by decide +kernel) (by decide +kernel), mj_in (i := 1363) (by decide +kernel) (by decide +kernel), mj_in (i := 1364) (by decide +kernel) (by decide +kernel)⟩
theorem vM_300 : mj_V RM_c 300 yM_askedHandings := ⟨mj_in (i := 1366) (by decide +kernel) (by decide +kernel), mj_in (i := 1368) (by decide +kernel) (by decide +kernel), mj_in (i := 73) (by decide +kernel) (by decide +kernel)⟩
theorem vM_303 : mj_V RM_c 303 yM_judged := ⟨mj_in (i := 1370) (by decide +kernel) (by decide +kernel), mj_in (i := 1372) (by decide +kernel) (by decide +kernel), mj_in (i := 74) (by decide +kernel) (by decide +kernel)⟩
theorem vL_169 : mj_V RL_c 169 yM_liars := ⟨mj_in (i := 1374) (by decide +kernel) (by decide +kernel), mj_in (i := 1375) (by decide +kernel) (by decide +kernel), mj_in (i := 1376) (by decide +kernel) (by decide +kernel)⟩
theorem vL_173 : mj_V RL_c 173 yM_grows := ⟨mj_in (i := 1378) (by decide +kernel) (by decide +kernel), mj_in (i := 1379) (by decide +kernel) (by decide +kernel), mj_in (i := 1380) (by decide +kernel) (by decide +kernel)⟩
theorem vM_306 : mj_V RM_c 306 yM_askedOf := ⟨mj_in (i := 1382) (by decide +kernel) (by decide +kernel), mj_in (i := 1384) (by decide +kernel) (by decide +kernel), mj_in (i := 75) (by decide +kernel) (by decide +kernel)⟩
theorem vL_177 : mj_V RL_c 177 yM_fears := ⟨mj_in (i := 1386) (by decide +kernel) (by decide +kernel), mj_in (i := 1387) (by decide +kernel) (by decide +kernel), mj_in (i := 1388) (by decide +kernel) (by decide +kernel)⟩
theorem vL_181 : mj_V RL_c 181 yM_tell := ⟨mj_in (i := 1390) (by decide +kernel) (by decide +kernel), mj_in (i := 1391) (by decide +kernel) (by decide +kernel), mj_in (i := 1392) (by decide +kernel) (by decide +kernel)⟩
theorem vL_185 : mj_V RL_c 185 yM_visit := ⟨mj_in (i := 1394) (by decide +kernel) (by decide +kernel), mj_in (i := 1395) (by decide +kernel) (by decide +kernel), mj_in (i := 1396) (by decide +kernel) (by decide +kernel)⟩
theorem cM_309 : Cond.constant RM_c 309 (2147483646) ∈ mj_ws := mj_in (i := 1398) (by decide +kernel) (by decide +kernel)
theorem cM_310 : Cond.constantLong RM_c 310 (48271) ∈ mj_ws := mj_in (i := 1399) (by decide +kernel) (by decide +kernel)
theorem cM_312 : Cond.constantLong RM_c 312 (2147483647) ∈ mj_ws := mj_in (i := 1400) (by decide +kernel) (by decide +kernel)
theorem vL_189 : mj_V RL_c 189 yM_asked := ⟨mj_in (i := 1401) (by decide +kernel) (by decide +kernel), mj_in (i := 1402) (by decide +kernel) (by decide +kernel), mj_in (i := 1403) (by decide +kernel) (by decide +kernel)⟩
theorem vL_194 : mj_V RL_c 194 yM_upper := ⟨mj_in (i := 1405) (by decide +kernel) (by decide +kernel), mj_in (i := 1406) (by decide +kernel) (by decide +kernel), mj_in (i := 1407) (by decide +kernel) (by decide +kernel)⟩
theorem vM_314 : mj_V RM_c 314 yM_allScreams := ⟨mj_in (i := 1409) (by decide +kernel) (by decide +kernel), mj_in (i := 1411) (by decide +kernel) (by decide +kernel), mj_in (i := 76) (by decide +kernel) (by decide +kernel)⟩
theorem vM_317 : mj_T RM_c 317 yM_divisor := ⟨mj_in (i := 1413) (by decide +kernel) (by decide +kernel), mj_in (i := 1414) (by decide +kernel) (by decide +kernel)⟩
theorem vL_198 : mj_V RL_c 198 yM_lower := ⟨mj_in (i := 1416) (by decide +kernel) (by decide +kernel), mj_in (i := 1417) (by decide +kernel) (by decide +kernel), mj_in (i := 1418) (by decide +kernel) (by decide +kernel)⟩
theorem vL_202 : mj_V RL_c 202 yM_count := ⟨mj_in (i := 1420) (by decide +kernel) (by decide +kernel), mj_in (i := 1421) (by decide +kernel) (by decide +kernel), mj_in (i := 1422) (by decide +kernel) (by decide +kernel)⟩
theorem vM_320 : mj_V RM_c 320 yM_tells := ⟨mj_in (i := 1424) (by decide +kernel) (by decide +kernel), mj_in (i := 1426) (by decide +kernel) (by decide +kernel), mj_in (i := 77) (by decide +kernel) (by decide +kernel)⟩
theorem vL_206 : mj_V RL_c 206 yM_finding := ⟨mj_in (i := 1428) (by decide +kernel) (by decide +kernel), mj_in (i := 1429) (by decide +kernel) (by decide +kernel), mj_in (i := 1430) (by decide +kernel) (by decide +kernel)⟩
theorem vL_210 : mj_V RL_c 210 yM_findings := ⟨mj_in (i := 1432) (by decide +kernel) (by decide +kernel), mj_in (i := 1433) (by decide +kernel) (by decide +kernel), mj_in (i := 1434) (by decide +kernel) (by decide +kernel)⟩
theorem vL_214 : mj_V RL_c 214 yM_digest := ⟨mj_in (i := 1436) (by decide +kernel) (by decide +kernel), mj_in (i := 1437) (by decide +kernel) (by decide +kernel), mj_in (i := 1438) (by decide +kernel) (by decide +kernel)⟩
theorem cM_332 : Cond.constantLong RM_c 332 (17) ∈ mj_ws := mj_in (i := 1440) (by decide +kernel) (by decide +kernel)
theorem vM_329 : mj_V RM_c 329 yM_mix := ⟨mj_in (i := 1441) (by decide +kernel) (by decide +kernel), mj_in (i := 1443) (by decide +kernel) (by decide +kernel), mj_in (i := 78) (by decide +kernel) (by decide +kernel)⟩
theorem cM_323 : Cond.constantLong RM_c 323 (31) ∈ mj_ws := mj_in (i := 1445) (by decide +kernel) (by decide +kernel)
theorem vM_334 : mj_V RM_c 334 yM_mixCave := ⟨mj_in (i := 1446) (by decide +kernel) (by decide +kernel), mj_in (i := 1448) (by decide +kernel) (by decide +kernel), mj_in (i := 79) (by decide +kernel) (by decide +kernel)⟩
end
section
/-! the small machine: cells by numbers ('ids'); ad says where each one lies -/
abbrev mj_E : Type := (Nat × vp_A) ⊕ (Nat × List Value)
abbrev mj_S : Type := List Nat × (Nat → mj_E)
/-- a value of the small machine, as the machine has it (a float stands for the law's script) -/
def mj_v (ad : Nat → Nat) (x : Value) : Value := match x with
  | .ref i => .ref (ad i)
  | .int a => .int a
  | .long a => .long a
  | .float _ => .ref (ad 999)
  | .double a => .double a
  | .null => .null
  | .retAddr a => .retAddr a
def mj_a (ad : Nat → Nat) (a : vp_A) : vp_A := match a with
  | (n, .inl f) => (n, .inl f)
  | (n, .inr (.inl f)) => (n, .inr (.inl f))
  | (n, .inr (.inr (.inl f))) => (n, .inr (.inr (.inl f)))
  | (n, .inr (.inr (.inr (.inl f)))) => (n, .inr (.inr (.inr (.inl f))))
  | (n, .inr (.inr (.inr (.inr f)))) => (n, .inr (.inr (.inr (.inr (fun j => (f j).map ad)))))
def mj_e (ad : Nat → Nat) (cA : Nat → ClassId) (x : mj_E) : va_E := match x with
  | .inl (t, a) => .inl (cA t, mj_a ad a)
  | .inr (c, fs) => .inr (c, fs.map (mj_v ad))
def mj_w (ad : Nat → Nat) (cA : Nat → ClassId) (S : mj_S) : va_W := S.1.map (fun i => (ad i, mj_e ad cA (S.2 i)))
def mj_up (S : mj_S) (i : Nat) (x : mj_E) : mj_S := (S.1, fun j => if j = i then x else S.2 j)
theorem mj_w_at {ad : Nat → Nat} {cA : Nat → ClassId} {S : mj_S} {i : Nat} (h : i ∈ S.1) : ∃ k : Nat, S.1[k]? = some i ∧ (mj_w ad cA S)[k]? = some (ad i, mj_e ad cA (S.2 i)) := by
  obtain ⟨k, hk⟩ := List.getElem?_of_mem h
  exact ⟨k, hk, by unfold mj_w; rw [List.getElem?_map, hk]; rfl⟩
theorem mj_nd {L : List Nat} (hn : L.Nodup) {i j x : Nat} (h1 : L[i]? = some x) (h2 : L[j]? = some x) : i = j := by
  have hl := (List.getElem?_eq_some_iff.mp h1).1
  exact (List.getElem?_inj hl hn).mp (h1.trans h2.symm)
theorem mj_w_set {ad : Nat → Nat} {cA : Nat → ClassId} {S : mj_S} {i k : Nat} {x : mj_E} (hn : S.1.Nodup) (hk : S.1[k]? = some i) : (mj_w ad cA S).set k (ad i, mj_e ad cA x) = mj_w ad cA (mj_up S i x) := by
  have hl := (List.getElem?_eq_some_iff.mp hk).1
  apply List.ext_getElem?
  intro j
  unfold mj_w mj_up
  by_cases hj : j = k
  · subst hj
    rw [List.getElem?_set_self (by rw [List.length_map]; exact hl), List.getElem?_map, hk]
    simp
  · rw [List.getElem?_set_ne (fun q => hj q.symm), List.getElem?_map, List.getElem?_map]
    cases hS : S.1[j]? with
    | none => rfl
    | some y =>
      have hy : y ≠ i := fun q => hj (mj_nd hn hS (by rw [hk, q]))
      simp [hy]
def mj_rv (L : List Nat) (x : Value) : Prop := ∀ i, x = .ref i → i ∈ L
def mj_re (L : List Nat) (x : mj_E) : Prop := match x with
  | .inl (_, a) => ∀ (n : Nat) (f : Nat → Option Nat), a = (n, .inr (.inr (.inr (.inr f)))) → ∀ j i, f j = some i → i ∈ L
  | .inr (_, fs) => ∀ w ∈ fs, mj_rv L w
def mj_cs (S : mj_S) : Prop := S.1.Nodup ∧ (∀ i ∈ S.1, mj_re S.1 (S.2 i)) ∧ 999 ∉ S.1
def mj_rl (L : List Nat) (st : List Value) : Prop := ∀ w ∈ st, mj_rv L w
section MJ1
variable {L : List Nat} {st : List Value} {x y : Value}
theorem mj_rl_t (h : mj_rl L (x :: st)) : mj_rl L st := fun w hw => h w (List.mem_cons_of_mem _ hw)
theorem mj_rl_h (h : mj_rl L (x :: st)) : mj_rv L x := h x List.mem_cons_self
theorem mj_rl_c (hx : mj_rv L x) (h : mj_rl L st) : mj_rl L (x :: st) := fun w hw => (List.mem_cons.mp hw).elim (fun q => by rw [q]; exact hx) (fun q => h w q)
theorem mj_rv_i {a : Int32} : mj_rv L (.int a) := fun i h => by cases h
theorem mj_rv_j {a : Int64} : mj_rv L (.long a) := fun i h => by cases h
theorem mj_rv_n : mj_rv L .null := fun i h => by cases h
theorem mj_rv_u {a : Nat} : mj_rv L (.retAddr a) := fun i h => by cases h
theorem mj_rv_f {a : UInt32} : mj_rv L (.float a) := fun i h => by cases h
theorem mj_rl_n : mj_rl L [] := fun w hw => by cases hw
theorem mj_rl_at {k : Nat} (h : mj_rl L st) (hk : st[k]? = some x) : mj_rv L x := h x (List.mem_of_getElem? hk)
theorem mj_rl_set {k : Nat} (h : mj_rl L st) (hx : mj_rv L x) : mj_rl L (st.set k x) := fun w hw => (List.mem_or_eq_of_mem_set hw).elim (fun q => h w q) (fun q => by rw [q]; exact hx)
theorem mj_rl_app {s2 : List Value} (h : mj_rl L st) (h2 : mj_rl L s2) : mj_rl L (st ++ s2) := fun w hw => (List.mem_append.mp hw).elim (h w) (h2 w)
theorem mj_rl_mono {L2 : List Nat} (h : mj_rl L st) (hL : ∀ i ∈ L, i ∈ L2) : mj_rl L2 st := fun w hw i hi => hL i (h w hw i hi)
end MJ1
/-! locals: a list by places; retAddr marks a place that is not known -/
def mj_u (x : Value) : Bool := match x with
  | .retAddr _ => true
  | _ => false
def mj_al (k : Nat) (lv : List Value) : List (Nat × Value) := match lv with
  | [] => []
  | x :: t => if mj_u x = true then mj_al (k + 1) t else (k, x) :: mj_al (k + 1) t
theorem mj_al_mem {i : Nat} {x : Value} : ∀ (lv : List Value) (k : Nat), (i, x) ∈ mj_al k lv ↔ ∃ j, i = k + j ∧ lv[j]? = some x ∧ mj_u x = false
  | [], k => by simp [mj_al]
  | y :: t, k => by
    unfold mj_al
    constructor
    · intro h
      by_cases hy : mj_u y = true
      · rw [if_pos hy] at h
        obtain ⟨j, h1, h2, h3⟩ := (mj_al_mem t (k + 1)).mp h
        exact ⟨j + 1, by omega, by simpa using h2, h3⟩
      · rw [if_neg hy] at h
        rcases List.mem_cons.mp h with h | h
        · cases h
          exact ⟨0, rfl, rfl, by simpa using hy⟩
        · obtain ⟨j, h1, h2, h3⟩ := (mj_al_mem t (k + 1)).mp h
          exact ⟨j + 1, by omega, by simpa using h2, h3⟩
    · rintro ⟨j, h1, h2, h3⟩
      cases j with
      | zero =>
        simp at h2
        subst h2
        rw [if_neg (by rw [h3]; decide), h1]
        exact List.mem_cons_self
      | succ j =>
        have h4 : (i, x) ∈ mj_al (k + 1) t := (mj_al_mem t (k + 1)).mpr ⟨j, by omega, by simpa using h2, h3⟩
        by_cases hy : mj_u y = true
        · rw [if_pos hy]; exact h4
        · rw [if_neg hy]; exact List.mem_cons_of_mem _ h4
def mj_ls (ad : Nat → Nat) (ls : Array Slot) (nL : Nat) (lv : List Value) : Prop := ls.size = nL ∧ lv_wf ls ∧ ∀ (i : Nat) (x : Value), lv[i]? = some x → mj_u x = false → ls[i]? = some (.val (mj_v ad x))
def mj_as (ad : Nat → Nat) (lv : List Value) : List (Nat × Value) := (mj_al 0 lv).map (fun q => (q.1, mj_v ad q.2))
theorem mj_as_mem {ad : Nat → Nat} {lv : List Value} {j : Nat} {w : Value} (h : lv[j]? = some w) (hu : mj_u w = false) : (j, mj_v ad w) ∈ mj_as ad lv := List.mem_map.mpr ⟨(j, w), (mj_al_mem lv 0).mpr ⟨j, by omega, h, hu⟩, rfl⟩
theorem mj_ls_has {ad : Nat → Nat} {ls : Array Slot} {nL : Nat} {lv : List Value} (h : mj_ls ad ls nL lv) : lv_has ls nL (mj_as ad lv) := by
  refine ⟨h.1, h.2.1, fun q hq => ?_⟩
  obtain ⟨⟨i, x⟩, hx, rfl⟩ := List.mem_map.mp hq
  obtain ⟨j, h1, h2, h3⟩ := (mj_al_mem lv 0).mp hx
  have : i = j := by omega
  subst this
  exact h.2.2 i x h2 h3
def mj_clr (lv : List Value) (i : Nat) : List Value := match i with
  | 0 => lv
  | j + 1 => match lv[j]? with
    | some (.long _) => lv.set j (.retAddr 0)
    | some (.double _) => lv.set j (.retAddr 0)
    | _ => lv
def mj_st1 (lv : List Value) (i : Nat) (x : Value) : List Value := (mj_clr lv i).set i x
def mj_st2 (lv : List Value) (i : Nat) (x : Value) : List Value := ((mj_clr lv i).set i x).set (i + 1) (.retAddr 0)
theorem mj_clr_at {lv : List Value} {i j : Nat} {w : Value} (h : (mj_clr lv i)[j]? = some w) (hu : mj_u w = false) : lv[j]? = some w ∧ ¬ (j + 1 = i ∧ w.category = 2) := by
  cases i with
  | zero => exact ⟨h, fun q => by omega⟩
  | succ i =>
    unfold mj_clr at h
    dsimp only at h
    have key : ∀ (hh : (lv.set i (.retAddr 0))[j]? = some w), lv[j]? = some w ∧ ¬ (j + 1 = i + 1 ∧ w.category = 2) := by
      intro hh
      by_cases hij : i = j
      · subst hij
        by_cases hl : i < lv.length
        · rw [List.getElem?_set_self hl] at hh
          cases hh
          cases hu
        · rw [List.getElem?_eq_none (by simpa using hl)] at hh
          cases hh
      · rw [List.getElem?_set_ne hij] at hh
        exact ⟨hh, fun q => hij (by omega)⟩
    split at h
    · exact key h
    · exact key h
    · next h1 h2 =>
      refine ⟨h, fun q => ?_⟩
      have hij : j = i := by omega
      subst hij
      cases w with
      | long a => exact h1 a h
      | double a => exact h2 a h
      | _ => cases q.2
theorem mj_st1_at {lv : List Value} {i j : Nat} {x w : Value} (h : (mj_st1 lv i x)[j]? = some w) (hu : mj_u w = false) : (j = i ∧ w = x) ∨ (j ≠ i ∧ lv[j]? = some w ∧ ¬ (j + 1 = i ∧ w.category = 2)) := by
  unfold mj_st1 at h
  by_cases hij : i = j
  · subst hij
    by_cases hl : i < (mj_clr lv i).length
    · rw [List.getElem?_set_self hl] at h
      cases h
      exact Or.inl ⟨rfl, rfl⟩
    · rw [List.getElem?_eq_none (by simpa using hl)] at h
      cases h
  · rw [List.getElem?_set_ne hij] at h
    exact Or.inr ⟨fun q => hij q.symm, mj_clr_at h hu⟩
theorem mj_st2_at {lv : List Value} {i j : Nat} {x w : Value} (h : (mj_st2 lv i x)[j]? = some w) (hu : mj_u w = false) : (j = i ∧ w = x) ∨ (j ≠ i ∧ j ≠ i + 1 ∧ lv[j]? = some w ∧ ¬ (j + 1 = i ∧ w.category = 2)) := by
  unfold mj_st2 at h
  by_cases hij : i + 1 = j
  · subst hij
    by_cases hl : i + 1 < ((mj_clr lv i).set i x).length
    · rw [List.getElem?_set_self hl] at h
      cases h
      cases hu
    · rw [List.getElem?_eq_none (by simpa using hl)] at h
      cases h
  · rw [List.getElem?_set_ne hij] at h
    rcases mj_st1_at (lv := lv) (i := i) (x := x) h hu with q | q
    · exact Or.inl q
    · exact Or.inr ⟨q.1, fun z => hij z.symm, q.2⟩
theorem mj_cat (ad : Nat → Nat) (w : Value) : (mj_v ad w).category = w.category := by cases w <;> rfl
theorem mj_ls_st1 {ad : Nat → Nat} {ls' : Array Slot} {nL i : Nat} {lv : List Value} {x y : Value} (e : mj_v ad x = y) (h : lv_has ls' nL ((i, y) :: (mj_as ad lv).filter (fun q => !(q.1 == i) && !(q.1 + 1 == i && q.2.category == 2)))) : mj_ls ad ls' nL (mj_st1 lv i x) := by
  subst e
  refine ⟨h.1, h.2.1, fun j w hj hu => ?_⟩
  rcases mj_st1_at hj hu with ⟨rfl, rfl⟩ | ⟨h1, h2, h3⟩
  · exact h.2.2 _ List.mem_cons_self
  · refine h.2.2 (j, mj_v ad w) (List.mem_cons_of_mem _ (List.mem_filter.mpr ⟨mj_as_mem h2 hu, ?_⟩))
    simp only [mj_cat]
    simp only [Bool.and_eq_true, Bool.not_eq_true', beq_eq_false_iff_ne, Bool.and_eq_false_iff]
    refine ⟨h1, ?_⟩
    by_cases q : j + 1 = i
    · exact Or.inr (fun z => h3 ⟨q, z⟩)
    · exact Or.inl q
theorem mj_ls_st2 {ad : Nat → Nat} {ls' : Array Slot} {nL i : Nat} {lv : List Value} {x y : Value} (e : mj_v ad x = y) (h : lv_has ls' nL ((i, y) :: (mj_as ad lv).filter (fun q => !(q.1 == i) && (!(q.1 == i + 1) && !(q.1 + 1 == i && q.2.category == 2))))) : mj_ls ad ls' nL (mj_st2 lv i x) := by
  subst e
  refine ⟨h.1, h.2.1, fun j w hj hu => ?_⟩
  rcases mj_st2_at hj hu with ⟨rfl, rfl⟩ | ⟨h1, h1b, h2, h3⟩
  · exact h.2.2 _ List.mem_cons_self
  · refine h.2.2 (j, mj_v ad w) (List.mem_cons_of_mem _ (List.mem_filter.mpr ⟨mj_as_mem h2 hu, ?_⟩))
    simp only [mj_cat]
    simp only [Bool.and_eq_true, Bool.not_eq_true', beq_eq_false_iff_ne, Bool.and_eq_false_iff]
    refine ⟨h1, h1b, ?_⟩
    by_cases q : j + 1 = i
    · exact Or.inr (fun z => h3 ⟨q, z⟩)
    · exact Or.inl q
theorem mj_rl_clr {L : List Nat} {lv : List Value} {i : Nat} (h : mj_rl L lv) : mj_rl L (mj_clr lv i) := by
  cases i with
  | zero => exact h
  | succ j =>
    unfold mj_clr
    dsimp only
    split
    · exact mj_rl_set h mj_rv_u
    · exact mj_rl_set h mj_rv_u
    · exact h
theorem mj_rl_st1 {L : List Nat} {lv : List Value} {i : Nat} {x : Value} (h : mj_rl L lv) (hx : mj_rv L x) : mj_rl L (mj_st1 lv i x) := mj_rl_set (mj_rl_clr h) hx
theorem mj_rl_st2 {L : List Nat} {lv : List Value} {i : Nat} {x : Value} (h : mj_rl L lv) (hx : mj_rv L x) : mj_rl L (mj_st2 lv i x) := mj_rl_set (mj_rl_set (mj_rl_clr h) hx) mj_rv_u
/-! what the tables say -/
abbrev mj_tys (cA : Nat → ClassId) : List (ClassId × FieldType) := [(cA 0, .int), (cA 1, .byte), (cA 2, .array .int), (cA 3, .array .byte), (cA 4, .object "LampCave$Cave")]
def mj_nest : List (String × Nat × MethodName × String) := [(RC_c, 28, yV_init, RC_c), (RC_c, 42, yR_init, RC_c), (RC_c, 49, yA_init, RC_c), (RC_c, 56, yS_init, RC_c), (RA_c, 107, yC_isOfKind, RC_c), (RV_c, 63, yC_isOfKind, RC_c)]
/-- an array class over an array class, by the tables -/
def va_AOA (t : FieldType) (U : State) : Prop := (Cond.arrayOver (.array t)).before #[] U = true
theorem va_AOA.use {t : FieldType} {A : Array Value} {U : State} (h : va_AOA t U) : (Cond.arrayOver (.array t)).before A U = true := h
theorem va_AOA.moved {t : FieldType} {u U : State} (hvm : u.vm.Alike U.vm) (h : va_AOA t u) : va_AOA t U := Jvm.Stand.arrayOver_alikeB hvm h
def mj_U (D : va_G) (cA : Nat → ClassId) (U : State) : Prop := va_K D mj_cl (mj_tys cA) U ∧ (∀ q ∈ mj_nest, va_Nw (.methodLinkNest q.1 q.2.1 q.2.2.1 q.2.2.2) U) ∧ va_AO "LampCave$Cave" U ∧ va_AOA .int U ∧ va_AOA .byte U
/-! the judgement -/
abbrev mj_KT : Type := Nat → Nat → Nat → List Value → List Value → mj_S → Prop
def mj_H (s : State) (nL mc ms : Nat) (D : va_G) (cA : Nat → ClassId) (ad0 : Nat → Nat) (L0 : List Nat) (A : Nat → Prop) (u v : Nat) (lv st : List Value) (S : mj_S) (ad : Nat → Nat) (H : Heap) (locs : List Loc) (ls : Array Slot) : Prop :=
  (u ≤ mc ∧ v ≤ ms) ∧ ((∀ i, (i ∈ L0 ∨ i ∉ S.1) → ad i = ad0 i) ∧ ∀ i ∈ L0, i ∈ S.1) ∧ mj_cs S ∧ mj_rl S.1 st ∧ mj_rl S.1 lv ∧ va_P D mj_cl (mj_w ad cA S) H ∧ va_D A (mj_w ad cA S) ∧ va_S A s.heap H locs ∧ mj_ls ad ls nL lv
def mj_K (p : Program) (l : Launch) (e : Env) (R : Room) (s : State) (m : MethodId) (args : Array Value) (below : List Frame) (meth : Method) (c : Code) (nL mc ms : Nat) (D : va_G) (cA : Nat → ClassId) (ad0 : Nat → Nat) (L0 : List Nat) (A : Nat → Prop) (Q : State → Prop) : mj_KT := fun u v pc lv st S =>
  ∀ (ad : Nat → Nat) (H : Heap) (locs : List Loc) (ls : Array Slot), mj_H s nL mc ms D cA ad0 L0 A u v lv st S ad H locs ls → W p l e R s m args below meth c H locs u v Q (F0 m pc ls (st.map (mj_v ad)))
/-- K is the judgement of some run of a method of 'own', named mn, with the bytes cc -/
def mj_C (d mc ms : Nat) (own mn : String) (cc : ByteArray) (nL : Nat) (K : mj_KT) : Prop :=
  ∃ (p : Program) (l : Launch) (e : Env) (R : Room) (s : State) (m : MethodId) (args : Array Value) (below : List Frame) (meth : Method) (c : Code) (D : va_G) (cA : Nat → ClassId) (ad0 : Nat → Nat) (L0 : List Nat) (A : Nat → Prop) (Q : State → Prop),
    p.tables.exec = Jvm.exec ∧ c.code = cc ∧ c.maxLocals = nL ∧ s.vm.findClass own = some m.cls ∧ (∀ w ∈ mj_ws, w.before args s = true) ∧ mj_U D cA s ∧ (∀ q, s.heap.size ≤ q → A q) ∧ meth.name = mn ∧ (d ≤ R.frames ∧ 60 * d ≤ R.locals ∧ mc ≤ R.cells ∧ ms ≤ R.slots) ∧ K = mj_K p l e R s m args below meth c nL mc ms D cA ad0 L0 A Q
theorem mj_H.re {s : State} {nL mc ms : Nat} {D : va_G} {cA : Nat → ClassId} {ad0 : Nat → Nat} {L0 : List Nat} {A : Nat → Prop} {u v : Nat} {lv st st' : List Value} {S : mj_S} {ad : Nat → Nat} {H : Heap} {locs : List Loc} {ls : Array Slot} (h : mj_H s nL mc ms D cA ad0 L0 A u v lv st S ad H locs ls) (f : mj_rl S.1 st → mj_rl S.1 lv → mj_rl S.1 st') : mj_H s nL mc ms D cA ad0 L0 A u v lv st' S ad H locs ls :=
  ⟨h.1, h.2.1, h.2.2.1, f h.2.2.2.1 h.2.2.2.2.1, h.2.2.2.2⟩
theorem mj_H.lo {s : State} {nL mc ms : Nat} {D : va_G} {cA : Nat → ClassId} {ad0 : Nat → Nat} {L0 : List Nat} {A : Nat → Prop} {u v : Nat} {lv lv' st st' : List Value} {S : mj_S} {ad : Nat → Nat} {H : Heap} {locs : List Loc} {ls ls' : Array Slot} (h : mj_H s nL mc ms D cA ad0 L0 A u v lv st S ad H locs ls) (f : mj_rl S.1 st → mj_rl S.1 lv → mj_rl S.1 st' ∧ mj_rl S.1 lv') (g : mj_ls ad ls' nL lv') : mj_H s nL mc ms D cA ad0 L0 A u v lv' st' S ad H locs ls' :=
  ⟨h.1, h.2.1, h.2.2.1, (f h.2.2.2.1 h.2.2.2.2.1).1, (f h.2.2.2.1 h.2.2.2.2.1).2, h.2.2.2.2.2.1, h.2.2.2.2.2.2.1, h.2.2.2.2.2.2.2.1, g⟩
end
section
section MJA
variable {s : State} {nL mc ms : Nat} {D : va_G} {cA : Nat → ClassId} {ad0 : Nat → Nat} {L0 : List Nat} {A : Nat → Prop} {u v : Nat} {lv st : List Value} {S : mj_S} {ad : Nat → Nat} {H : Heap} {locs : List Loc} {ls : Array Slot}
theorem mj_H.hcs (h : mj_H s nL mc ms D cA ad0 L0 A u v lv st S ad H locs ls) : mj_cs S := h.2.2.1
theorem mj_H.hrs (h : mj_H s nL mc ms D cA ad0 L0 A u v lv st S ad H locs ls) : mj_rl S.1 st := h.2.2.2.1
theorem mj_H.hrl (h : mj_H s nL mc ms D cA ad0 L0 A u v lv st S ad H locs ls) : mj_rl S.1 lv := h.2.2.2.2.1
theorem mj_H.hP (h : mj_H s nL mc ms D cA ad0 L0 A u v lv st S ad H locs ls) : va_P D mj_cl (mj_w ad cA S) H := h.2.2.2.2.2.1
theorem mj_H.hD (h : mj_H s nL mc ms D cA ad0 L0 A u v lv st S ad H locs ls) : va_D A (mj_w ad cA S) := h.2.2.2.2.2.2.1
theorem mj_H.hS (h : mj_H s nL mc ms D cA ad0 L0 A u v lv st S ad H locs ls) : va_S A s.heap H locs := h.2.2.2.2.2.2.2.1
theorem mj_H.hls (h : mj_H s nL mc ms D cA ad0 L0 A u v lv st S ad H locs ls) : mj_ls ad ls nL lv := h.2.2.2.2.2.2.2.2
end MJA
theorem mj_cats (ad : Nat → Nat) (st : List Value) : ((st.map (mj_v ad)).map fun q => q.category).sum = (st.map fun q => q.category).sum := by
  rw [List.map_map]
  congr 1
  apply List.map_congr_left
  intro a _
  exact mj_cat ad a
section MJR
variable {d mc ms nL : Nat} {own mn : String} {cc : ByteArray} {K : mj_KT} {u v pc : Nat} {lv st : List Value} {S : mj_S}
theorem ro_iconst (hK : mj_C d mc ms own mn cc nL K) {n : Int} {x : Int32} (hv : Int32.ofInt n = x) (dg : decode cc pc = .ok (.iconst n, 1)) (k : K u v (pc + 1) lv (.int x :: st) S) : K u v pc lv st S := by
  obtain ⟨p, l, e, R, s, m, args, below, meth, c, D, cA, ad0, L0, A, Q, hx, hb, hml, hown, hts, hU, hA, hmn, hR, rfl⟩ := hK
  intro ad H locs ls h
  exact lv_iconst hx hb dg hv (k ad H locs ls (h.re fun a b => mj_rl_c mj_rv_i a))
theorem ro_bipush (hK : mj_C d mc ms own mn cc nL K) {n : Int} {x : Int32} (hv : (Int8.ofInt n).toInt32 = x) (dg : decode cc pc = .ok (.bipush n, 2)) (k : K u v (pc + 2) lv (.int x :: st) S) : K u v pc lv st S := by
  obtain ⟨p, l, e, R, s, m, args, below, meth, c, D, cA, ad0, L0, A, Q, hx, hb, hml, hown, hts, hU, hA, hmn, hR, rfl⟩ := hK
  intro ad H locs ls h
  exact lv_bipush hx hb dg hv (k ad H locs ls (h.re fun a b => mj_rl_c mj_rv_i a))
theorem ro_sipush (hK : mj_C d mc ms own mn cc nL K) {n : Int} {x : Int32} (hv : (Int16.ofInt n).toInt32 = x) (dg : decode cc pc = .ok (.sipush n, 3)) (k : K u v (pc + 3) lv (.int x :: st) S) : K u v pc lv st S := by
  obtain ⟨p, l, e, R, s, m, args, below, meth, c, D, cA, ad0, L0, A, Q, hx, hb, hml, hown, hts, hU, hA, hmn, hR, rfl⟩ := hK
  intro ad H locs ls h
  exact lv_sipush hx hb dg hv (k ad H locs ls (h.re fun a b => mj_rl_c mj_rv_i a))
theorem ro_lconst (hK : mj_C d mc ms own mn cc nL K) {n : Fin 2} {x : Int64} (hv : Int64.ofNat (n : Nat) = x) (dg : decode cc pc = .ok (.lconst n, 1)) (k : K u v (pc + 1) lv (.long x :: st) S) : K u v pc lv st S := by
  obtain ⟨p, l, e, R, s, m, args, below, meth, c, D, cA, ad0, L0, A, Q, hx, hb, hml, hown, hts, hU, hA, hmn, hR, rfl⟩ := hK
  intro ad H locs ls h
  exact lv_lconst hx hb dg hv (k ad H locs ls (h.re fun a b => mj_rl_c mj_rv_j a))
theorem ro_ldc (hK : mj_C d mc ms own mn cc nL K) {idx : Nat} {x : Int32} (hw : Cond.constant own idx x ∈ mj_ws) (dg : decode cc pc = .ok (.ldc idx, 2)) (k : K u v (pc + 2) lv (.int x :: st) S) : K u v pc lv st S := by
  obtain ⟨p, l, e, R, s, m, args, below, meth, c, D, cA, ad0, L0, A, Q, hx, hb, hml, hown, hts, hU, hA, hmn, hR, rfl⟩ := hK
  intro ad H locs ls h
  exact lv_ldc hx hb hown (hts _ hw) dg (k ad H locs ls (h.re fun a b => mj_rl_c mj_rv_i a))
theorem ro_ldcw (hK : mj_C d mc ms own mn cc nL K) {idx : Nat} {x : Int32} (hw : Cond.constant own idx x ∈ mj_ws) (dg : decode cc pc = .ok (.ldc_w idx, 3)) (k : K u v (pc + 3) lv (.int x :: st) S) : K u v pc lv st S := by
  obtain ⟨p, l, e, R, s, m, args, below, meth, c, D, cA, ad0, L0, A, Q, hx, hb, hml, hown, hts, hU, hA, hmn, hR, rfl⟩ := hK
  intro ad H locs ls h
  exact lv_ldcw hx hb hown (hts _ hw) dg (k ad H locs ls (h.re fun a b => mj_rl_c mj_rv_i a))
theorem ro_ldc2 (hK : mj_C d mc ms own mn cc nL K) {idx : Nat} {x : Int64} (hw : Cond.constantLong own idx x ∈ mj_ws) (dg : decode cc pc = .ok (.ldc2_w idx, 3)) (k : K u v (pc + 3) lv (.long x :: st) S) : K u v pc lv st S := by
  obtain ⟨p, l, e, R, s, m, args, below, meth, c, D, cA, ad0, L0, A, Q, hx, hb, hml, hown, hts, hU, hA, hmn, hR, rfl⟩ := hK
  intro ad H locs ls h
  exact lv_ldc2 hx hb hown (hts _ hw) dg (k ad H locs ls (h.re fun a b => mj_rl_c mj_rv_j a))
theorem ro_iload_n (hK : mj_C d mc ms own mn cc nL K) {kf : Fin 4} {x : Int32} (dg : decode cc pc = .ok (.iload_n kf, 1)) (hl : lv[(kf : Nat)]? = some (.int x)) (k : K u v (pc + 1) lv (.int x :: st) S) : K u v pc lv st S := by
  obtain ⟨p, l, e, R, s, m, args, below, meth, c, D, cA, ad0, L0, A, Q, hx, hb, hml, hown, hts, hU, hA, hmn, hR, rfl⟩ := hK
  intro ad H locs ls h
  exact lv_iload_n hx hb dg rfl (h.hls.2.2 _ _ hl rfl) (k ad H locs ls (h.re fun a b => mj_rl_c (mj_rl_at b hl) a))
theorem ro_iload (hK : mj_C d mc ms own mn cc nL K) {i : Nat} {x : Int32} (dg : decode cc pc = .ok (.iload i, 2)) (hl : lv[i]? = some (.int x)) (k : K u v (pc + 2) lv (.int x :: st) S) : K u v pc lv st S := by
  obtain ⟨p, l, e, R, s, m, args, below, meth, c, D, cA, ad0, L0, A, Q, hx, hb, hml, hown, hts, hU, hA, hmn, hR, rfl⟩ := hK
  intro ad H locs ls h
  exact lv_iload hx hb dg (h.hls.2.2 _ _ hl rfl) (k ad H locs ls (h.re fun a b => mj_rl_c (mj_rl_at b hl) a))
theorem ro_lload_n (hK : mj_C d mc ms own mn cc nL K) {kf : Fin 4} {x : Int64} (dg : decode cc pc = .ok (.lload_n kf, 1)) (hl : lv[(kf : Nat)]? = some (.long x)) (k : K u v (pc + 1) lv (.long x :: st) S) : K u v pc lv st S := by
  obtain ⟨p, l, e, R, s, m, args, below, meth, c, D, cA, ad0, L0, A, Q, hx, hb, hml, hown, hts, hU, hA, hmn, hR, rfl⟩ := hK
  intro ad H locs ls h
  exact lv_lload_n hx hb dg rfl (h.hls.2.2 _ _ hl rfl) (k ad H locs ls (h.re fun a b => mj_rl_c (mj_rl_at b hl) a))
theorem ro_lload (hK : mj_C d mc ms own mn cc nL K) {i : Nat} {x : Int64} (dg : decode cc pc = .ok (.lload i, 2)) (hl : lv[i]? = some (.long x)) (k : K u v (pc + 2) lv (.long x :: st) S) : K u v pc lv st S := by
  obtain ⟨p, l, e, R, s, m, args, below, meth, c, D, cA, ad0, L0, A, Q, hx, hb, hml, hown, hts, hU, hA, hmn, hR, rfl⟩ := hK
  intro ad H locs ls h
  exact lv_lload hx hb dg (h.hls.2.2 _ _ hl rfl) (k ad H locs ls (h.re fun a b => mj_rl_c (mj_rl_at b hl) a))
theorem ro_aload_n (hK : mj_C d mc ms own mn cc nL K) {kf : Fin 4} {x : Nat} (dg : decode cc pc = .ok (.aload_n kf, 1)) (hl : lv[(kf : Nat)]? = some (.ref x)) (k : K u v (pc + 1) lv (.ref x :: st) S) : K u v pc lv st S := by
  obtain ⟨p, l, e, R, s, m, args, below, meth, c, D, cA, ad0, L0, A, Q, hx, hb, hml, hown, hts, hU, hA, hmn, hR, rfl⟩ := hK
  intro ad H locs ls h
  exact lv_aload_n hx hb dg rfl (h.hls.2.2 _ _ hl rfl) (k ad H locs ls (h.re fun a b => mj_rl_c (mj_rl_at b hl) a))
theorem ro_aload (hK : mj_C d mc ms own mn cc nL K) {i : Nat} {x : Nat} (dg : decode cc pc = .ok (.aload i, 2)) (hl : lv[i]? = some (.ref x)) (k : K u v (pc + 2) lv (.ref x :: st) S) : K u v pc lv st S := by
  obtain ⟨p, l, e, R, s, m, args, below, meth, c, D, cA, ad0, L0, A, Q, hx, hb, hml, hown, hts, hU, hA, hmn, hR, rfl⟩ := hK
  intro ad H locs ls h
  exact lv_aload hx hb dg (h.hls.2.2 _ _ hl rfl) (k ad H locs ls (h.re fun a b => mj_rl_c (mj_rl_at b hl) a))
theorem ro_aload_nN (hK : mj_C d mc ms own mn cc nL K) {kf : Fin 4} (dg : decode cc pc = .ok (.aload_n kf, 1)) (hl : lv[(kf : Nat)]? = some .null) (k : K u v (pc + 1) lv (.null :: st) S) : K u v pc lv st S := by
  obtain ⟨p, l, e, R, s, m, args, below, meth, c, D, cA, ad0, L0, A, Q, hx, hb, hml, hown, hts, hU, hA, hmn, hR, rfl⟩ := hK
  intro ad H locs ls h
  exact lv_aload_nN hx hb dg rfl (h.hls.2.2 _ _ hl rfl) (k ad H locs ls (h.re fun a b => mj_rl_c mj_rv_n a))
theorem ro_aload_nF (hK : mj_C d mc ms own mn cc nL K) {kf : Fin 4} {w : UInt32} (dg : decode cc pc = .ok (.aload_n kf, 1)) (hl : lv[(kf : Nat)]? = some (.float w)) (k : K u v (pc + 1) lv (.float w :: st) S) : K u v pc lv st S := by
  obtain ⟨p, l, e, R, s, m, args, below, meth, c, D, cA, ad0, L0, A, Q, hx, hb, hml, hown, hts, hU, hA, hmn, hR, rfl⟩ := hK
  intro ad H locs ls h
  exact lv_aload_n hx hb dg rfl (h.hls.2.2 _ _ hl rfl) (k ad H locs ls (h.re fun a b => mj_rl_c mj_rv_f a))
theorem ro_istore_n (hK : mj_C d mc ms own mn cc nL K) {kf : Fin 4} {x : Int32} (dg : decode cc pc = .ok (.istore_n kf, 1)) (hn : (kf : Nat) < nL) (k : K u v (pc + 1) (mj_st1 lv (kf : Nat) (.int x)) st S) : K u v pc lv (.int x :: st) S := by
  obtain ⟨p, l, e, R, s, m, args, below, meth, c, D, cA, ad0, L0, A, Q, hx, hb, hml, hown, hts, hU, hA, hmn, hR, rfl⟩ := hK
  intro ad H locs ls h
  exact lv_istore_n hx hb dg rfl (mj_ls_has h.hls) hn rfl (fun ls' hl' => k ad H locs ls' (h.lo (fun a b => ⟨mj_rl_t a, mj_rl_st1 b (mj_rl_h a)⟩) (mj_ls_st1 rfl hl')))
theorem ro_istore (hK : mj_C d mc ms own mn cc nL K) {i : Nat} {x : Int32} (dg : decode cc pc = .ok (.istore i, 2)) (hn : i < nL) (k : K u v (pc + 2) (mj_st1 lv i (.int x)) st S) : K u v pc lv (.int x :: st) S := by
  obtain ⟨p, l, e, R, s, m, args, below, meth, c, D, cA, ad0, L0, A, Q, hx, hb, hml, hown, hts, hU, hA, hmn, hR, rfl⟩ := hK
  intro ad H locs ls h
  exact lv_istore hx hb dg (mj_ls_has h.hls) hn rfl (fun ls' hl' => k ad H locs ls' (h.lo (fun a b => ⟨mj_rl_t a, mj_rl_st1 b (mj_rl_h a)⟩) (mj_ls_st1 rfl hl')))
theorem ro_lstore_n (hK : mj_C d mc ms own mn cc nL K) {kf : Fin 4} {x : Int64} (dg : decode cc pc = .ok (.lstore_n kf, 1)) (hn : (kf : Nat) + 1 < nL) (k : K u v (pc + 1) (mj_st2 lv (kf : Nat) (.long x)) st S) : K u v pc lv (.long x :: st) S := by
  obtain ⟨p, l, e, R, s, m, args, below, meth, c, D, cA, ad0, L0, A, Q, hx, hb, hml, hown, hts, hU, hA, hmn, hR, rfl⟩ := hK
  intro ad H locs ls h
  exact lv_lstore_n hx hb dg rfl (mj_ls_has h.hls) hn rfl (fun ls' hl' => k ad H locs ls' (h.lo (fun a b => ⟨mj_rl_t a, mj_rl_st2 b (mj_rl_h a)⟩) (mj_ls_st2 rfl hl')))
theorem ro_lstore (hK : mj_C d mc ms own mn cc nL K) {i : Nat} {x : Int64} (dg : decode cc pc = .ok (.lstore i, 2)) (hn : i + 1 < nL) (k : K u v (pc + 2) (mj_st2 lv i (.long x)) st S) : K u v pc lv (.long x :: st) S := by
  obtain ⟨p, l, e, R, s, m, args, below, meth, c, D, cA, ad0, L0, A, Q, hx, hb, hml, hown, hts, hU, hA, hmn, hR, rfl⟩ := hK
  intro ad H locs ls h
  exact lv_lstore hx hb dg (mj_ls_has h.hls) hn rfl (fun ls' hl' => k ad H locs ls' (h.lo (fun a b => ⟨mj_rl_t a, mj_rl_st2 b (mj_rl_h a)⟩) (mj_ls_st2 rfl hl')))
theorem ro_astore_n (hK : mj_C d mc ms own mn cc nL K) {kf : Fin 4} {x : Nat} (dg : decode cc pc = .ok (.astore_n kf, 1)) (hn : (kf : Nat) < nL) (k : K u v (pc + 1) (mj_st1 lv (kf : Nat) (.ref x)) st S) : K u v pc lv (.ref x :: st) S := by
  obtain ⟨p, l, e, R, s, m, args, below, meth, c, D, cA, ad0, L0, A, Q, hx, hb, hml, hown, hts, hU, hA, hmn, hR, rfl⟩ := hK
  intro ad H locs ls h
  exact lv_astore_n hx hb dg rfl (mj_ls_has h.hls) hn rfl (fun ls' hl' => k ad H locs ls' (h.lo (fun a b => ⟨mj_rl_t a, mj_rl_st1 b (mj_rl_h a)⟩) (mj_ls_st1 rfl hl')))
theorem ro_astore (hK : mj_C d mc ms own mn cc nL K) {i : Nat} {x : Nat} (dg : decode cc pc = .ok (.astore i, 2)) (hn : i < nL) (k : K u v (pc + 2) (mj_st1 lv i (.ref x)) st S) : K u v pc lv (.ref x :: st) S := by
  obtain ⟨p, l, e, R, s, m, args, below, meth, c, D, cA, ad0, L0, A, Q, hx, hb, hml, hown, hts, hU, hA, hmn, hR, rfl⟩ := hK
  intro ad H locs ls h
  exact lv_astore hx hb dg (mj_ls_has h.hls) hn rfl (fun ls' hl' => k ad H locs ls' (h.lo (fun a b => ⟨mj_rl_t a, mj_rl_st1 b (mj_rl_h a)⟩) (mj_ls_st1 rfl hl')))
theorem ro_astore_nN (hK : mj_C d mc ms own mn cc nL K) {kf : Fin 4} (dg : decode cc pc = .ok (.astore_n kf, 1)) (hn : (kf : Nat) < nL) (k : K u v (pc + 1) (mj_st1 lv (kf : Nat) .null) st S) : K u v pc lv (.null :: st) S := by
  obtain ⟨p, l, e, R, s, m, args, below, meth, c, D, cA, ad0, L0, A, Q, hx, hb, hml, hown, hts, hU, hA, hmn, hR, rfl⟩ := hK
  intro ad H locs ls h
  exact lv_astore_nN hx hb dg rfl (mj_ls_has h.hls) hn rfl (fun ls' hl' => k ad H locs ls' (h.lo (fun a b => ⟨mj_rl_t a, mj_rl_st1 b mj_rv_n⟩) (mj_ls_st1 rfl hl')))
theorem ro_iinc (hK : mj_C d mc ms own mn cc nL K) {i : Nat} {n : Int} {x : Int32} (dg : decode cc pc = .ok (.iinc i n, 3)) (hl : lv[i]? = some (.int x)) (hn : i < nL) (k : K u v (pc + 3) (mj_st1 lv i (.int (x + Int32.ofInt n))) st S) : K u v pc lv st S := by
  obtain ⟨p, l, e, R, s, m, args, below, meth, c, D, cA, ad0, L0, A, Q, hx, hb, hml, hown, hts, hU, hA, hmn, hR, rfl⟩ := hK
  intro ad H locs ls h
  obtain ⟨q, hq⟩ := List.getElem?_of_mem (mj_as_mem (ad := ad) hl rfl)
  exact lv_iinc hx hb dg (mj_ls_has h.hls) hq rfl hn rfl (fun ls' hl' => k ad H locs ls' (h.lo (fun a b => ⟨a, mj_rl_st1 b mj_rv_i⟩) (mj_ls_st1 rfl hl')))
theorem ro_iadd (hK : mj_C d mc ms own mn cc nL K) {x y : Int32} (dg : decode cc pc = .ok (.iadd, 1)) (k : K u v (pc + 1) lv (.int (x + y) :: st) S) : K u v pc lv (.int y :: .int x :: st) S := by
  obtain ⟨p, l, e, R, s, m, args, below, meth, c, D, cA, ad0, L0, A, Q, hx, hb, hml, hown, hts, hU, hA, hmn, hR, rfl⟩ := hK
  intro ad H locs ls h
  exact lv_iadd hx hb dg (k ad H locs ls (h.re fun a b => mj_rl_c mj_rv_i (mj_rl_t (mj_rl_t a))))
theorem ro_isub (hK : mj_C d mc ms own mn cc nL K) {x y : Int32} (dg : decode cc pc = .ok (.isub, 1)) (k : K u v (pc + 1) lv (.int (x - y) :: st) S) : K u v pc lv (.int y :: .int x :: st) S := by
  obtain ⟨p, l, e, R, s, m, args, below, meth, c, D, cA, ad0, L0, A, Q, hx, hb, hml, hown, hts, hU, hA, hmn, hR, rfl⟩ := hK
  intro ad H locs ls h
  exact lv_isub hx hb dg (k ad H locs ls (h.re fun a b => mj_rl_c mj_rv_i (mj_rl_t (mj_rl_t a))))
theorem ro_imul (hK : mj_C d mc ms own mn cc nL K) {x y : Int32} (dg : decode cc pc = .ok (.imul, 1)) (k : K u v (pc + 1) lv (.int (x * y) :: st) S) : K u v pc lv (.int y :: .int x :: st) S := by
  obtain ⟨p, l, e, R, s, m, args, below, meth, c, D, cA, ad0, L0, A, Q, hx, hb, hml, hown, hts, hU, hA, hmn, hR, rfl⟩ := hK
  intro ad H locs ls h
  exact lv_imul hx hb dg (k ad H locs ls (h.re fun a b => mj_rl_c mj_rv_i (mj_rl_t (mj_rl_t a))))
theorem ro_iand (hK : mj_C d mc ms own mn cc nL K) {x y : Int32} (dg : decode cc pc = .ok (.iand, 1)) (k : K u v (pc + 1) lv (.int (x &&& y) :: st) S) : K u v pc lv (.int y :: .int x :: st) S := by
  obtain ⟨p, l, e, R, s, m, args, below, meth, c, D, cA, ad0, L0, A, Q, hx, hb, hml, hown, hts, hU, hA, hmn, hR, rfl⟩ := hK
  intro ad H locs ls h
  exact lv_iand hx hb dg (k ad H locs ls (h.re fun a b => mj_rl_c mj_rv_i (mj_rl_t (mj_rl_t a))))
theorem ro_ior (hK : mj_C d mc ms own mn cc nL K) {x y : Int32} (dg : decode cc pc = .ok (.ior, 1)) (k : K u v (pc + 1) lv (.int (x ||| y) :: st) S) : K u v pc lv (.int y :: .int x :: st) S := by
  obtain ⟨p, l, e, R, s, m, args, below, meth, c, D, cA, ad0, L0, A, Q, hx, hb, hml, hown, hts, hU, hA, hmn, hR, rfl⟩ := hK
  intro ad H locs ls h
  exact lv_ior hx hb dg (k ad H locs ls (h.re fun a b => mj_rl_c mj_rv_i (mj_rl_t (mj_rl_t a))))
theorem ro_ixor (hK : mj_C d mc ms own mn cc nL K) {x y : Int32} (dg : decode cc pc = .ok (.ixor, 1)) (k : K u v (pc + 1) lv (.int (x ^^^ y) :: st) S) : K u v pc lv (.int y :: .int x :: st) S := by
  obtain ⟨p, l, e, R, s, m, args, below, meth, c, D, cA, ad0, L0, A, Q, hx, hb, hml, hown, hts, hU, hA, hmn, hR, rfl⟩ := hK
  intro ad H locs ls h
  exact lv_ixor hx hb dg (k ad H locs ls (h.re fun a b => mj_rl_c mj_rv_i (mj_rl_t (mj_rl_t a))))
theorem ro_ishl (hK : mj_C d mc ms own mn cc nL K) {x y : Int32} (dg : decode cc pc = .ok (.ishl, 1)) (k : K u v (pc + 1) lv (.int (x <<< (y &&& 31)) :: st) S) : K u v pc lv (.int y :: .int x :: st) S := by
  obtain ⟨p, l, e, R, s, m, args, below, meth, c, D, cA, ad0, L0, A, Q, hx, hb, hml, hown, hts, hU, hA, hmn, hR, rfl⟩ := hK
  intro ad H locs ls h
  exact lv_ishl hx hb dg (k ad H locs ls (h.re fun a b => mj_rl_c mj_rv_i (mj_rl_t (mj_rl_t a))))
theorem ro_ishr (hK : mj_C d mc ms own mn cc nL K) {x y : Int32} (dg : decode cc pc = .ok (.ishr, 1)) (k : K u v (pc + 1) lv (.int (x >>> (y &&& 31)) :: st) S) : K u v pc lv (.int y :: .int x :: st) S := by
  obtain ⟨p, l, e, R, s, m, args, below, meth, c, D, cA, ad0, L0, A, Q, hx, hb, hml, hown, hts, hU, hA, hmn, hR, rfl⟩ := hK
  intro ad H locs ls h
  exact lv_ishr hx hb dg (k ad H locs ls (h.re fun a b => mj_rl_c mj_rv_i (mj_rl_t (mj_rl_t a))))
theorem ro_iushr (hK : mj_C d mc ms own mn cc nL K) {x y : Int32} (dg : decode cc pc = .ok (.iushr, 1)) (k : K u v (pc + 1) lv (.int ((x.toUInt32 >>> (y.toUInt32 &&& Int32.toUInt32 31)).toInt32) :: st) S) : K u v pc lv (.int y :: .int x :: st) S := by
  obtain ⟨p, l, e, R, s, m, args, below, meth, c, D, cA, ad0, L0, A, Q, hx, hb, hml, hown, hts, hU, hA, hmn, hR, rfl⟩ := hK
  intro ad H locs ls h
  exact lv_iushr hx hb dg rfl (k ad H locs ls (h.re fun a b => mj_rl_c mj_rv_i (mj_rl_t (mj_rl_t a))))
theorem ro_idiv (hK : mj_C d mc ms own mn cc nL K) {x y : Int32} (dg : decode cc pc = .ok (.idiv, 1)) (hne : ¬ y = 0) (k : K u v (pc + 1) lv (.int (x / y) :: st) S) : K u v pc lv (.int y :: .int x :: st) S := by
  obtain ⟨p, l, e, R, s, m, args, below, meth, c, D, cA, ad0, L0, A, Q, hx, hb, hml, hown, hts, hU, hA, hmn, hR, rfl⟩ := hK
  intro ad H locs ls h
  exact lv_idiv hx hb dg hne (k ad H locs ls (h.re fun a b => mj_rl_c mj_rv_i (mj_rl_t (mj_rl_t a))))
theorem ro_irem (hK : mj_C d mc ms own mn cc nL K) {x y : Int32} (dg : decode cc pc = .ok (.irem, 1)) (hne : ¬ y = 0) (k : K u v (pc + 1) lv (.int (x - x / y * y) :: st) S) : K u v pc lv (.int y :: .int x :: st) S := by
  obtain ⟨p, l, e, R, s, m, args, below, meth, c, D, cA, ad0, L0, A, Q, hx, hb, hml, hown, hts, hU, hA, hmn, hR, rfl⟩ := hK
  intro ad H locs ls h
  exact lv_irem hx hb dg hne (k ad H locs ls (h.re fun a b => mj_rl_c mj_rv_i (mj_rl_t (mj_rl_t a))))
theorem ro_ladd (hK : mj_C d mc ms own mn cc nL K) {x y : Int64} (dg : decode cc pc = .ok (.ladd, 1)) (k : K u v (pc + 1) lv (.long (x + y) :: st) S) : K u v pc lv (.long y :: .long x :: st) S := by
  obtain ⟨p, l, e, R, s, m, args, below, meth, c, D, cA, ad0, L0, A, Q, hx, hb, hml, hown, hts, hU, hA, hmn, hR, rfl⟩ := hK
  intro ad H locs ls h
  exact lv_ladd hx hb dg (k ad H locs ls (h.re fun a b => mj_rl_c mj_rv_j (mj_rl_t (mj_rl_t a))))
theorem ro_lmul (hK : mj_C d mc ms own mn cc nL K) {x y : Int64} (dg : decode cc pc = .ok (.lmul, 1)) (k : K u v (pc + 1) lv (.long (x * y) :: st) S) : K u v pc lv (.long y :: .long x :: st) S := by
  obtain ⟨p, l, e, R, s, m, args, below, meth, c, D, cA, ad0, L0, A, Q, hx, hb, hml, hown, hts, hU, hA, hmn, hR, rfl⟩ := hK
  intro ad H locs ls h
  exact lv_lmul hx hb dg (k ad H locs ls (h.re fun a b => mj_rl_c mj_rv_j (mj_rl_t (mj_rl_t a))))
theorem ro_ldiv (hK : mj_C d mc ms own mn cc nL K) {x y : Int64} (dg : decode cc pc = .ok (.ldiv, 1)) (hne : ¬ y = 0) (k : K u v (pc + 1) lv (.long (x / y) :: st) S) : K u v pc lv (.long y :: .long x :: st) S := by
  obtain ⟨p, l, e, R, s, m, args, below, meth, c, D, cA, ad0, L0, A, Q, hx, hb, hml, hown, hts, hU, hA, hmn, hR, rfl⟩ := hK
  intro ad H locs ls h
  exact lv_ldiv hx hb dg hne (k ad H locs ls (h.re fun a b => mj_rl_c mj_rv_j (mj_rl_t (mj_rl_t a))))
theorem ro_lrem (hK : mj_C d mc ms own mn cc nL K) {x y : Int64} (dg : decode cc pc = .ok (.lrem, 1)) (hne : ¬ y = 0) (k : K u v (pc + 1) lv (.long (x - x / y * y) :: st) S) : K u v pc lv (.long y :: .long x :: st) S := by
  obtain ⟨p, l, e, R, s, m, args, below, meth, c, D, cA, ad0, L0, A, Q, hx, hb, hml, hown, hts, hU, hA, hmn, hR, rfl⟩ := hK
  intro ad H locs ls h
  exact lv_lrem hx hb dg hne (k ad H locs ls (h.re fun a b => mj_rl_c mj_rv_j (mj_rl_t (mj_rl_t a))))
theorem ro_lcmp (hK : mj_C d mc ms own mn cc nL K) {x y : Int64} (dg : decode cc pc = .ok (.lcmp, 1)) (k : K u v (pc + 1) lv (.int (lg_cmp x y) :: st) S) : K u v pc lv (.long y :: .long x :: st) S := by
  obtain ⟨p, l, e, R, s, m, args, below, meth, c, D, cA, ad0, L0, A, Q, hx, hb, hml, hown, hts, hU, hA, hmn, hR, rfl⟩ := hK
  intro ad H locs ls h
  exact W.lcmp hx hb dg (k ad H locs ls (h.re fun a b => mj_rl_c mj_rv_i (mj_rl_t (mj_rl_t a))))
theorem ro_i2l (hK : mj_C d mc ms own mn cc nL K) {x : Int32} (dg : decode cc pc = .ok (.i2l, 1)) (k : K u v (pc + 1) lv (.long x.toInt64 :: st) S) : K u v pc lv (.int x :: st) S := by
  obtain ⟨p, l, e, R, s, m, args, below, meth, c, D, cA, ad0, L0, A, Q, hx, hb, hml, hown, hts, hU, hA, hmn, hR, rfl⟩ := hK
  intro ad H locs ls h
  exact lv_i2l hx hb dg rfl (k ad H locs ls (h.re fun a b => mj_rl_c mj_rv_j (mj_rl_t a)))
theorem ro_l2i (hK : mj_C d mc ms own mn cc nL K) {x : Int64} (dg : decode cc pc = .ok (.l2i, 1)) (k : K u v (pc + 1) lv (.int x.toInt32 :: st) S) : K u v pc lv (.long x :: st) S := by
  obtain ⟨p, l, e, R, s, m, args, below, meth, c, D, cA, ad0, L0, A, Q, hx, hb, hml, hown, hts, hU, hA, hmn, hR, rfl⟩ := hK
  intro ad H locs ls h
  exact lv_l2i hx hb dg rfl (k ad H locs ls (h.re fun a b => mj_rl_c mj_rv_i (mj_rl_t a)))
theorem ro_i2b (hK : mj_C d mc ms own mn cc nL K) {x : Int32} (dg : decode cc pc = .ok (.i2b, 1)) (k : K u v (pc + 1) lv (.int x.toInt8.toInt32 :: st) S) : K u v pc lv (.int x :: st) S := by
  obtain ⟨p, l, e, R, s, m, args, below, meth, c, D, cA, ad0, L0, A, Q, hx, hb, hml, hown, hts, hU, hA, hmn, hR, rfl⟩ := hK
  intro ad H locs ls h
  exact lv_i2b hx hb dg rfl (k ad H locs ls (h.re fun a b => mj_rl_c mj_rv_i (mj_rl_t a)))
theorem ro_dup (hK : mj_C d mc ms own mn cc nL K) {x : Value} (dg : decode cc pc = .ok (.dup, 1)) (hc : x.category = 1) (k : K u v (pc + 1) lv (x :: x :: st) S) : K u v pc lv (x :: st) S := by
  obtain ⟨p, l, e, R, s, m, args, below, meth, c, D, cA, ad0, L0, A, Q, hx, hb, hml, hown, hts, hU, hA, hmn, hR, rfl⟩ := hK
  intro ad H locs ls h
  exact lv_dup hx hb dg (by rw [mj_cat]; exact hc) (k ad H locs ls (h.re fun a b => mj_rl_c (mj_rl_h a) a))
theorem ro_dup2 (hK : mj_C d mc ms own mn cc nL K) {x y : Value} (dg : decode cc pc = .ok (.dup2, 1)) (hc : x.category = 1) (hd : y.category = 1) (k : K u v (pc + 1) lv (x :: y :: x :: y :: st) S) : K u v pc lv (x :: y :: st) S := by
  obtain ⟨p, l, e, R, s, m, args, below, meth, c, D, cA, ad0, L0, A, Q, hx, hb, hml, hown, hts, hU, hA, hmn, hR, rfl⟩ := hK
  intro ad H locs ls h
  exact lv_dup2_11 hx hb dg (by rw [mj_cat]; exact hc) (by rw [mj_cat]; exact hd) (k ad H locs ls (h.re fun a b => mj_rl_c (mj_rl_h a) (mj_rl_c (mj_rl_h (mj_rl_t a)) a)))
theorem ro_pop (hK : mj_C d mc ms own mn cc nL K) {x : Value} (dg : decode cc pc = .ok (.pop, 1)) (hc : x.category = 1) (k : K u v (pc + 1) lv st S) : K u v pc lv (x :: st) S := by
  obtain ⟨p, l, e, R, s, m, args, below, meth, c, D, cA, ad0, L0, A, Q, hx, hb, hml, hown, hts, hU, hA, hmn, hR, rfl⟩ := hK
  intro ad H locs ls h
  exact lv_pop hx hb dg (by rw [mj_cat]; exact hc) (k ad H locs ls (h.re fun a b => mj_rl_t a))
theorem ro_if_eq (hK : mj_C d mc ms own mn cc nL K) {x : Int32} {off : Int} {tgt : Nat} (dg : decode cc pc = .ok (.ifCond .eq off, 3)) (ht : (pc : Int) + off = (tgt : Int)) (kt : x = 0 → K u v tgt lv st S) (kf : ¬ x = 0 → K u v (pc + 3) lv st S) : K u v pc lv (.int x :: st) S := by
  obtain ⟨p, l, e, R, s, m, args, below, meth, c, D, cA, ad0, L0, A, Q, hx, hb, hml, hown, hts, hU, hA, hmn, hR, rfl⟩ := hK
  intro ad H locs ls h
  exact lv_if_eq hx hb dg ht (fun z => kt z ad H locs ls (h.re fun a b => mj_rl_t a)) (fun z => kf z ad H locs ls (h.re fun a b => mj_rl_t a))
theorem ro_icmp_eq (hK : mj_C d mc ms own mn cc nL K) {x y : Int32} {off : Int} {tgt : Nat} (dg : decode cc pc = .ok (.if_icmp .eq off, 3)) (ht : (pc : Int) + off = (tgt : Int)) (kt : x = y → K u v tgt lv st S) (kf : ¬ x = y → K u v (pc + 3) lv st S) : K u v pc lv (.int y :: .int x :: st) S := by
  obtain ⟨p, l, e, R, s, m, args, below, meth, c, D, cA, ad0, L0, A, Q, hx, hb, hml, hown, hts, hU, hA, hmn, hR, rfl⟩ := hK
  intro ad H locs ls h
  exact lv_icmp_eq hx hb dg ht (fun z => kt z ad H locs ls (h.re fun a b => mj_rl_t (mj_rl_t a))) (fun z => kf z ad H locs ls (h.re fun a b => mj_rl_t (mj_rl_t a)))
theorem ro_if_ne (hK : mj_C d mc ms own mn cc nL K) {x : Int32} {off : Int} {tgt : Nat} (dg : decode cc pc = .ok (.ifCond .ne off, 3)) (ht : (pc : Int) + off = (tgt : Int)) (kt : ¬ x = 0 → K u v tgt lv st S) (kf : x = 0 → K u v (pc + 3) lv st S) : K u v pc lv (.int x :: st) S := by
  obtain ⟨p, l, e, R, s, m, args, below, meth, c, D, cA, ad0, L0, A, Q, hx, hb, hml, hown, hts, hU, hA, hmn, hR, rfl⟩ := hK
  intro ad H locs ls h
  exact lv_if_ne hx hb dg ht (fun z => kt z ad H locs ls (h.re fun a b => mj_rl_t a)) (fun z => kf z ad H locs ls (h.re fun a b => mj_rl_t a))
theorem ro_icmp_ne (hK : mj_C d mc ms own mn cc nL K) {x y : Int32} {off : Int} {tgt : Nat} (dg : decode cc pc = .ok (.if_icmp .ne off, 3)) (ht : (pc : Int) + off = (tgt : Int)) (kt : ¬ x = y → K u v tgt lv st S) (kf : x = y → K u v (pc + 3) lv st S) : K u v pc lv (.int y :: .int x :: st) S := by
  obtain ⟨p, l, e, R, s, m, args, below, meth, c, D, cA, ad0, L0, A, Q, hx, hb, hml, hown, hts, hU, hA, hmn, hR, rfl⟩ := hK
  intro ad H locs ls h
  exact lv_icmp_ne hx hb dg ht (fun z => kt z ad H locs ls (h.re fun a b => mj_rl_t (mj_rl_t a))) (fun z => kf z ad H locs ls (h.re fun a b => mj_rl_t (mj_rl_t a)))
theorem ro_if_lt (hK : mj_C d mc ms own mn cc nL K) {x : Int32} {off : Int} {tgt : Nat} (dg : decode cc pc = .ok (.ifCond .lt off, 3)) (ht : (pc : Int) + off = (tgt : Int)) (kt : x < 0 → K u v tgt lv st S) (kf : ¬ x < 0 → K u v (pc + 3) lv st S) : K u v pc lv (.int x :: st) S := by
  obtain ⟨p, l, e, R, s, m, args, below, meth, c, D, cA, ad0, L0, A, Q, hx, hb, hml, hown, hts, hU, hA, hmn, hR, rfl⟩ := hK
  intro ad H locs ls h
  exact lv_if_lt hx hb dg ht (fun z => kt z ad H locs ls (h.re fun a b => mj_rl_t a)) (fun z => kf z ad H locs ls (h.re fun a b => mj_rl_t a))
theorem ro_icmp_lt (hK : mj_C d mc ms own mn cc nL K) {x y : Int32} {off : Int} {tgt : Nat} (dg : decode cc pc = .ok (.if_icmp .lt off, 3)) (ht : (pc : Int) + off = (tgt : Int)) (kt : x < y → K u v tgt lv st S) (kf : ¬ x < y → K u v (pc + 3) lv st S) : K u v pc lv (.int y :: .int x :: st) S := by
  obtain ⟨p, l, e, R, s, m, args, below, meth, c, D, cA, ad0, L0, A, Q, hx, hb, hml, hown, hts, hU, hA, hmn, hR, rfl⟩ := hK
  intro ad H locs ls h
  exact lv_icmp_lt hx hb dg ht (fun z => kt z ad H locs ls (h.re fun a b => mj_rl_t (mj_rl_t a))) (fun z => kf z ad H locs ls (h.re fun a b => mj_rl_t (mj_rl_t a)))
theorem ro_if_ge (hK : mj_C d mc ms own mn cc nL K) {x : Int32} {off : Int} {tgt : Nat} (dg : decode cc pc = .ok (.ifCond .ge off, 3)) (ht : (pc : Int) + off = (tgt : Int)) (kt : 0 ≤ x → K u v tgt lv st S) (kf : ¬ 0 ≤ x → K u v (pc + 3) lv st S) : K u v pc lv (.int x :: st) S := by
  obtain ⟨p, l, e, R, s, m, args, below, meth, c, D, cA, ad0, L0, A, Q, hx, hb, hml, hown, hts, hU, hA, hmn, hR, rfl⟩ := hK
  intro ad H locs ls h
  exact lv_if_ge hx hb dg ht (fun z => kt z ad H locs ls (h.re fun a b => mj_rl_t a)) (fun z => kf z ad H locs ls (h.re fun a b => mj_rl_t a))
theorem ro_icmp_ge (hK : mj_C d mc ms own mn cc nL K) {x y : Int32} {off : Int} {tgt : Nat} (dg : decode cc pc = .ok (.if_icmp .ge off, 3)) (ht : (pc : Int) + off = (tgt : Int)) (kt : y ≤ x → K u v tgt lv st S) (kf : ¬ y ≤ x → K u v (pc + 3) lv st S) : K u v pc lv (.int y :: .int x :: st) S := by
  obtain ⟨p, l, e, R, s, m, args, below, meth, c, D, cA, ad0, L0, A, Q, hx, hb, hml, hown, hts, hU, hA, hmn, hR, rfl⟩ := hK
  intro ad H locs ls h
  exact lv_icmp_ge hx hb dg ht (fun z => kt z ad H locs ls (h.re fun a b => mj_rl_t (mj_rl_t a))) (fun z => kf z ad H locs ls (h.re fun a b => mj_rl_t (mj_rl_t a)))
theorem ro_if_gt (hK : mj_C d mc ms own mn cc nL K) {x : Int32} {off : Int} {tgt : Nat} (dg : decode cc pc = .ok (.ifCond .gt off, 3)) (ht : (pc : Int) + off = (tgt : Int)) (kt : 0 < x → K u v tgt lv st S) (kf : ¬ 0 < x → K u v (pc + 3) lv st S) : K u v pc lv (.int x :: st) S := by
  obtain ⟨p, l, e, R, s, m, args, below, meth, c, D, cA, ad0, L0, A, Q, hx, hb, hml, hown, hts, hU, hA, hmn, hR, rfl⟩ := hK
  intro ad H locs ls h
  exact lv_if_gt hx hb dg ht (fun z => kt z ad H locs ls (h.re fun a b => mj_rl_t a)) (fun z => kf z ad H locs ls (h.re fun a b => mj_rl_t a))
theorem ro_icmp_gt (hK : mj_C d mc ms own mn cc nL K) {x y : Int32} {off : Int} {tgt : Nat} (dg : decode cc pc = .ok (.if_icmp .gt off, 3)) (ht : (pc : Int) + off = (tgt : Int)) (kt : y < x → K u v tgt lv st S) (kf : ¬ y < x → K u v (pc + 3) lv st S) : K u v pc lv (.int y :: .int x :: st) S := by
  obtain ⟨p, l, e, R, s, m, args, below, meth, c, D, cA, ad0, L0, A, Q, hx, hb, hml, hown, hts, hU, hA, hmn, hR, rfl⟩ := hK
  intro ad H locs ls h
  exact lv_icmp_gt hx hb dg ht (fun z => kt z ad H locs ls (h.re fun a b => mj_rl_t (mj_rl_t a))) (fun z => kf z ad H locs ls (h.re fun a b => mj_rl_t (mj_rl_t a)))
theorem ro_if_le (hK : mj_C d mc ms own mn cc nL K) {x : Int32} {off : Int} {tgt : Nat} (dg : decode cc pc = .ok (.ifCond .le off, 3)) (ht : (pc : Int) + off = (tgt : Int)) (kt : x ≤ 0 → K u v tgt lv st S) (kf : ¬ x ≤ 0 → K u v (pc + 3) lv st S) : K u v pc lv (.int x :: st) S := by
  obtain ⟨p, l, e, R, s, m, args, below, meth, c, D, cA, ad0, L0, A, Q, hx, hb, hml, hown, hts, hU, hA, hmn, hR, rfl⟩ := hK
  intro ad H locs ls h
  exact lv_if_le hx hb dg ht (fun z => kt z ad H locs ls (h.re fun a b => mj_rl_t a)) (fun z => kf z ad H locs ls (h.re fun a b => mj_rl_t a))
theorem ro_icmp_le (hK : mj_C d mc ms own mn cc nL K) {x y : Int32} {off : Int} {tgt : Nat} (dg : decode cc pc = .ok (.if_icmp .le off, 3)) (ht : (pc : Int) + off = (tgt : Int)) (kt : x ≤ y → K u v tgt lv st S) (kf : ¬ x ≤ y → K u v (pc + 3) lv st S) : K u v pc lv (.int y :: .int x :: st) S := by
  obtain ⟨p, l, e, R, s, m, args, below, meth, c, D, cA, ad0, L0, A, Q, hx, hb, hml, hown, hts, hU, hA, hmn, hR, rfl⟩ := hK
  intro ad H locs ls h
  exact lv_icmp_le hx hb dg ht (fun z => kt z ad H locs ls (h.re fun a b => mj_rl_t (mj_rl_t a))) (fun z => kf z ad H locs ls (h.re fun a b => mj_rl_t (mj_rl_t a)))
theorem ro_goto (hK : mj_C d mc ms own mn cc nL K) {off : Int} {tgt : Nat} (dg : decode cc pc = .ok (.goto off, 3)) (ht : (pc : Int) + off = (tgt : Int)) (k : K u v tgt lv st S) : K u v pc lv st S := by
  obtain ⟨p, l, e, R, s, m, args, below, meth, c, D, cA, ad0, L0, A, Q, hx, hb, hml, hown, hts, hU, hA, hmn, hR, rfl⟩ := hK
  intro ad H locs ls h
  exact lv_goto hx hb dg ht (k ad H locs ls h)
theorem ro_tabOut (hK : mj_C d mc ms own mn cc nL K) {dflt lo hi : Int} {offs : Array Int} {len : Nat} {x : Int32} {tgt : Nat} (dg : decode cc pc = .ok (.tableswitch dflt lo hi offs, len)) (hh : x.toInt < lo ∨ hi < x.toInt) (ht : (pc : Int) + dflt = (tgt : Int)) (k : K u v tgt lv st S) : K u v pc lv (.int x :: st) S := by
  obtain ⟨p, l, e, R, s, m, args, below, meth, c, D, cA, ad0, L0, A, Q, hx, hb, hml, hown, hts, hU, hA, hmn, hR, rfl⟩ := hK
  intro ad H locs ls h
  exact lv_tableOut hx hb dg hh ht (k ad H locs ls (h.re fun a b => mj_rl_t a))
theorem ro_tabIn (hK : mj_C d mc ms own mn cc nL K) {dflt lo hi : Int} {offs : Array Int} {len : Nat} {x : Int32} {off : Int} {tgt : Nat} (dg : decode cc pc = .ok (.tableswitch dflt lo hi offs, len)) (h1 : ¬ x.toInt < lo) (h2 : ¬ hi < x.toInt) (ho : offs[(x.toInt - lo).toNat]? = some off) (ht : (pc : Int) + off = (tgt : Int)) (k : K u v tgt lv st S) : K u v pc lv (.int x :: st) S := by
  obtain ⟨p, l, e, R, s, m, args, below, meth, c, D, cA, ad0, L0, A, Q, hx, hb, hml, hown, hts, hU, hA, hmn, hR, rfl⟩ := hK
  intro ad H locs ls h
  exact lv_tableIn hx hb dg h1 h2 ho ht (k ad H locs ls (h.re fun a b => mj_rl_t a))
theorem ro_lookup (hK : mj_C d mc ms own mn cc nL K) {dflt : Int} {ps : Array (Int × Int)} {len : Nat} {x : Int32} {off : Int} {tgt : Nat} (dg : decode cc pc = .ok (.lookupswitch dflt ps, len)) (hp : (ps.toList.zip (ps.toList.drop 1)).all (fun (a, next) => a.1 < next.1) = true) (ho : Op.lookupswitch.offset ps.toList dflt x.toInt = off) (ht : (pc : Int) + off = (tgt : Int)) (k : K u v tgt lv st S) : K u v pc lv (.int x :: st) S := by
  obtain ⟨p, l, e, R, s, m, args, below, meth, c, D, cA, ad0, L0, A, Q, hx, hb, hml, hown, hts, hU, hA, hmn, hR, rfl⟩ := hK
  intro ad H locs ls h
  exact lv_lookup hx hb dg hp ho ht (k ad H locs ls (h.re fun a b => mj_rl_t a))
theorem ro_ifnull (hK : mj_C d mc ms own mn cc nL K) {x : Nat} {off : Int} (dg : decode cc pc = .ok (.ifnull off, 3)) (k : K u v (pc + 3) lv st S) : K u v pc lv (.ref x :: st) S := by
  obtain ⟨p, l, e, R, s, m, args, below, meth, c, D, cA, ad0, L0, A, Q, hx, hb, hml, hown, hts, hU, hA, hmn, hR, rfl⟩ := hK
  intro ad H locs ls h
  exact lv_ifnull hx hb dg (k ad H locs ls (h.re fun a b => mj_rl_t a))
theorem ro_ifnonnull (hK : mj_C d mc ms own mn cc nL K) {x : Nat} {off : Int} {tgt : Nat} (dg : decode cc pc = .ok (.ifnonnull off, 3)) (ht : (pc : Int) + off = (tgt : Int)) (k : K u v tgt lv st S) : K u v pc lv (.ref x :: st) S := by
  obtain ⟨p, l, e, R, s, m, args, below, meth, c, D, cA, ad0, L0, A, Q, hx, hb, hml, hown, hts, hU, hA, hmn, hR, rfl⟩ := hK
  intro ad H locs ls h
  exact lv_ifnonnull hx hb dg ht (k ad H locs ls (h.re fun a b => mj_rl_t a))
theorem ro_ifnullN (hK : mj_C d mc ms own mn cc nL K)  {off : Int} {tgt : Nat} (dg : decode cc pc = .ok (.ifnull off, 3)) (ht : (pc : Int) + off = (tgt : Int)) (k : K u v tgt lv st S) : K u v pc lv (.null :: st) S := by
  obtain ⟨p, l, e, R, s, m, args, below, meth, c, D, cA, ad0, L0, A, Q, hx, hb, hml, hown, hts, hU, hA, hmn, hR, rfl⟩ := hK
  intro ad H locs ls h
  exact lv_ifnullN hx hb dg ht (k ad H locs ls (h.re fun a b => mj_rl_t a))
theorem ro_ifnonnullN (hK : mj_C d mc ms own mn cc nL K)  {off : Int} (dg : decode cc pc = .ok (.ifnonnull off, 3)) (k : K u v (pc + 3) lv st S) : K u v pc lv (.null :: st) S := by
  obtain ⟨p, l, e, R, s, m, args, below, meth, c, D, cA, ad0, L0, A, Q, hx, hb, hml, hown, hts, hU, hA, hmn, hR, rfl⟩ := hK
  intro ad H locs ls h
  exact lv_ifnonnullN hx hb dg (k ad H locs ls (h.re fun a b => mj_rl_t a))
theorem ro_mmax (hK : mj_C d mc ms own mn cc nL K) {idx : Nat} {x y : Int32} (hw : mj_T own idx Lib.Math.max.name) (hd : 1 ≤ d) (hs : (st.map fun q => q.category).sum ≤ 8) (dg : decode cc pc = .ok (.invokestatic idx, 3)) (k : K u v (pc + 3) lv (.int (if x < y then y else x) :: st) S) : K u v pc lv (.int y :: .int x :: st) S := by
  obtain ⟨p, l, e, R, s, m, args, below, meth, c, D, cA, ad0, L0, A, Q, hx, hb, hml, hown, hts, hU, hA, hmn, hR, rfl⟩ := hK
  intro ad H locs ls h
  have hs2 : ((st.map (mj_v ad)).map fun q => q.category).sum ≤ 8 := by rw [mj_cats]; exact hs
  exact va_mmax hx hb (hml.trans h.hls.1.symm) hown (hts _ hw.1) (hts _ hw.2) (hts _ mH_max.2) (hts _ mH_max.1) (by omega) (by omega) (Nat.le_trans h.1.1 hR.2.2.1) (Nat.le_trans h.1.2 hR.2.2.2) dg (k ad H locs ls (h.re fun a b => mj_rl_c mj_rv_i (mj_rl_t (mj_rl_t a))))
theorem ro_mmin (hK : mj_C d mc ms own mn cc nL K) {idx : Nat} {x y : Int32} (hw : mj_T own idx Lib.Math.min.name) (hd : 1 ≤ d) (hs : (st.map fun q => q.category).sum ≤ 8) (dg : decode cc pc = .ok (.invokestatic idx, 3)) (k : K u v (pc + 3) lv (.int (if y < x then y else x) :: st) S) : K u v pc lv (.int y :: .int x :: st) S := by
  obtain ⟨p, l, e, R, s, m, args, below, meth, c, D, cA, ad0, L0, A, Q, hx, hb, hml, hown, hts, hU, hA, hmn, hR, rfl⟩ := hK
  intro ad H locs ls h
  have hs2 : ((st.map (mj_v ad)).map fun q => q.category).sum ≤ 8 := by rw [mj_cats]; exact hs
  exact va_mmin hx hb (hml.trans h.hls.1.symm) hown (hts _ hw.1) (hts _ hw.2) (hts _ mH_min.2) (hts _ mH_min.1) (by omega) (by omega) (Nat.le_trans h.1.1 hR.2.2.1) (Nat.le_trans h.1.2 hR.2.2.2) dg (k ad H locs ls (h.re fun a b => mj_rl_c mj_rv_i (mj_rl_t (mj_rl_t a))))
end MJR
end
section
/-! heap rows of the small machine -/
theorem mj_cin {ci : Nat} {C : String} {T : u_T} {N : Nat} (h : mj_cl[ci]? = some (C, T, N)) : ∀ w ∈ u_ws C T N, w ∈ mj_ws := by
  match ci, h with
  | 0, h => cases h; exact uA_in
  | 1, h => cases h; exact uV_in
  | 2, h => cases h; exact uR_in
  | 3, h => cases h; exact uS_in
  | 4, h => cases h; exact uC_in
  | 5, h => cases h; exact uM_in
  | n + 6, h => simp at h
theorem mj_cty {ci : Nat} {C : String} {T : u_T} {N : Nat} (h : mj_cl[ci]? = some (C, T, N)) : (∃ ty : Nat → FieldType, ∀ k, k < N → parseFieldDescriptor (T k).2.2.1 = some (ty k)) ∧ ∀ a, a < N → ∀ b, b < N → a ≠ b → (T a).2.1 ≠ (T b).2.1 := by
  match ci, h with
  | 0, h => cases h; exact ⟨⟨_, tA_ok⟩, nA_ok⟩
  | 1, h => cases h; exact ⟨⟨_, tV_ok⟩, nV_ok⟩
  | 2, h => cases h; exact ⟨⟨_, tR_ok⟩, nR_ok⟩
  | 3, h => cases h; exact ⟨⟨_, tS_ok⟩, nS_ok⟩
  | 4, h => cases h; exact ⟨⟨_, tC_ok⟩, nC_ok⟩
  | 5, h => cases h; exact ⟨⟨_, tM_ok⟩, nM_ok⟩
  | n + 6, h => simp at h
theorem mj_H.up {s : State} {nL mc ms : Nat} {D : va_G} {cA : Nat → ClassId} {ad0 : Nat → Nat} {L0 : List Nat} {A : Nat → Prop} {u v : Nat} {lv st st' : List Value} {S : mj_S} {ad : Nat → Nat} {H H1 : Heap} {locs locs1 : List Loc} {ls : Array Slot} {i : Nat} {x : mj_E} (h : mj_H s nL mc ms D cA ad0 L0 A u v lv st S ad H locs ls) (hx : mj_re S.1 x) (hst : mj_rl S.1 st') (hP : va_P D mj_cl (mj_w ad cA (mj_up S i x)) H1) (hD : va_D A (mj_w ad cA (mj_up S i x))) (hS : va_S A s.heap H1 locs1) : mj_H s nL mc ms D cA ad0 L0 A u v lv st' (mj_up S i x) ad H1 locs1 ls := by
  refine ⟨h.1, h.2.1, ⟨h.hcs.1, fun j hj => ?_, h.hcs.2.2⟩, hst, h.hrl, hP, hD, hS, h.hls⟩
  show mj_re S.1 (if j = i then x else S.2 j)
  by_cases q : j = i
  · rw [if_pos q]; exact hx
  · rw [if_neg q]; exact h.hcs.2.1 j hj
/-- a field that may be written: not final, of a type -/
def mj_G (own : String) (idx ci k : Nat) (ty : FieldType) : Prop := ∃ (C : String) (T : u_T) (N : Nat), mj_cl[ci]? = some (C, T, N) ∧ k < N ∧ Cond.fieldLink own idx (T k).1 (T k).2.1 (T k).2.2.1 ∈ mj_ws ∧ (T k).2.2.2 = false ∧ parseFieldDescriptor (T k).2.2.1 = some ty
/-- a final field, in its own constructor -/
def mj_GF (own : String) (idx ci k : Nat) (ty : FieldType) : Prop := ∃ (C : String) (T : u_T) (N : Nat), mj_cl[ci]? = some (C, T, N) ∧ k < N ∧ Cond.fieldLink own idx (T k).1 (T k).2.1 (T k).2.2.1 ∈ mj_ws ∧ (T k).2.2.2 = true ∧ (T k).1 = own ∧ parseFieldDescriptor (T k).2.2.1 = some ty
section MJH
variable {d mc ms nL : Nat} {own mn : String} {cc : ByteArray} {K : mj_KT} {u v pc : Nat} {lv st : List Value} {S : mj_S}
theorem ro_get (hK : mj_C d mc ms own mn cc nL K) {i ci k idx : Nat} {fs : List Value} {x : Value} (hf : mj_F own idx ci k) (hS : S.2 i = .inr (ci, fs)) (hv : fs[k]? = some x) (dg : decode cc pc = .ok (.getfield idx, 3)) (kk : K u v (pc + 3) lv (x :: st) S) : K u v pc lv (.ref i :: st) S := by
  obtain ⟨p, l, e, R, s, m, args, below, meth, c, D, cA, ad0, L0, A, Q, hx, hb, hml, hown, hts, hU, hA, hmn, hR, rfl⟩ := hK
  intro ad H locs ls h
  obtain ⟨C, T, N, hc, hk, hw⟩ := hf
  have hi : i ∈ S.1 := mj_rl_h h.hrs i rfl
  obtain ⟨q0, h1, h2⟩ := mj_w_at (ad := ad) (cA := cA) hi
  have h3 := h.hcs.2.1 i hi
  rw [hS] at h2 h3
  exact va_get (D := D) (v := mj_v ad x) hx hb hts (mj_cin hc) hown hU.1 h.hP q0 h2 hc k hk (hts _ hw) (fun _ z => z) (by rw [List.getElem?_map, hv]; rfl) dg (kk ad H locs ls (h.re fun a b => mj_rl_c (h3 x (List.mem_of_getElem? hv)) (mj_rl_t a)))
theorem ro_put (hK : mj_C d mc ms own mn cc nL K) {i ci k idx : Nat} {fs : List Value} {x : Value} {ty : FieldType} (hf : mj_G own idx ci k ty) (hS : S.2 i = .inr (ci, fs)) (hl : k < fs.length) (hn : ∀ ad, narrow ty (mj_v ad x) = mj_v ad x) (hfit : ∀ ad, fits ty (mj_v ad x) = true) (dg : decode cc pc = .ok (.putfield idx, 3)) (kk : K u v (pc + 3) lv st (mj_up S i (.inr (ci, fs.set k x)))) : K u v pc lv (x :: .ref i :: st) S := by
  obtain ⟨p, l, e, R, s, m, args, below, meth, c, D, cA, ad0, L0, A, Q, hx, hb, hml, hown, hts, hU, hA, hmn, hR, rfl⟩ := hK
  intro ad H locs ls h
  obtain ⟨C, T, N, hc, hk, hw, hfin, hp⟩ := hf
  obtain ⟨⟨ty0, hty⟩, hnm⟩ := mj_cty hc
  have hi : i ∈ S.1 := mj_rl_h (mj_rl_t h.hrs) i rfl
  obtain ⟨q0, h1, h2⟩ := mj_w_at (ad := ad) (cA := cA) hi
  have h3 := h.hcs.2.1 i hi
  rw [hS] at h2 h3
  refine va_put (D := D) hx hb hts (mj_cin hc) ty0 hty hnm hown hU.1 h.hP h.hD h.hS q0 h2 hc k hk (hts _ hw) (fun _ z => z) hfin hp (hn ad) (hfit ad) (by rw [List.length_map]; exact hl) dg (fun H1 locs1 hP hD hS1 => ?_)
  have e1 : (ad i, (Sum.inr (ci, (fs.map (mj_v ad)).set k (mj_v ad x)) : va_E)) = (ad i, mj_e ad cA (.inr (ci, fs.set k x))) := by
    show (ad i, (Sum.inr (ci, (fs.map (mj_v ad)).set k (mj_v ad x)) : va_E)) = (ad i, Sum.inr (ci, (fs.set k x).map (mj_v ad)))
    rw [List.map_set]
  rw [e1, mj_w_set h.hcs.1 h1] at hP hD
  exact kk ad H1 locs1 ls (h.up (fun w hw => (List.mem_or_eq_of_mem_set hw).elim (fun q => h3 w q) (fun q => by rw [q]; exact mj_rl_h h.hrs)) (mj_rl_t (mj_rl_t h.hrs)) hP hD hS1)
theorem ro_putF (hK : mj_C d mc ms own "<init>" cc nL K) {i ci k idx : Nat} {fs : List Value} {x : Value} {ty : FieldType} (hf : mj_GF own idx ci k ty) (hS : S.2 i = .inr (ci, fs)) (hl : k < fs.length) (hn : ∀ ad, narrow ty (mj_v ad x) = mj_v ad x) (hfit : ∀ ad, fits ty (mj_v ad x) = true) (dg : decode cc pc = .ok (.putfield idx, 3)) (kk : K u v (pc + 3) lv st (mj_up S i (.inr (ci, fs.set k x)))) : K u v pc lv (x :: .ref i :: st) S := by
  obtain ⟨p, l, e, R, s, m, args, below, meth, c, D, cA, ad0, L0, A, Q, hx, hb, hml, hown, hts, hU, hA, hmn, hR, rfl⟩ := hK
  intro ad H locs ls h
  obtain ⟨C, T, N, hc, hk, hw, hfin, hdecl, hp⟩ := hf
  obtain ⟨⟨ty0, hty⟩, hnm⟩ := mj_cty hc
  have hi : i ∈ S.1 := mj_rl_h (mj_rl_t h.hrs) i rfl
  obtain ⟨q0, h1, h2⟩ := mj_w_at (ad := ad) (cA := cA) hi
  have h3 := h.hcs.2.1 i hi
  rw [hS] at h2 h3
  refine va_putF (D := D) hx hb hts (mj_cin hc) ty0 hty hnm hown hU.1 h.hP h.hD h.hS q0 h2 hc k hk (hts _ hw) (fun _ z => z) hfin hmn hdecl hp (hn ad) (hfit ad) (by rw [List.length_map]; exact hl) dg (fun H1 locs1 hP hD hS1 => ?_)
  have e1 : (ad i, (Sum.inr (ci, (fs.map (mj_v ad)).set k (mj_v ad x)) : va_E)) = (ad i, mj_e ad cA (.inr (ci, fs.set k x))) := by
    show (ad i, (Sum.inr (ci, (fs.map (mj_v ad)).set k (mj_v ad x)) : va_E)) = (ad i, Sum.inr (ci, (fs.set k x).map (mj_v ad)))
    rw [List.map_set]
  rw [e1, mj_w_set h.hcs.1 h1] at hP hD
  exact kk ad H1 locs1 ls (h.up (fun w hw => (List.mem_or_eq_of_mem_set hw).elim (fun q => h3 w q) (fun q => by rw [q]; exact mj_rl_h h.hrs)) (mj_rl_t (mj_rl_t h.hrs)) hP hD hS1)
theorem ro_iald (hK : mj_C d mc ms own mn cc nL K) {i n : Nat} {f : Nat → Int32} {j : Int32} (hS : S.2 i = .inl (0, n, .inl f)) (hin : vp_in j n) (dg : decode cc pc = .ok (.iaload, 1)) (kk : K u v (pc + 1) lv (.int (f j.toNatClampNeg) :: st) S) : K u v pc lv (.int j :: .ref i :: st) S := by
  obtain ⟨p, l, e, R, s, m, args, below, meth, c, D, cA, ad0, L0, A, Q, hx, hb, hml, hown, hts, hU, hA, hmn, hR, rfl⟩ := hK
  intro ad H locs ls h
  have hi : i ∈ S.1 := mj_rl_h (mj_rl_t h.hrs) i rfl
  obtain ⟨q0, h1, h2⟩ := mj_w_at (ad := ad) (cA := cA) hi
  rw [hS] at h2
  exact va_iald (D := D) hx hb hU.1 h.hP q0 0 h2 rfl hin dg (kk ad H locs ls (h.re fun a b => mj_rl_c mj_rv_i (mj_rl_t (mj_rl_t a))))
theorem ro_bald (hK : mj_C d mc ms own mn cc nL K) {i n : Nat} {f : Nat → Int32} {j : Int32} (hS : S.2 i = .inl (1, n, .inl f)) (hin : vp_in j n) (dg : decode cc pc = .ok (.baload, 1)) (kk : K u v (pc + 1) lv (.int (f j.toNatClampNeg) :: st) S) : K u v pc lv (.int j :: .ref i :: st) S := by
  obtain ⟨p, l, e, R, s, m, args, below, meth, c, D, cA, ad0, L0, A, Q, hx, hb, hml, hown, hts, hU, hA, hmn, hR, rfl⟩ := hK
  intro ad H locs ls h
  have hi : i ∈ S.1 := mj_rl_h (mj_rl_t h.hrs) i rfl
  obtain ⟨q0, h1, h2⟩ := mj_w_at (ad := ad) (cA := cA) hi
  rw [hS] at h2
  exact va_bald (D := D) hx hb hU.1 h.hP q0 1 h2 rfl hin dg (kk ad H locs ls (h.re fun a b => mj_rl_c mj_rv_i (mj_rl_t (mj_rl_t a))))
theorem ro_iast (hK : mj_C d mc ms own mn cc nL K) {i n : Nat} {f : Nat → Int32} {j x : Int32} (hS : S.2 i = .inl (0, n, .inl f)) (hin : vp_in j n) (dg : decode cc pc = .ok (.iastore, 1)) (kk : K u v (pc + 1) lv st (mj_up S i (.inl (0, n, .inl (upd f j.toNatClampNeg x))))) : K u v pc lv (.int x :: .int j :: .ref i :: st) S := by
  obtain ⟨p, l, e, R, s, m, args, below, meth, c, D, cA, ad0, L0, A, Q, hx, hb, hml, hown, hts, hU, hA, hmn, hR, rfl⟩ := hK
  intro ad H locs ls h
  have hi : i ∈ S.1 := mj_rl_h (mj_rl_t (mj_rl_t h.hrs)) i rfl
  obtain ⟨q0, h1, h2⟩ := mj_w_at (ad := ad) (cA := cA) hi
  rw [hS] at h2
  refine va_iast (D := D) hx hb hU.1 h.hP h.hD h.hS q0 0 h2 rfl hin dg (fun H1 locs1 hP hD hS1 => ?_)
  have e1 : (ad i, (Sum.inl (cA 0, n, .inl (upd f j.toNatClampNeg x)) : va_E)) = (ad i, mj_e ad cA (.inl (0, n, .inl (upd f j.toNatClampNeg x)))) := rfl
  rw [e1, mj_w_set h.hcs.1 h1] at hP hD
  exact kk ad H1 locs1 ls (h.up (fun a b z => by cases z) (mj_rl_t (mj_rl_t (mj_rl_t h.hrs))) hP hD hS1)
theorem ro_bast (hK : mj_C d mc ms own mn cc nL K) {i n : Nat} {f : Nat → Int32} {j x : Int32} (hS : S.2 i = .inl (1, n, .inl f)) (hin : vp_in j n) (dg : decode cc pc = .ok (.bastore, 1)) (kk : K u v (pc + 1) lv st (mj_up S i (.inl (1, n, .inl (upd f j.toNatClampNeg (vp_nar .byte x)))))) : K u v pc lv (.int x :: .int j :: .ref i :: st) S := by
  obtain ⟨p, l, e, R, s, m, args, below, meth, c, D, cA, ad0, L0, A, Q, hx, hb, hml, hown, hts, hU, hA, hmn, hR, rfl⟩ := hK
  intro ad H locs ls h
  have hi : i ∈ S.1 := mj_rl_h (mj_rl_t (mj_rl_t h.hrs)) i rfl
  obtain ⟨q0, h1, h2⟩ := mj_w_at (ad := ad) (cA := cA) hi
  rw [hS] at h2
  refine va_bast (D := D) hx hb hU.1 h.hP h.hD h.hS q0 1 h2 rfl hin dg (fun H1 locs1 hP hD hS1 => ?_)
  have e1 : (ad i, (Sum.inl (cA 1, n, .inl (upd f j.toNatClampNeg (vp_nar .byte x))) : va_E)) = (ad i, mj_e ad cA (.inl (1, n, .inl (upd f j.toNatClampNeg (vp_nar .byte x))))) := rfl
  rw [e1, mj_w_set h.hcs.1 h1] at hP hD
  exact kk ad H1 locs1 ls (h.up (fun a b z => by cases z) (mj_rl_t (mj_rl_t (mj_rl_t h.hrs))) hP hD hS1)
theorem ro_alenI (hK : mj_C d mc ms own mn cc nL K) {i n : Nat} {f : Nat → Int32} (hS : S.2 i = .inl (0, n, .inl f)) (dg : decode cc pc = .ok (.arraylength, 1)) (kk : K u v (pc + 1) lv (.int (Int32.ofNat n) :: st) S) : K u v pc lv (.ref i :: st) S := by
  obtain ⟨p, l, e, R, s, m, args, below, meth, c, D, cA, ad0, L0, A, Q, hx, hb, hml, hown, hts, hU, hA, hmn, hR, rfl⟩ := hK
  intro ad H locs ls h
  have hi : i ∈ S.1 := mj_rl_h h.hrs i rfl
  obtain ⟨q0, h1, h2⟩ := mj_w_at (ad := ad) (cA := cA) hi
  rw [hS] at h2
  exact va_alen (D := D) (ty := .int) (x := (n, .inl f)) hx hb hU.1 h.hP q0 0 h2 rfl rfl dg (kk ad H locs ls (h.re fun a b => mj_rl_c mj_rv_i (mj_rl_t a)))
theorem ro_alenB (hK : mj_C d mc ms own mn cc nL K) {i n : Nat} {f : Nat → Int32} (hS : S.2 i = .inl (1, n, .inl f)) (dg : decode cc pc = .ok (.arraylength, 1)) (kk : K u v (pc + 1) lv (.int (Int32.ofNat n) :: st) S) : K u v pc lv (.ref i :: st) S := by
  obtain ⟨p, l, e, R, s, m, args, below, meth, c, D, cA, ad0, L0, A, Q, hx, hb, hml, hown, hts, hU, hA, hmn, hR, rfl⟩ := hK
  intro ad H locs ls h
  have hi : i ∈ S.1 := mj_rl_h h.hrs i rfl
  obtain ⟨q0, h1, h2⟩ := mj_w_at (ad := ad) (cA := cA) hi
  rw [hS] at h2
  exact va_alen (D := D) (ty := .byte) (x := (n, .inl f)) hx hb hU.1 h.hP q0 1 h2 rfl rfl dg (kk ad H locs ls (h.re fun a b => mj_rl_c mj_rv_i (mj_rl_t a)))
/-- an array of references (2: of int[], 3: of byte[], 4: of caves) -/
theorem ro_aald (hK : mj_C d mc ms own mn cc nL K) {i n t : Nat} {f : Nat → Option Nat} {j : Int32} (ht : t = 2 ∨ t = 3 ∨ t = 4) (hS : S.2 i = .inl (t, n, .inr (.inr (.inr (.inr f))))) (hin : vp_in j n) (dg : decode cc pc = .ok (.aaload, 1)) (kk : K u v (pc + 1) lv (va_rf (f j.toNatClampNeg) :: st) S) : K u v pc lv (.int j :: .ref i :: st) S := by
  obtain ⟨p, l, e, R, s, m, args, below, meth, c, D, cA, ad0, L0, A, Q, hx, hb, hml, hown, hts, hU, hA, hmn, hR, rfl⟩ := hK
  intro ad H locs ls h
  have hi : i ∈ S.1 := mj_rl_h (mj_rl_t h.hrs) i rfl
  obtain ⟨q0, h1, h2⟩ := mj_w_at (ad := ad) (cA := cA) hi
  have h3 := h.hcs.2.1 i hi
  rw [hS] at h2 h3
  have h2 : (mj_w ad cA S)[q0]? = some (ad i, .inl (cA t, n, .inr (.inr (.inr (.inr (fun q => (f q).map ad)))))) := h2
  have hlt : j.toNatClampNeg < n := Nat.not_le.mp fun q => hin (Or.inr q)
  have hrv : mj_rv S.1 (va_rf (f j.toNatClampNeg)) := by
    intro a ha
    cases hf : f j.toNatClampNeg with
    | none => rw [hf] at ha; cases ha
    | some b => rw [hf] at ha; cases ha; exact h3 n f rfl _ _ hf
  have k1 := kk ad H locs ls (h.re fun a b => mj_rl_c hrv (mj_rl_t (mj_rl_t a)))
  have e1 : mj_v ad (va_rf (f j.toNatClampNeg)) = va_rf ((f j.toNatClampNeg).map ad) := by cases f j.toNatClampNeg <;> rfl
  rw [List.map_cons, e1] at k1
  have go : ∀ (ty : FieldType), (mj_tys cA)[t]? = some (cA t, ty) → ty.isReference = true → W p l e R s m args below meth c H locs u v Q (F0 m pc ls (.int j :: .ref (ad i) :: st.map (mj_v ad))) := by
    intro ty hty hr
    exact W.aald (v := va_rf ((f j.toNatClampNeg).map ad)) (ty := ty) hx hb (h.hP q0 _ h2) ((hU.1.2 t _ hty).1 n (fun q => va_rf ((f q).map ad))) hr (fun q => by cases q) (by show ¬ (j < 0 ∨ (arrV _ _ _).slots.size ≤ _); rw [arrV_size]; exact hin) (by show (arrV _ _ _).slots[_]? = _; rw [arrV_read _ _ hlt]) rfl rfl dg k1
  rcases ht with rfl | rfl | rfl
  · exact go (.array .int) rfl rfl
  · exact go (.array .byte) rfl rfl
  · exact go (.object "LampCave$Cave") rfl rfl
/-- a cave into a place of an array of caves -/
theorem ro_aast (hK : mj_C d mc ms own mn cc nL K) {i n a : Nat} {f : Nat → Option Nat} {fs : List Value} {j : Int32} (hS : S.2 i = .inl (4, n, .inr (.inr (.inr (.inr f))))) (ha : S.2 a = .inr (1, fs)) (hin : vp_in j n) (dg : decode cc pc = .ok (.aastore, 1)) (kk : K u v (pc + 1) lv st (mj_up S i (.inl (4, n, .inr (.inr (.inr (.inr (va_up f j.toNatClampNeg (some a))))))))) : K u v pc lv (.ref a :: .int j :: .ref i :: st) S := by
  obtain ⟨p, l, e, R, s, m, args, below, meth, c, D, cA, ad0, L0, A, Q, hx, hb, hml, hown, hts, hU, hA, hmn, hR, rfl⟩ := hK
  intro ad H locs ls h
  have hi : i ∈ S.1 := mj_rl_h (mj_rl_t (mj_rl_t h.hrs)) i rfl
  have hia : a ∈ S.1 := mj_rl_h h.hrs a rfl
  obtain ⟨q0, h1, h2⟩ := mj_w_at (ad := ad) (cA := cA) hi
  obtain ⟨qk, g1, g2⟩ := mj_w_at (ad := ad) (cA := cA) hia
  have h3 := h.hcs.2.1 i hi
  rw [hS] at h2 h3
  rw [ha] at g2
  refine va_astq (D := D) (r := (RV_c, TV_c, 13)) hx hb hU.1 h.hP h.hD h.hS q0 4 qk 1 h2 rfl g2 rfl hin dg (fun H1 locs1 hP hD hS1 => ?_)
  have e1 : (ad i, (Sum.inl (cA 4, n, .inr (.inr (.inr (.inr (va_up (fun q => (f q).map ad) j.toNatClampNeg (some (ad a))))))) : va_E)) = (ad i, mj_e ad cA (.inl (4, n, .inr (.inr (.inr (.inr (va_up f j.toNatClampNeg (some a)))))))) := by
    show _ = (ad i, (Sum.inl (cA 4, n, .inr (.inr (.inr (.inr (fun q => (va_up f j.toNatClampNeg (some a) q).map ad))))) : va_E))
    have : (va_up (fun q => (f q).map ad) j.toNatClampNeg (some (ad a))) = (fun q => (va_up f j.toNatClampNeg (some a) q).map ad) := by
      funext q
      unfold va_up
      by_cases hq : q = j.toNatClampNeg
      · simp [hq]
      · simp [hq]
    rw [this]
  rw [e1, mj_w_set h.hcs.1 h1] at hP hD
  refine kk ad H1 locs1 ls (h.up ?_ (mj_rl_t (mj_rl_t (mj_rl_t h.hrs))) hP hD hS1)
  intro n2 f2 e2 j2 i2 hj2
  cases e2
  unfold va_up at hj2
  by_cases hq : j2 = j.toNatClampNeg
  · rw [if_pos hq] at hj2; cases hj2; exact hia
  · rw [if_neg hq] at hj2; exact h3 n f rfl j2 i2 hj2
/-- System.arraycopy of ints -/
theorem ro_copy (hK : mj_C d mc ms own mn cc nL K) {idx i0 i1 n0 n1 : Nat} {f g : Nat → Int32} {sp dp n : Int32} (hw : Cond.methodLink own idx arraycopyName ∈ mj_ws) (hd : 1 ≤ d) (hs : (st.map fun q => q.category).sum ≤ 8) (hS0 : S.2 i0 = .inl (0, n0, .inl f)) (hS1 : S.2 i1 = .inl (0, n1, .inl g)) (h1 : ¬ sp < 0) (h2 : ¬ dp < 0) (h3 : ¬ n < 0) (h4 : sp.toNatClampNeg + n.toNatClampNeg ≤ n0) (h5 : dp.toNatClampNeg + n.toNatClampNeg ≤ n1) (dg : decode cc pc = .ok (.invokestatic idx, 3)) (kk : K u v (pc + 3) lv st (mj_up S i1 (.inl (0, n1, .inl (va_cpy f g sp.toNatClampNeg dp.toNatClampNeg n.toNatClampNeg))))) : K u v pc lv (.int n :: .int dp :: .ref i1 :: .int sp :: .ref i0 :: st) S := by
  obtain ⟨p, l, e, R, s, m, args, below, meth, c, D, cA, ad0, L0, A, Q, hx, hb, hml, hown, hts, hU, hA, hmn, hR, rfl⟩ := hK
  intro ad H locs ls h
  have hi1 : i1 ∈ S.1 := mj_rl_h (mj_rl_t (mj_rl_t h.hrs)) i1 rfl
  have hi0 : i0 ∈ S.1 := mj_rl_h (mj_rl_t (mj_rl_t (mj_rl_t (mj_rl_t h.hrs)))) i0 rfl
  obtain ⟨q1, a1, a2⟩ := mj_w_at (ad := ad) (cA := cA) hi1
  obtain ⟨q0, b1, b2⟩ := mj_w_at (ad := ad) (cA := cA) hi0
  rw [hS1] at a2
  rw [hS0] at b2
  have hs2 : ((st.map (mj_v ad)).map fun q => q.category).sum ≤ 8 := by rw [mj_cats]; exact hs
  have hnw : nativeFrameWords "java/lang/System" "arraycopy" 5 = 7 := by decide +kernel
  refine va_copyi (D := D) (ty := .int) hx hb (hml.trans h.hls.1.symm) hown (hts _ hw) (hts _ mj_acw.1) (hts _ mj_acw.2.1) (hts _ mj_acw.2.2) hU.1 h.hP h.hD h.hS q0 q1 0 0 b2 a2 rfl rfl rfl h1 h2 h3 h4 h5 (fun _ _ => rfl) (by omega) (by rw [hnw]; omega) dg (fun H1 locs1 hP hD hS2 => ?_)
  have e1 : (ad i1, (Sum.inl (cA 0, n1, .inl (va_cpy f g sp.toNatClampNeg dp.toNatClampNeg n.toNatClampNeg)) : va_E)) = (ad i1, mj_e ad cA (.inl (0, n1, .inl (va_cpy f g sp.toNatClampNeg dp.toNatClampNeg n.toNatClampNeg)))) := rfl
  rw [e1, mj_w_set h.hcs.1 a1] at hP hD
  exact kk ad H1 locs1 ls (h.up (fun a b z => by cases z) (mj_rl_t (mj_rl_t (mj_rl_t (mj_rl_t (mj_rl_t h.hrs))))) hP hD hS2)
end MJH
end
section
/-! contracts of the small machine, calls and ends -/
def mj_rm (d mc ms : Nat) : Room := { frames := d, cells := mc, slots := ms, locals := 60 * d }
/-- the words of a method: its own code, and all of the tables that last -/
def mj_wy (y : MethodName) (b : ByteArray) (mL : Nat) (ret : Option FieldType) : List Cond := Cond.code y b mL ret :: mj_ws
def mj_Pre (D : va_G) (cA : Nat → ClassId) (ad : Nat → Nat) (S : mj_S) (sz : Nat) (U : State) : Prop := U.heap.size = sz ∧ va_P D mj_cl (mj_w ad cA S) U.heap ∧ mj_U D cA U ∧ va_D (fun _ => True) (mj_w ad cA S)
/-- an answer is a number, or none -/
def mj_num (r : Option Value) : Prop := r = none ∨ (∃ a, r = some (.int a)) ∨ ∃ a, r = some (.long a)
def mj_Q (D : va_G) (cA : Nat → ClassId) (ad : Nat → Nat) (S : mj_S) (A : Nat → Prop) (Fin : Option Value → mj_S → Prop) : Array Value → State → Outcome → State → Prop := fun _ st oc t =>
  (∃ (r : Option Value) (S' : mj_S) (ad' : Nat → Nat), oc = .returned r ∧ Fin r S' ∧ mj_num r ∧ (∀ i, (i ∈ S.1 ∨ i ∉ S'.1) → ad' i = ad i) ∧ (∀ i ∈ S.1, i ∈ S'.1) ∧ mj_cs S' ∧ va_P D mj_cl (mj_w ad' cA S') t.heap ∧ va_D A (mj_w ad' cA S')) ∧ va_F A st t
/-- y, called with these values in the state S, returns, and Fin holds of its answer and of the state then -/
def mj_MC (d mc ms : Nat) (y : MethodName) (b : ByteArray) (mL : Nat) (ret : Option FieldType) (as : List Value) (S : mj_S) (Fin : Option Value → mj_S → Prop) : Prop :=
  ∀ (l : Launch) (D : va_G) (cA : Nat → ClassId) (ad : Nat → Nat) (sz : Nat), mj_cs S → mj_rl S.1 as → Met l y (mj_wy y b mL ret) (mj_rm d mc ms) (va_Pc (as.map (mj_v ad)) (mj_Pre D cA ad S sz)) (mj_Q D cA ad S (va_A (mj_w ad cA S) sz) Fin) mc ms (va_A (mj_w ad cA S) sz)
/-- a method's end, over K -/
def mj_R (cc : ByteArray) (ret : Option FieldType) (Fin : Option Value → mj_S → Prop) (K : mj_KT) : Prop :=
  (∀ (u v pc : Nat) (lv : List Value) (x : Int32) (ty : FieldType) (S : mj_S), ret = some ty → narrow ty (.int x) = .int x → decode cc pc = .ok (.ireturn, 1) → Fin (some (.int x)) S → K u v pc lv [.int x] S) ∧
  (∀ (u v pc : Nat) (lv : List Value) (x : Int64) (S : mj_S), ret = some .long → decode cc pc = .ok (.lreturn, 1) → Fin (some (.long x)) S → K u v pc lv [.long x] S) ∧
  (∀ (u v pc : Nat) (lv : List Value) (S : mj_S), ret = none → decode cc pc = .ok (.return_, 1) → Fin none S → K u v pc lv [] S)
theorem mj_U.moved {D : va_G} {cA : Nat → ClassId} {s U : State} (hW : s.WarmedH U.vm) (h : mj_U D cA s) : mj_U D cA U := ⟨va_K.moved hW.alike h.1, fun q hq => va_Nw.warmM hW (h.2.1 q hq), h.2.2.1.moved hW.alike, h.2.2.2.1.moved hW.alike, h.2.2.2.2.moved hW.alike⟩
theorem mj_U.same {D : va_G} {cA : Nat → ClassId} {s U : State} (e : s.vm = U.vm) (h : mj_U D cA s) : mj_U D cA U := ⟨va_K.moved (by rw [e]; exact Vm.Alike.refl _) h.1, fun q hq => va_Nw.same rfl e (h.2.1 q hq), h.2.2.1.moved (by rw [e]; exact Vm.Alike.refl _), h.2.2.2.1.moved (by rw [e]; exact Vm.Alike.refl _), h.2.2.2.2.moved (by rw [e]; exact Vm.Alike.refl _)⟩
theorem mj_blind {D : va_G} {cA : Nat → ClassId} {ad : Nat → Nat} {S : mj_S} {sz : Nat} {as : List Value} : FrameBlind (va_Pc as (mj_Pre D cA ad S sz)) := by
  intro a U g mk h
  obtain ⟨h1, h2, h3, h4, h5⟩ := h
  exact ⟨h1, h2, h3, mj_U.same (U := U.calling g mk a) rfl h4, h5⟩
theorem mj_good {y y2 : MethodName} {b b2 : ByteArray} {mL mL2 : Nat} {ret ret2 : Option FieldType} (h : Cond.code y2 b2 mL2 ret2 ∈ mj_ws) : GoodIn mj_ws (mj_wy y2 b2 mL2 ret2) := by
  intro w hw
  rcases List.mem_cons.mp hw with rfl | hw
  · exact ⟨h, good_of_word (mj_of h).2⟩
  · exact ⟨hw, good_of_word (mj_of hw).2⟩
/-- locals at the entry -/
def mj_in2 (as : List Value) : List Value := match as with
  | [] => []
  | .long a :: t => .long a :: .retAddr 0 :: mj_in2 t
  | x :: t => x :: mj_in2 t
theorem mj_lv_args {ad : Nat → Nat} : ∀ (as : List Value) (k i : Nat) (x : Value), (∀ w ∈ as, ∀ a, w ≠ .double a) → (∀ w ∈ as, mj_u w = false) → (mj_in2 as)[i]? = some x → mj_u x = false → (k + i, mj_v ad x) ∈ lv_args k (as.map (mj_v ad))
  | [], k, i, x, _, _, h, _ => by simp [mj_in2] at h
  | .long a :: t, k, i, x, hd, hz, h, hu => by
    show (k + i, mj_v ad x) ∈ (k, Value.long a) :: lv_args (k + 2) (t.map (mj_v ad))
    match i, h with
    | 0, h => cases h; exact List.mem_cons_self
    | 1, h => cases h; cases hu
    | i + 2, h =>
      have h : (mj_in2 t)[i]? = some x := h
      have := mj_lv_args (ad := ad) t (k + 2) i x (fun w hw => hd w (List.mem_cons_of_mem _ hw)) (fun w hw => hz w (List.mem_cons_of_mem _ hw)) h hu
      rw [show k + (i + 2) = k + 2 + i by omega]
      exact List.mem_cons_of_mem _ this
  | .int a :: t, k, i, x, hd, hz, h, hu => by
    show (k + i, mj_v ad x) ∈ (k, Value.int a) :: lv_args (k + 1) (t.map (mj_v ad))
    match i, h with
    | 0, h => cases h; exact List.mem_cons_self
    | i + 1, h =>
      have := mj_lv_args (ad := ad) t (k + 1) i x (fun w hw => hd w (List.mem_cons_of_mem _ hw)) (fun w hw => hz w (List.mem_cons_of_mem _ hw)) h hu
      rw [show k + (i + 1) = k + 1 + i by omega]
      exact List.mem_cons_of_mem _ this
  | .ref a :: t, k, i, x, hd, hz, h, hu => by
    show (k + i, mj_v ad x) ∈ (k, Value.ref (ad a)) :: lv_args (k + 1) (t.map (mj_v ad))
    match i, h with
    | 0, h => cases h; exact List.mem_cons_self
    | i + 1, h =>
      have := mj_lv_args (ad := ad) t (k + 1) i x (fun w hw => hd w (List.mem_cons_of_mem _ hw)) (fun w hw => hz w (List.mem_cons_of_mem _ hw)) h hu
      rw [show k + (i + 1) = k + 1 + i by omega]
      exact List.mem_cons_of_mem _ this
  | .null :: t, k, i, x, hd, hz, h, hu => by
    show (k + i, mj_v ad x) ∈ (k, Value.null) :: lv_args (k + 1) (t.map (mj_v ad))
    match i, h with
    | 0, h => cases h; exact List.mem_cons_self
    | i + 1, h =>
      have := mj_lv_args (ad := ad) t (k + 1) i x (fun w hw => hd w (List.mem_cons_of_mem _ hw)) (fun w hw => hz w (List.mem_cons_of_mem _ hw)) h hu
      rw [show k + (i + 1) = k + 1 + i by omega]
      exact List.mem_cons_of_mem _ this
  | .float a :: t, k, i, x, hd, hz, h, hu => by
    show (k + i, mj_v ad x) ∈ (k, Value.ref (ad 999)) :: lv_args (k + 1) (t.map (mj_v ad))
    match i, h with
    | 0, h => cases h; exact List.mem_cons_self
    | i + 1, h =>
      have := mj_lv_args (ad := ad) t (k + 1) i x (fun w hw => hd w (List.mem_cons_of_mem _ hw)) (fun w hw => hz w (List.mem_cons_of_mem _ hw)) h hu
      rw [show k + (i + 1) = k + 1 + i by omega]
      exact List.mem_cons_of_mem _ this
  | .double a :: t, k, i, x, hd, hz, h, hu => absurd rfl (hd _ List.mem_cons_self a)
  | .retAddr a :: t, k, i, x, hd, hz, h, hu => absurd (hz _ List.mem_cons_self) (fun q => by cases q)
theorem mj_in2_len {ad : Nat → Nat} : ∀ (as : List Value), (∀ w ∈ as, ∀ a, w ≠ .double a) → (lg_sl (as.map (mj_v ad))).length = (mj_in2 as).length
  | [], _ => rfl
  | .long a :: t, hd => by
    have ih := mj_in2_len (ad := ad) t (fun w hw => hd w (List.mem_cons_of_mem _ hw))
    have e : lg_sl ((Value.long a :: t).map (mj_v ad)) = [.val (.long a), .second] ++ lg_sl (t.map (mj_v ad)) := by
      show lg_sl (Value.long a :: t.map (mj_v ad)) = _
      simp [lg_sl, Value.category]
    rw [e, List.length_append, ih]
    simp only [mj_in2, List.length_cons, List.length_nil]
    omega
  | .int a :: t, hd => by
    have ih := mj_in2_len (ad := ad) t (fun w hw => hd w (List.mem_cons_of_mem _ hw))
    have e : lg_sl ((Value.int a :: t).map (mj_v ad)) = [.val (.int a)] ++ lg_sl (t.map (mj_v ad)) := by
      show lg_sl (Value.int a :: t.map (mj_v ad)) = _
      simp [lg_sl, Value.category]
    rw [e, List.length_append, ih]
    simp only [mj_in2, List.length_cons, List.length_nil]
    omega
  | .ref a :: t, hd => by
    have ih := mj_in2_len (ad := ad) t (fun w hw => hd w (List.mem_cons_of_mem _ hw))
    have e : lg_sl ((Value.ref a :: t).map (mj_v ad)) = [.val (.ref (ad a))] ++ lg_sl (t.map (mj_v ad)) := by
      show lg_sl (Value.ref (ad a) :: t.map (mj_v ad)) = _
      simp [lg_sl, Value.category]
    rw [e, List.length_append, ih]
    simp only [mj_in2, List.length_cons, List.length_nil]
    omega
  | .null :: t, hd => by
    have ih := mj_in2_len (ad := ad) t (fun w hw => hd w (List.mem_cons_of_mem _ hw))
    have e : lg_sl ((Value.null :: t).map (mj_v ad)) = [.val .null] ++ lg_sl (t.map (mj_v ad)) := by
      show lg_sl (Value.null :: t.map (mj_v ad)) = _
      simp [lg_sl, Value.category]
    rw [e, List.length_append, ih]
    simp only [mj_in2, List.length_cons, List.length_nil]
    omega
  | .float a :: t, hd => by
    have ih := mj_in2_len (ad := ad) t (fun w hw => hd w (List.mem_cons_of_mem _ hw))
    have e : lg_sl ((Value.float a :: t).map (mj_v ad)) = [.val (.ref (ad 999))] ++ lg_sl (t.map (mj_v ad)) := by
      show lg_sl (Value.ref (ad 999) :: t.map (mj_v ad)) = _
      simp [lg_sl, Value.category]
    rw [e, List.length_append, ih]
    simp only [mj_in2, List.length_cons, List.length_nil]
    omega
  | .retAddr a :: t, hd => by
    have ih := mj_in2_len (ad := ad) t (fun w hw => hd w (List.mem_cons_of_mem _ hw))
    have e : lg_sl ((Value.retAddr a :: t).map (mj_v ad)) = [.val (.retAddr a)] ++ lg_sl (t.map (mj_v ad)) := by
      show lg_sl (Value.retAddr a :: t.map (mj_v ad)) = _
      simp [lg_sl, Value.category]
    rw [e, List.length_append, ih]
    simp only [mj_in2, List.length_cons, List.length_nil]
    omega
  | .double a :: t, hd => absurd rfl (hd _ List.mem_cons_self a)
theorem mj_in2_rl {L : List Nat} : ∀ (as : List Value), mj_rl L as → mj_rl L (mj_in2 as)
  | [], h => h
  | .long a :: t, h => mj_rl_c mj_rv_j (mj_rl_c mj_rv_u (mj_in2_rl t (mj_rl_t h)))
  | .int a :: t, h => mj_rl_c mj_rv_i (mj_in2_rl t (mj_rl_t h))
  | .ref a :: t, h => mj_rl_c (mj_rl_h h) (mj_in2_rl t (mj_rl_t h))
  | .null :: t, h => mj_rl_c (mj_rl_h h) (mj_in2_rl t (mj_rl_t h))
  | .float a :: t, h => mj_rl_c (mj_rl_h h) (mj_in2_rl t (mj_rl_t h))
  | .double a :: t, h => mj_rl_c (mj_rl_h h) (mj_in2_rl t (mj_rl_t h))
  | .retAddr a :: t, h => mj_rl_c (mj_rl_h h) (mj_in2_rl t (mj_rl_t h))
/-- what stands in as: ints, longs, references -/
def mj_ok (as : List Value) : Bool := as.all (fun w => match w with | .int _ => true | .long _ => true | .ref _ => true | _ => false)
theorem mj_ok_spec {as : List Value} (h : mj_ok as = true) : (∀ w ∈ as, ∀ a, w ≠ .double a) ∧ ∀ w ∈ as, mj_u w = false := by
  have h1 := List.all_eq_true.mp h
  constructor
  · intro w hw a e
    have := h1 w hw
    rw [e] at this
    cases this
  · intro w hw
    have := h1 w hw
    cases w <;> first | rfl | cases this
theorem mj_mc {d mc ms : Nat} {y : MethodName} {b : ByteArray} {mL n : Nat} {ret : Option FieldType} {as lv : List Value} {S : mj_S} {Fin : Option Value → mj_S → Prop} (hM : mj_M y b mL n ret) (hlv : mj_in2 as ++ List.replicate (mL - (mj_in2 as).length) (.retAddr 0) = lv) (hok : mj_ok as = true) (hlen : (mj_in2 as).length ≤ mL)
    (h : ∀ K, mj_C d mc ms y.cls y.name b mL K → mj_R b ret Fin K → K 0 0 0 lv [] S) : mj_MC d mc ms y b mL ret as S Fin := by
  intro l D cA ad sz hcs hcl
  refine Met.ofW (cc := b) (maxL := mL) (ret := ret) hM.2.2.2.1 rfl ?_
  intro p e s m args below meth c s₁ B hml hv
  obtain ⟨rfl, hsz, hP, hU, hD0⟩ := hv
  have hx := B.exec
  have hb := B.bytes
  have hr := B.returns
  have hts0 := atoms_spec (ws := mj_wy y b mL ret) B.pre
  have hts : ∀ w ∈ mj_ws, w.before (as.map (mj_v ad)).toArray s = true := fun w hw => hts0 w (List.mem_cons_of_mem _ hw)
  have hown : s.vm.findClass y.cls = some m.cls := findClass_of_methodNamed B.named
  have hlocks := B.notSynchronized
  have hin : meth.name = y.name := (name_of_methodNamed B.named B.method).1
  subst hsz
  have hD := hD0.self (sz := s.heap.size)
  have hA : ∀ q : Nat, s.heap.size ≤ q → va_A (mj_w ad cA S) s.heap.size q := fun q h => Or.inr h
  have hl := lv_entry (as.map (mj_v ad)) (n := mL) (by rw [mj_in2_len as (mj_ok_spec hok).1]; exact hlen)
  rw [lg_entry_eq]
  generalize (lg_sl (as.map (mj_v ad)) ++ List.replicate (mL - (lg_sl (as.map (mj_v ad))).length) Slot.unset).toArray = ls at hl ⊢
  have key := h (mj_K p l e (headSpec (mj_wy y b mL ret) (mj_rm d mc ms)).room s m (as.map (mj_v ad)).toArray below meth c mL mc ms D cA ad S.1 (va_A (mj_w ad cA S) s.heap.size) (MQ below (mj_Q D cA ad S (va_A (mj_w ad cA S) s.heap.size) Fin) (as.map (mj_v ad)).toArray s mc ms (va_A (mj_w ad cA S) s.heap.size)))
    ⟨p, l, e, _, s, m, _, below, meth, c, D, cA, ad, S.1, _, _, hx, hb, hml, hown, hts, hU, hA, hin, ⟨Nat.le_refl _, Nat.le_refl _, Nat.le_refl _, Nat.le_refl _⟩, rfl⟩
    ⟨fun u v pc lv x ty S' e1 hn dg hf => by
      intro ad' H locs ls hh
      refine W.widen (k := mc) (n := ms) hh.1.1 hh.1.2 ?_
      exact W.zret hx hb (hr.trans e1) hn (fun t ht hW => ⟨⟨some (.int x), S', ad', rfl, hf, Or.inr (Or.inl ⟨x, rfl⟩), hh.2.1.1, hh.2.1.2, hh.hcs, by rw [ht]; exact hh.hP, hh.hD⟩, hh.hS.F ht⟩) hh.hS.2.2 dg,
     fun u v pc lv x S' e1 dg hf => by
      intro ad' H locs ls hh
      refine W.widen (k := mc) (n := ms) hh.1.1 hh.1.2 ?_
      exact W.lret hx hb (hr.trans e1) (fun t ht hW => ⟨⟨some (.long x), S', ad', rfl, hf, Or.inr (Or.inr ⟨x, rfl⟩), hh.2.1.1, hh.2.1.2, hh.hcs, by rw [ht]; exact hh.hP, hh.hD⟩, hh.hS.F ht⟩) hh.hS.2.2 dg,
     fun u v pc lv S' e1 dg hf => by
      intro ad' H locs ls hh
      refine W.widen (k := mc) (n := ms) hh.1.1 hh.1.2 ?_
      exact W.vret hx hb (hr.trans e1) (fun t ht hW => ⟨⟨none, S', ad', rfl, hf, Or.inl rfl, hh.2.1.1, hh.2.1.2, hh.hcs, by rw [ht]; exact hh.hP, hh.hD⟩, hh.hS.F ht⟩) hh.hS.2.2 dg⟩
  refine key ad s.heap [] ls ⟨⟨Nat.zero_le _, Nat.zero_le _⟩, ⟨fun _ _ => rfl, fun _ h => h⟩, hcs, mj_rl_n, ?_, hP, hD, va_S.rf, hl.1, hl.2.1, ?_⟩
  · rw [← hlv]
    refine mj_rl_app (mj_in2_rl as hcl) (fun w hw => ?_)
    rw [(List.mem_replicate.mp hw).2]
    exact mj_rv_u
  · intro i x hi hu
    rw [← hlv] at hi
    by_cases hq : i < (mj_in2 as).length
    · rw [List.getElem?_append_left hq] at hi
      have := hl.2.2 _ (mj_lv_args (ad := ad) as 0 i x (mj_ok_spec hok).1 (mj_ok_spec hok).2 hi hu)
      simpa using this
    · rw [List.getElem?_append_right (by omega)] at hi
      have := (List.mem_replicate.mp (List.mem_of_getElem? hi)).2
      rw [this] at hu
      cases hu
theorem mj_v_agree {ad ad' : Nat → Nat} {L : List Nat} (ha : ∀ i ∈ L, ad' i = ad i) (h9 : ad' 999 = ad 999) {x : Value} (hx : mj_rv L x) : mj_v ad' x = mj_v ad x := by
  cases x with
  | ref i => show Value.ref (ad' i) = Value.ref (ad i); rw [ha i (hx i rfl)]
  | float a => show Value.ref (ad' 999) = Value.ref (ad 999); rw [h9]
  | _ => rfl
section MJF
variable {p : Program} {l : Launch} {e : Env} {R : Room} {s : State} {m : MethodId} {args : Array Value} {below : List Frame} {meth : Method} {c : Code} {nL mc ms : Nat} {D : va_G} {cA : Nat → ClassId} {ad0 : Nat → Nat} {L0 : List Nat} {A : Nat → Prop} {Q : State → Prop} {u v pc : Nat} {lv st st0 : List Value} {S : mj_S} {ad : Nat → Nat} {H : Heap} {locs : List Loc} {ls : Array Slot}
theorem mj_fin {mc2 ms2 : Nat} {Fin : Option Value → mj_S → Prop} {a : Array Value} {sv : List Value} (hA : ∀ q, s.heap.size ≤ q → A q) (h : mj_H s nL mc ms D cA ad0 L0 A u v lv sv S ad H locs ls) (hst : mj_rl S.1 st) (hf : u + mc2 ≤ mc ∧ v + ms2 ≤ ms)
    (run : va_Run p l e R s m args below meth c H locs u v mc2 ms2 (F0 m pc ls st0) (st.map (mj_v ad)) (mj_Q D cA ad S (va_A (mj_w ad cA S) H.size) Fin a) (va_A (mj_w ad cA S) H.size))
    (kk : ∀ r S', Fin r S' → mj_K p l e R s m args below meth c nL mc ms D cA ad0 L0 A Q (u + mc2) (v + ms2) (pc + 3) lv (r.toList ++ st) S') : W p l e R s m args below meth c H locs u v Q (F0 m pc ls st0) := by
  intro T hT X
  obtain ⟨rr, st₀, t, T', L, h0, X', hL, e1, e2, ⟨⟨r0, S', ad', hv, hF, hnum, ha1, ha2, hcs', hP', hD'⟩, hz, hk⟩, stp⟩ := run T hT X
  cases hv
  rw [h0] at hz hk
  have hAA : ∀ q, va_A (mj_w ad cA S) H.size q → A q := by
    intro q hq
    rcases hq with ⟨k, x, hk2⟩ | hq
    · exact h.hD.2 k (q, x) hk2
    · exact hA q (Nat.le_trans h.hS.1 hq)
  have h9 : ad' 999 = ad 999 := ha1 999 (Or.inr hcs'.2.2)
  have hag : ∀ i ∈ S.1, ad' i = ad i := fun i hi => ha1 i (Or.inl hi)
  have hrl : mj_rl S'.1 (rr.toList ++ st) := by
    refine mj_rl_app (fun w hw => ?_) (mj_rl_mono hst ha2)
    rcases hnum with rfl | ⟨z, rfl⟩ | ⟨z, rfl⟩
    · cases hw
    · rw [show w = .int z by simpa using hw]; exact mj_rv_i
    · rw [show w = .long z by simpa using hw]; exact mj_rv_j
  have hmap : (rr.toList ++ st).map (mj_v ad') = rr.toList ++ st.map (mj_v ad) := by
    rw [List.map_append]
    congr 1
    · rcases hnum with rfl | ⟨z, rfl⟩ | ⟨z, rfl⟩ <;> rfl
    · exact List.map_congr_left fun w hw => mj_v_agree hag h9 (hst w hw)
  have k1 := kk rr S' hF ad' T'.heap (locs ++ L) ls ⟨hf, ⟨fun i hi => ?_, fun i hi => ha2 i (h.2.1.2 i hi)⟩, hcs', hrl, mj_rl_mono h.hrl ha2, by rw [e1]; exact hP', hD'.weaken (fun k q _ hq => hAA q.1 hq), ⟨Nat.le_trans h.hS.1 (by rw [e1]; exact hz), fun q h1 h2 => by rw [e1, hk q (Nat.lt_of_lt_of_le h1 h.hS.1) (fun z => h2 (hAA q z))]; exact h.hS.2.1 q h1 h2, fun q hq => by
      rcases List.mem_append.mp hq with hq | hq
      · exact h.hS.2.2 q hq
      · exact hAA _ (hL q hq)⟩, h.hls.1, h.hls.2.1, fun i x hi hu => by rw [mj_v_agree hag h9 (mj_rl_at h.hrl hi)]; exact h.hls.2.2 i x hi hu⟩ T' rfl X'
  · obtain ⟨t2, a1, b1⟩ := k1
    rw [hmap] at a1
    exact ⟨t2, stp t2 a1, b1⟩
  · rcases hi with hi | hi
    · rw [hag i (h.2.1.2 i hi)]; exact h.2.1.1 i (Or.inl hi)
    · have hi2 : i ∉ S.1 := fun z => hi (ha2 i z)
      rw [ha1 i (Or.inr hi)]; exact h.2.1.1 i (Or.inr hi2)
end MJF
section MJV
variable {d mc ms nL : Nat} {own mn : String} {cc : ByteArray} {K : mj_KT} {u v pc : Nat} {lv st as : List Value} {S : mj_S} {mc2 ms2 idx mL n : Nat} {y : MethodName} {b : ByteArray} {ret : Option FieldType} {Fin : Option Value → mj_S → Prop}
theorem ro_callV (hK : mj_C (d + 1) mc ms own mn cc nL K) {i ci : Nat} {fs : List Value} {T : u_T} {N : Nat} (hM : mj_M y b mL n ret) (hV : mj_V own idx y) (hC : mj_MC d mc2 ms2 y b mL ret (.ref i :: as) S Fin) (hcl : mj_cl[ci]? = some (y.cls, T, N)) (hi : S.2 i = .inr (ci, fs)) (hn : as.length = n) (hs : (st.map fun q => q.category).sum ≤ 8) (hf : u + mc2 ≤ mc ∧ v + ms2 ≤ ms) (dg : decode cc pc = .ok (.invokevirtual idx, 3)) {sv : List Value} (hsv : as.reverse ++ .ref i :: st = sv)
    (kk : ∀ r S', Fin r S' → K (u + mc2) (v + ms2) (pc + 3) lv (r.toList ++ st) S') : K u v pc lv sv S := by
  subst hsv
  obtain ⟨p, l, e, R, s, m, args, below, meth, c, D, cA, ad0, L0, A, Q, hx, hb, hml, hown, hts, hU, hA, hmn, hR, rfl⟩ := hK
  intro ad H locs ls h
  have hst : mj_rl S.1 st := fun w hw => h.hrs w (List.mem_append_right _ (List.mem_cons_of_mem _ hw))
  have hii : i ∈ S.1 := h.hrs (.ref i) (List.mem_append_right _ List.mem_cons_self) i rfl
  obtain ⟨q0, h1, h2⟩ := mj_w_at (ad := ad) (cA := cA) hii
  rw [hi] at h2
  have hs2 : ((st.map (mj_v ad)).map fun q => q.category).sum ≤ 8 := by rw [mj_cats]; exact hs
  have hfr := hR.1
  have hlo := hR.2.1
  have hmL := hM.2.2.2.2
  have hG : GoodIn mj_ws (wsV own idx y.cls y (mj_wy y b mL ret)) := by
    intro w hw
    rcases List.mem_append.mp hw with hw | hw
    · simp only [List.mem_cons, List.not_mem_nil, or_false] at hw
      rcases hw with rfl | rfl | rfl | rfl
      · exact ⟨hV.1, good_of_word (mj_of hV.1).2⟩
      · exact ⟨hV.2.1, good_of_word (mj_of hV.2.1).2⟩
      · exact ⟨hV.2.2, good_of_word (mj_of hV.2.2).2⟩
      · exact ⟨hM.2.1, good_of_word (mj_of hM.2.1).2⟩
    · exact mj_good (y := y) (b := b) (mL := mL) (ret := ret) hM.1 w hw
  refine mj_fin (st := st) (mc2 := mc2) (ms2 := ms2) (Fin := Fin) (a := (Value.ref (ad i) :: as.map (mj_v ad)).toArray) hA h hst hf ?_ kk
  exact va_runV (As := as.map (mj_v ad)) (b := ad i) ⟨hx, hb, hml, hown, hts⟩ (hC l D cA ad H.size h.hcs (fun w hw => h.hrs w ((List.mem_cons.mp hw).elim (fun q => by rw [q]; exact List.mem_append_right _ List.mem_cons_self) (fun q => List.mem_append_left _ (List.mem_reverse.mpr q)))))
    (cwV n hts hG rfl rfl rfl ⟨rfl, hM.2.2.1.1, hM.2.2.1.2.1, hM.2.2.1.2.2⟩ ⟨hfr, by show 8 + (mL + 11) + 60 * d ≤ R.locals; omega⟩)
    ⟨mj_blind, va_recv hU.1 h.hP hcl h2, fun U hU1 hW => ⟨rfl, by rw [hU1], by rw [hU1]; exact h.hP, mj_U.moved hW hU, h.hD.weaken (fun _ _ _ _ => trivial)⟩⟩
    rfl (by rw [List.length_map]; exact hn) h.hls.1 (by show (as.reverse ++ .ref i :: st).map (mj_v ad) = _; rw [List.map_append, List.map_reverse]; rfl) (lv_room hs2) dg ⟨Nat.le_trans hf.1 hR.2.2.1, Nat.le_trans hf.2 hR.2.2.2⟩
theorem ro_callS (hK : mj_C (d + 1) mc ms own mn cc nL K) (hM : mj_M y b mL n ret) (hV : mj_T own idx y) (hC : mj_MC d mc2 ms2 y b mL ret as S Fin) (hn : as.length = n) (hs : (st.map fun q => q.category).sum ≤ 8) (hf : u + mc2 ≤ mc ∧ v + ms2 ≤ ms) (dg : decode cc pc = .ok (.invokestatic idx, 3)) {sv : List Value} (hsv : as.reverse ++ st = sv)
    (kk : ∀ r S', Fin r S' → K (u + mc2) (v + ms2) (pc + 3) lv (r.toList ++ st) S') : K u v pc lv sv S := by
  subst hsv
  obtain ⟨p, l, e, R, s, m, args, below, meth, c, D, cA, ad0, L0, A, Q, hx, hb, hml, hown, hts, hU, hA, hmn, hR, rfl⟩ := hK
  intro ad H locs ls h
  have hst : mj_rl S.1 st := fun w hw => h.hrs w (List.mem_append_right _ hw)
  have hs2 : ((st.map (mj_v ad)).map fun q => q.category).sum ≤ 8 := by rw [mj_cats]; exact hs
  have hfr := hR.1
  have hlo := hR.2.1
  have hmL := hM.2.2.2.2
  refine mj_fin (st := st) (mc2 := mc2) (ms2 := ms2) (Fin := Fin) (a := (as.map (mj_v ad)).toArray) hA h hst hf ?_ kk
  exact va_runS (As := as.map (mj_v ad)) ⟨hx, hb, hml, hown, hts⟩ (hC l D cA ad H.size h.hcs (fun w hw => h.hrs w (List.mem_append_left _ (List.mem_reverse.mpr hw))))
    ⟨callB_of n hts (mj_good (y := y) (b := b) (mL := mL) (ret := ret) hM.1) rfl rfl rfl (hts _ hM.2.1) (hts _ hV.1) hM.2.2.1 ⟨hfr, by show 8 + (mL + 11) + 60 * d ≤ R.locals; omega⟩, hts _ hV.2⟩
    ⟨mj_blind, fun U hU1 hW => ⟨rfl, by rw [hU1], by rw [hU1]; exact h.hP, mj_U.moved hW hU, h.hD.weaken (fun _ _ _ _ => trivial)⟩⟩
    rfl (by rw [List.length_map]; exact hn) h.hls.1 (by show (as.reverse ++ st).map (mj_v ad) = _; rw [List.map_append, List.map_reverse]) (lv_room hs2) dg ⟨Nat.le_trans hf.1 hR.2.2.1, Nat.le_trans hf.2 hR.2.2.2⟩
/-- a private static method of a nest mate -/
theorem ro_callSN (hK : mj_C (d + 1) mc ms own mn cc nL K) {host : String} (hM : mj_M y b mL n ret) (hV : (own, idx, y, host) ∈ mj_nest) (hst1 : Cond.static y ∈ mj_ws) (hC : mj_MC d mc2 ms2 y b mL ret as S Fin) (hn : as.length = n) (hs : (st.map fun q => q.category).sum ≤ 8) (hf : u + mc2 ≤ mc ∧ v + ms2 ≤ ms) (dg : decode cc pc = .ok (.invokestatic idx, 3)) {sv : List Value} (hsv : as.reverse ++ st = sv)
    (kk : ∀ r S', Fin r S' → K (u + mc2) (v + ms2) (pc + 3) lv (r.toList ++ st) S') : K u v pc lv sv S := by
  subst hsv
  obtain ⟨p, l, e, R, s, m, args, below, meth, c, D, cA, ad0, L0, A, Q, hx, hb, hml, hown, hts, hU, hA, hmn, hR, rfl⟩ := hK
  intro ad H locs ls h
  have hst : mj_rl S.1 st := fun w hw => h.hrs w (List.mem_append_right _ hw)
  have hs2 : ((st.map (mj_v ad)).map fun q => q.category).sum ≤ 8 := by rw [mj_cats]; exact hs
  have hfr := hR.1
  have hlo := hR.2.1
  have hmL := hM.2.2.2.2
  refine mj_fin (st := st) (mc2 := mc2) (ms2 := ms2) (Fin := Fin) (a := (as.map (mj_v ad)).toArray) hA h hst hf ?_ kk
  exact va_runSN (As := as.map (mj_v ad)) (host := host) ⟨hx, hb, hml, hown, hts⟩ (hC l D cA ad H.size h.hcs (fun w hw => h.hrs w (List.mem_append_left _ (List.mem_reverse.mpr hw))))
    ⟨va_cnB n hts (mj_good (y := y) (b := b) (mL := mL) (ret := ret) hM.1) rfl rfl rfl (hU.2.1 _ hV) (hts _ hM.2.1) hM.2.2.1 ⟨hfr, by show 8 + (mL + 11) + 60 * d ≤ R.locals; omega⟩, hts _ hst1, trivial⟩
    ⟨mj_blind, fun U hU1 hW => ⟨rfl, by rw [hU1], by rw [hU1]; exact h.hP, mj_U.moved hW hU, h.hD.weaken (fun _ _ _ _ => trivial)⟩⟩
    rfl (by rw [List.length_map]; exact hn) h.hls.1 (by show (as.reverse ++ st).map (mj_v ad) = _; rw [List.map_append, List.map_reverse]) (lv_room hs2) dg ⟨Nat.le_trans hf.1 hR.2.2.1, Nat.le_trans hf.2 hR.2.2.2⟩
end MJV
end
section
/-! the flat state: fields, arrays, the one long, which text is read, which caves are kept -/
abbrev mb_T : Type := (Nat → Nat → Int32) × (Nat → Nat → Int32) × (Nat → Int64) × (Nat → Nat) × (Nat → Bool)
def mb_t0 : List (Nat × Nat) := [(14, 0), (0, 6), (99, 0), (0, 4), (99, 0), (99, 0), (4, 3), (99, 0), (99, 0), (99, 0), (0, 5), (0, 5), (0, 6), (99, 0), (99, 0), (99, 0), (2, 6), (3, 4), (99, 0), (99, 0), (0, 60), (0, 60), (0, 60), (0, 60), (0, 60), (0, 60), (99, 0), (99, 0), (99, 0), (99, 0), (1, 80), (1, 80), (1, 80), (1, 80), (99, 0), (99, 0), (12, 0), (1, 0), (99, 0), (99, 0), (10, 0), (99, 0), (99, 0), (99, 0), (99, 0), (99, 0), (99, 0), (0, 5), (0, 5), (0, 5), (0, 5), (0, 5), (0, 5), (0, 5), (0, 5), (0, 100), (0, 48), (99, 0), (99, 0), (99, 0), (13, 0), (0, 6), (99, 0), (99, 0), (0, 6)]
def mb_t1 : List (Nat × Nat) := [(11, 0), (99, 0), (99, 0), (99, 0), (99, 0), (0, 5), (0, 5), (0, 5), (0, 5), (0, 5), (0, 120), (0, 120), (0, 600)]
def mb_t2 : List (Nat × Nat) := [(15, 0), (0, 6), (99, 0), (0, 6), (0, 360), (0, 60), (0, 4), (0, 320), (99, 0), (99, 0), (99, 0), (99, 0), (0, 10), (0, 10), (0, 10), (0, 10), (0, 10), (99, 0), (99, 0), (99, 0), (99, 0), (99, 0), (99, 0), (0, 5), (99, 0), (99, 0), (0, 120), (0, 720), (0, 5), (0, 2550), (0, 8), (99, 0), (0, 18), (99, 0), (0, 56), (0, 6), (0, 6), (99, 0), (99, 0), (0, 5), (0, 5), (99, 0), (99, 0), (99, 0), (99, 0)]
def mb_k (i : Nat) : Nat × Nat := if i < 100 then mb_t0.getD i (99, 0) else if i < 200 then mb_t1.getD ((i - 100) % 20) (99, 0) else mb_t2.getD (i - 200) (99, 0)
/-- the text that the reader has (31: the empty one) -/
def mb_sg (s : Nat) : Nat := if 30 ≤ s ∧ s ≤ 33 then s else 37
def mb_sn (s : Nat) : Nat := if 30 ≤ s ∧ s ≤ 33 then 80 else 0
def mb_fA (σ : mb_T) (i : Nat) : List Value := [.int (σ.1 i 0), .int (σ.1 i 1), .int (σ.1 i 2), .int (σ.1 i 3), .int (σ.1 i 4), .int (σ.1 i 5), .int (σ.1 i 6), .ref 47, .ref 48, .ref 49, .ref 50, .ref 51, .ref 52, .ref 53, .ref 54, .ref 55, .ref 56]
def mb_fV (σ : mb_T) (i : Nat) : List Value := [.int (σ.1 i 0), .int (σ.1 i 1), .int (σ.1 i 2), .int (σ.1 i 3), .int (σ.1 i 4), .ref (i + 5), .ref (i + 6), .ref (i + 7), .ref (i + 8), .ref (i + 9), .ref (i + 10), .ref (i + 11), .ref (i + 12)]
def mb_fR (σ : mb_T) (i : Nat) : List Value := [.ref (mb_sg (σ.2.2.2.1 i)), .int (σ.1 i 1), .int (σ.1 i 2), .int (σ.1 i 3)]
def mb_fS (σ : mb_T) (i : Nat) : List Value := [.ref 61, .int (σ.1 i 1), .int (σ.1 i 2), .ref 64, .int (σ.1 i 4), .int (σ.1 i 5)]
def mb_fC (σ : mb_T) (i : Nat) : List Value := [.ref 16, .ref 1, .ref 17, .ref 3, .ref 100, .ref 120, .ref 6, .ref 36, .ref 40, .ref 60, .ref 10, .ref 11, .ref 12, .int (σ.1 i 13), .int (σ.1 i 14)]
def mb_fM (σ : mb_T) (i : Nat) : List Value := [.int (σ.1 i 0), .ref 201, .int (σ.1 i 2), .ref 203, .ref 204, .ref 205, .ref 206, .ref 207, .int (σ.1 i 8), .int (σ.1 i 9), .int (σ.1 i 10), .int (σ.1 i 11), .ref 212, .ref 213, .ref 214, .ref 215, .ref 216, .int (σ.1 i 17), .int (σ.1 i 18), .int (σ.1 i 19), .int (σ.1 i 20), .int (σ.1 i 21), .int (σ.1 i 22), .ref 223, .int (σ.1 i 24), .int (σ.1 i 25), .ref 226, .ref 227, .ref 228, .ref 229, .ref 230, .int (σ.1 i 31), .ref 232, .int (σ.1 i 33), .ref 234, .ref 235, .ref 236, .int (σ.1 i 37), .int (σ.1 i 38), .ref 239, .ref 240, .int (σ.1 i 41), .int (σ.1 i 42), .int (σ.1 i 43), .long (σ.2.2.1 i)]
def mb_f (ci : Nat) (σ : mb_T) (i : Nat) : List Value := match ci with
  | 0 => mb_fA σ i
  | 1 => mb_fV σ i
  | 2 => mb_fR σ i
  | 3 => mb_fS σ i
  | 4 => mb_fC σ i
  | 5 => mb_fM σ i
  | _ => []
def mb_c (σ : mb_T) (i : Nat) : mj_E := match mb_k i with
  | (0, n) => .inl (0, n, .inl (σ.2.1 i))
  | (1, n) => .inl (1, n, .inl (σ.2.1 i))
  | (2, _) => .inl (2, 6, .inr (.inr (.inr (.inr (fun j => if j < 6 then some (20 + j) else none)))))
  | (3, _) => .inl (3, 4, .inr (.inr (.inr (.inr (fun j => if j < 4 then some (30 + j) else none)))))
  | (4, _) => .inl (4, 3, .inr (.inr (.inr (.inr (fun j => if j < 3 ∧ σ.2.2.2.2 j = true then some (140 + 20 * j) else none)))))
  | (10, _) => .inr (0, mb_f 0 σ i)
  | (11, _) => .inr (1, mb_f 1 σ i)
  | (12, _) => .inr (2, mb_f 2 σ i)
  | (13, _) => .inr (3, mb_f 3 σ i)
  | (14, _) => .inr (4, mb_f 4 σ i)
  | (15, _) => .inr (5, mb_f 5 σ i)
  | _ => .inr (9, [])
def mb_st : List Nat := [0, 1, 3, 6, 10, 11, 12, 16, 17, 20, 21, 22, 23, 24, 25, 30, 31, 32, 33, 36, 37, 40, 47, 48, 49, 50, 51, 52, 53, 54, 55, 56, 60, 61, 64, 100, 105, 106, 107, 108, 109, 110, 111, 112, 120, 125, 126, 127, 128, 129, 130, 131, 132, 200, 201, 203, 204, 205, 206, 207, 212, 213, 214, 215, 216, 223, 226, 227, 228, 229, 230, 232, 234, 235, 236, 239, 240]
def mb_kc (c : Nat) : List Nat := [c, c + 5, c + 6, c + 7, c + 8, c + 9, c + 10, c + 11, c + 12]
def mb_L (σ : mb_T) : List Nat := mb_st ++ ((if σ.2.2.2.2 0 = true then mb_kc 140 else []) ++ ((if σ.2.2.2.2 1 = true then mb_kc 160 else []) ++ (if σ.2.2.2.2 2 = true then mb_kc 180 else [])))
def mb_s (σ : mb_T) : mj_S := (mb_L σ, mb_c σ)
/-! changes -/
def sF (σ : mb_T) (i k : Nat) (x : Int32) : mb_T := (fun a b => if b = k then (if a = i then x else σ.1 a b) else σ.1 a b, σ.2)
def sV (σ : mb_T) (a : Nat) (g : Nat → Int32) : mb_T := (σ.1, fun b => if b = a then g else σ.2.1 b, σ.2.2)
def sA (σ : mb_T) (a j : Nat) (x : Int32) : mb_T := sV σ a (upd (σ.2.1 a) j x)
def sJ (σ : mb_T) (i : Nat) (x : Int64) : mb_T := (σ.1, σ.2.1, fun j => if j = i then x else σ.2.2.1 j, σ.2.2.2)
def sG (σ : mb_T) (i a : Nat) : mb_T := (σ.1, σ.2.1, σ.2.2.1, fun j => if j = i then a else σ.2.2.2.1 j, σ.2.2.2.2)
def mb_o (i ci : Nat) : Prop := ∀ σ, mb_c σ i = .inr (ci, mb_f ci σ i)
def mb_ai (a n : Nat) : Prop := ∀ σ, mb_c σ a = .inl (0, n, .inl (σ.2.1 a))
def mb_ab (a n : Nat) : Prop := ∀ σ, mb_c σ a = .inl (1, n, .inl (σ.2.1 a))
theorem mb_c_F {σ : mb_T} {i k j : Nat} {x : Int32} (h : j ≠ i) : mb_c (sF σ i k x) j = mb_c σ j := by
  have e : ∀ b, (sF σ i k x).1 j b = σ.1 j b := by
    intro b
    show (if b = k then (if j = i then x else σ.1 j b) else σ.1 j b) = σ.1 j b
    rw [if_neg h]
    split <;> rfl
  unfold mb_c
  simp only [mb_f, mb_fA, mb_fV, mb_fR, mb_fS, mb_fC, mb_fM, e]
  rfl
theorem mb_c_V {σ : mb_T} {a j : Nat} {g : Nat → Int32} (h : j ≠ a) : mb_c (sV σ a g) j = mb_c σ j := by
  have e : (sV σ a g).2.1 j = σ.2.1 j := if_neg h
  unfold mb_c
  simp only [mb_f, mb_fA, mb_fV, mb_fR, mb_fS, mb_fC, mb_fM, e]
  rfl
theorem mb_up_F {σ : mb_T} {i ci k : Nat} {x : Int32} (ho : mb_o i ci) (hs : (mb_f ci σ i).set k (.int x) = mb_f ci (sF σ i k x) i) : mj_up (mb_s σ) i (.inr (ci, (mb_f ci σ i).set k (.int x))) = mb_s (sF σ i k x) := by
  refine Prod.ext rfl (funext fun j => ?_)
  show (if j = i then _ else mb_c σ j) = mb_c (sF σ i k x) j
  by_cases h : j = i
  · rw [if_pos h, h, hs]; exact (ho _).symm
  · rw [if_neg h]; exact (mb_c_F h).symm
theorem mb_up_V {σ : mb_T} {a n : Nat} {g : Nat → Int32} (ha : mb_ai a n) : mj_up (mb_s σ) a (.inl (0, n, .inl g)) = mb_s (sV σ a g) := by
  refine Prod.ext rfl (funext fun j => ?_)
  show (if j = a then _ else mb_c σ j) = mb_c (sV σ a g) j
  by_cases h : j = a
  · rw [if_pos h, h, ha]
    have e : (sV σ a g).2.1 a = g := if_pos rfl
    rw [e]
  · rw [if_neg h]; exact (mb_c_V h).symm
theorem mb_up_B {σ : mb_T} {a n : Nat} {g : Nat → Int32} (ha : mb_ab a n) : mj_up (mb_s σ) a (.inl (1, n, .inl g)) = mb_s (sV σ a g) := by
  refine Prod.ext rfl (funext fun j => ?_)
  show (if j = a then _ else mb_c σ j) = mb_c (sV σ a g) j
  by_cases h : j = a
  · rw [if_pos h, h, ha]
    have e : (sV σ a g).2.1 a = g := if_pos rfl
    rw [e]
  · rw [if_neg h]; exact (mb_c_V h).symm
theorem mb_o36 : mb_o 36 2 := fun _ => rfl
theorem mb_o200 : mb_o 200 5 := fun _ => rfl
theorem mb_up_J {σ : mb_T} {x : Int64} : mj_up (mb_s σ) 200 (.inr (5, (mb_f 5 σ 200).set 44 (.long x))) = mb_s (sJ σ 200 x) := by
  refine Prod.ext rfl (funext fun j => ?_)
  show (if j = 200 then _ else mb_c σ j) = mb_c (sJ σ 200 x) j
  by_cases h : j = 200
  · rw [if_pos h, h]; rfl
  · rw [if_neg h]
    have e : (sJ σ 200 x).2.2.1 j = σ.2.2.1 j := if_neg h
    unfold mb_c
    simp only [mb_f, mb_fA, mb_fV, mb_fR, mb_fS, mb_fC, mb_fM, e]
    rfl
theorem mb_up_G {σ : mb_T} {a : Nat} (h1 : 30 ≤ a ∧ a ≤ 33) : mj_up (mb_s σ) 36 (.inr (2, (mb_f 2 σ 36).set 0 (.ref a))) = mb_s (sG σ 36 a) := by
  refine Prod.ext rfl (funext fun j => ?_)
  show (if j = 36 then _ else mb_c σ j) = mb_c (sG σ 36 a) j
  have e : mb_sg a = a := if_pos h1
  by_cases h : j = 36
  · rw [if_pos h, h, mb_o36]
    show Sum.inr (2, [Value.ref a, .int (σ.1 36 1), .int (σ.1 36 2), .int (σ.1 36 3)]) = Sum.inr (2, [Value.ref (mb_sg a), .int (σ.1 36 1), .int (σ.1 36 2), .int (σ.1 36 3)])
    rw [e]
  · rw [if_neg h]
    have e2 : (sG σ 36 a).2.2.2.1 j = σ.2.2.2.1 j := if_neg h
    unfold mb_c
    simp only [mb_f, mb_fA, mb_fV, mb_fR, mb_fS, mb_fC, mb_fM, e2]
    rfl
/-! rows over the flat state -/
section MBR
variable {d mc ms nL : Nat} {own mn : String} {cc : ByteArray} {K : mj_KT} {u v pc : Nat} {lv st : List Value} {σ : mb_T}
theorem rb_get (hK : mj_C d mc ms own mn cc nL K) {i ci k idx : Nat} {x : Value} (hf : mj_F own idx ci k) (ho : mb_o i ci) (hv : (mb_f ci σ i)[k]? = some x) (dg : decode cc pc = .ok (.getfield idx, 3)) (kk : K u v (pc + 3) lv (x :: st) (mb_s σ)) : K u v pc lv (.ref i :: st) (mb_s σ) := ro_get hK hf (ho σ) hv dg kk
theorem rb_put (hK : mj_C d mc ms own mn cc nL K) {i ci k idx : Nat} {x : Int32} {ty : FieldType} {σ1 : mb_T} (hf : mj_G own idx ci k ty) (ho : mb_o i ci) (hs : (mb_f ci σ i).set k (.int x) = mb_f ci (sF σ i k x) i) (hl : k < (mb_f ci σ i).length) (hn : narrow ty (.int x) = .int x) (hfit : fits ty (.int x) = true) (e : σ1 = sF σ i k x) (dg : decode cc pc = .ok (.putfield idx, 3)) (kk : K u v (pc + 3) lv st (mb_s σ1)) : K u v pc lv (.int x :: .ref i :: st) (mb_s σ) :=
  ro_put hK hf (ho σ) hl (fun _ => hn) (fun _ => hfit) dg (by rw [mb_up_F ho hs, ← e]; exact kk)
theorem rb_putJ (hK : mj_C d mc ms own mn cc nL K) {idx : Nat} {x : Int64} {σ1 : mb_T} (hf : mj_G own idx 5 44 .long) (e : σ1 = sJ σ 200 x) (dg : decode cc pc = .ok (.putfield idx, 3)) (kk : K u v (pc + 3) lv st (mb_s σ1)) : K u v pc lv (.long x :: .ref 200 :: st) (mb_s σ) :=
  ro_put hK hf (mb_o200 σ) (show 44 < 45 by decide) (fun _ => rfl) (fun _ => rfl) dg (by rw [mb_up_J, ← e]; exact kk)
theorem rb_putG (hK : mj_C d mc ms own mn cc nL K) {idx a : Nat} {σ1 : mb_T} (hf : mj_G own idx 2 0 (.array .byte)) (h1 : 30 ≤ a ∧ a ≤ 33) (e : σ1 = sG σ 36 a) (dg : decode cc pc = .ok (.putfield idx, 3)) (kk : K u v (pc + 3) lv st (mb_s σ1)) : K u v pc lv (.ref a :: .ref 36 :: st) (mb_s σ) :=
  ro_put hK hf (mb_o36 σ) (show 0 < 4 by decide) (fun _ => rfl) (fun _ => rfl) dg (by rw [mb_up_G h1, ← e]; exact kk)
theorem rb_iald (hK : mj_C d mc ms own mn cc nL K) {a n : Nat} {j x : Int32} (ha : mb_ai a n) (hin : vp_in j n) (e : x = σ.2.1 a j.toNatClampNeg) (dg : decode cc pc = .ok (.iaload, 1)) (kk : K u v (pc + 1) lv (.int x :: st) (mb_s σ)) : K u v pc lv (.int j :: .ref a :: st) (mb_s σ) := by
  subst e
  exact ro_iald hK (ha σ) hin dg kk
theorem rb_bald (hK : mj_C d mc ms own mn cc nL K) {a n : Nat} {j x : Int32} (ha : mb_ab a n) (hin : vp_in j n) (e : x = σ.2.1 a j.toNatClampNeg) (dg : decode cc pc = .ok (.baload, 1)) (kk : K u v (pc + 1) lv (.int x :: st) (mb_s σ)) : K u v pc lv (.int j :: .ref a :: st) (mb_s σ) := by
  subst e
  exact ro_bald hK (ha σ) hin dg kk
theorem rb_iast (hK : mj_C d mc ms own mn cc nL K) {a n : Nat} {j x : Int32} {σ1 : mb_T} (ha : mb_ai a n) (hin : vp_in j n) (e : σ1 = sA σ a j.toNatClampNeg x) (dg : decode cc pc = .ok (.iastore, 1)) (kk : K u v (pc + 1) lv st (mb_s σ1)) : K u v pc lv (.int x :: .int j :: .ref a :: st) (mb_s σ) :=
  ro_iast hK (ha σ) hin dg (by rw [mb_up_V ha]; rw [e] at kk; exact kk)
theorem rb_bast (hK : mj_C d mc ms own mn cc nL K) {a n : Nat} {j x : Int32} {σ1 : mb_T} (ha : mb_ab a n) (hin : vp_in j n) (e : σ1 = sA σ a j.toNatClampNeg x.toInt8.toInt32) (dg : decode cc pc = .ok (.bastore, 1)) (kk : K u v (pc + 1) lv st (mb_s σ1)) : K u v pc lv (.int x :: .int j :: .ref a :: st) (mb_s σ) :=
  ro_bast hK (ha σ) hin dg (by rw [mb_up_B ha, vp_nar_byte]; rw [e] at kk; exact kk)
theorem rb_alenI (hK : mj_C d mc ms own mn cc nL K) {a n : Nat} (ha : mb_ai a n) (dg : decode cc pc = .ok (.arraylength, 1)) (kk : K u v (pc + 1) lv (.int (Int32.ofNat n) :: st) (mb_s σ)) : K u v pc lv (.ref a :: st) (mb_s σ) := ro_alenI hK (ha σ) dg kk
theorem rb_alenB (hK : mj_C d mc ms own mn cc nL K) {a n : Nat} (ha : mb_ab a n) (dg : decode cc pc = .ok (.arraylength, 1)) (kk : K u v (pc + 1) lv (.int (Int32.ofNat n) :: st) (mb_s σ)) : K u v pc lv (.ref a :: st) (mb_s σ) := ro_alenB hK (ha σ) dg kk
theorem rb_rows (hK : mj_C d mc ms own mn cc nL K) {j : Int32} (hin : vp_in j 6) (dg : decode cc pc = .ok (.aaload, 1)) (kk : K u v (pc + 1) lv (.ref (20 + j.toNatClampNeg) :: st) (mb_s σ)) : K u v pc lv (.int j :: .ref 16 :: st) (mb_s σ) := by
  have hlt : j.toNatClampNeg < 6 := Nat.not_le.mp fun q => hin (Or.inr q)
  refine ro_aald (t := 2) (n := 6) (f := fun j => if j < 6 then some (20 + j) else none) hK (Or.inl rfl) rfl hin dg ?_
  rw [if_pos hlt]
  exact kk
theorem rb_texts (hK : mj_C d mc ms own mn cc nL K) {j : Int32} (hin : vp_in j 4) (dg : decode cc pc = .ok (.aaload, 1)) (kk : K u v (pc + 1) lv (.ref (30 + j.toNatClampNeg) :: st) (mb_s σ)) : K u v pc lv (.int j :: .ref 17 :: st) (mb_s σ) := by
  have hlt : j.toNatClampNeg < 4 := Nat.not_le.mp fun q => hin (Or.inr q)
  refine ro_aald (t := 3) (n := 4) (f := fun j => if j < 4 then some (30 + j) else none) hK (Or.inr (Or.inl rfl)) rfl hin dg ?_
  rw [if_pos hlt]
  exact kk
theorem rb_kept (hK : mj_C d mc ms own mn cc nL K) {j : Int32} (hin : vp_in j 3) (dg : decode cc pc = .ok (.aaload, 1)) (k1 : σ.2.2.2.2 j.toNatClampNeg = true → K u v (pc + 1) lv (.ref (140 + 20 * j.toNatClampNeg) :: st) (mb_s σ)) (k2 : ¬ σ.2.2.2.2 j.toNatClampNeg = true → K u v (pc + 1) lv (.null :: st) (mb_s σ)) : K u v pc lv (.int j :: .ref 6 :: st) (mb_s σ) := by
  have hlt : j.toNatClampNeg < 3 := Nat.not_le.mp fun q => hin (Or.inr q)
  refine ro_aald (t := 4) (n := 3) (f := fun j => if j < 3 ∧ σ.2.2.2.2 j = true then some (140 + 20 * j) else none) hK (Or.inr (Or.inr rfl)) rfl hin dg ?_
  by_cases h : σ.2.2.2.2 j.toNatClampNeg = true
  · rw [if_pos ⟨hlt, h⟩]; exact k1 h
  · rw [if_neg (fun q => h q.2)]; exact k2 h
theorem rb_copy (hK : mj_C d mc ms own mn cc nL K) {idx a0 a1 n0 n1 : Nat} {sp dp n : Int32} {σ1 : mb_T} (hw : Cond.methodLink own idx arraycopyName ∈ mj_ws) (hd : 1 ≤ d) (hs : (st.map fun q => q.category).sum ≤ 8) (h0 : mb_ai a0 n0) (h1 : mb_ai a1 n1) (hc : (¬ sp < 0 ∧ ¬ dp < 0 ∧ ¬ n < 0) ∧ sp.toNatClampNeg + n.toNatClampNeg ≤ n0 ∧ dp.toNatClampNeg + n.toNatClampNeg ≤ n1) (e : σ1 = sV σ a1 (va_cpy (σ.2.1 a0) (σ.2.1 a1) sp.toNatClampNeg dp.toNatClampNeg n.toNatClampNeg)) (dg : decode cc pc = .ok (.invokestatic idx, 3)) (kk : K u v (pc + 3) lv st (mb_s σ1)) : K u v pc lv (.int n :: .int dp :: .ref a1 :: .int sp :: .ref a0 :: st) (mb_s σ) :=
  ro_copy hK hw hd hs (h0 σ) (h1 σ) hc.1.1 hc.1.2.1 hc.1.2.2 hc.2.1 hc.2.2 dg (by rw [mb_up_V h1, ← e]; exact kk)
end MBR
theorem mb_rw {j : Int32} (h : vp_in j 6) : mb_ai (20 + j.toNatClampNeg) 60 := by
  have hlt : j.toNatClampNeg < 6 := Nat.not_le.mp fun q => h (Or.inr q)
  generalize j.toNatClampNeg = q at hlt
  intro σ
  match q, hlt with
  | 0, _ => rfl
  | 1, _ => rfl
  | 2, _ => rfl
  | 3, _ => rfl
  | 4, _ => rfl
  | 5, _ => rfl
  | n + 6, h => exact absurd h (by omega)
theorem mb_tx {j : Int32} (h : vp_in j 4) : 30 ≤ 30 + j.toNatClampNeg ∧ 30 + j.toNatClampNeg ≤ 33 := by
  have hlt : j.toNatClampNeg < 4 := Nat.not_le.mp fun q => h (Or.inr q)
  omega
theorem mb_tb {a : Nat} (h : 30 ≤ a ∧ a ≤ 33) : mb_ab a 80 := by
  intro σ
  have : a = 30 ∨ a = 31 ∨ a = 32 ∨ a = 33 := by omega
  rcases this with rfl | rfl | rfl | rfl <;> rfl
theorem mb_sgb (s : Nat) : mb_ab (mb_sg s) (mb_sn s) := by
  by_cases h : 30 ≤ s ∧ s ≤ 33
  · unfold mb_sg mb_sn
    rw [if_pos h, if_pos h]
    exact mb_tb h
  · unfold mb_sg mb_sn
    rw [if_neg h, if_neg h]
    exact fun _ => rfl
/-- a cave: the one that is, the draft, a kept one -/
def mb_cv (c : Nat) : Prop := c = 100 ∨ c = 120 ∨ c = 140 ∨ c = 160 ∨ c = 180
theorem mb_cvo {c : Nat} (h : mb_cv c) : mb_o c 1 := by
  rcases h with rfl | rfl | rfl | rfl | rfl <;> exact fun _ => rfl
theorem mb_cv5 {c : Nat} (h : mb_cv c) : mb_ai (c + 5) 5 := by
  rcases h with rfl | rfl | rfl | rfl | rfl <;> exact fun _ => rfl
theorem mb_cv6 {c : Nat} (h : mb_cv c) : mb_ai (c + 6) 5 := by
  rcases h with rfl | rfl | rfl | rfl | rfl <;> exact fun _ => rfl
theorem mb_cv7 {c : Nat} (h : mb_cv c) : mb_ai (c + 7) 5 := by
  rcases h with rfl | rfl | rfl | rfl | rfl <;> exact fun _ => rfl
theorem mb_cv8 {c : Nat} (h : mb_cv c) : mb_ai (c + 8) 5 := by
  rcases h with rfl | rfl | rfl | rfl | rfl <;> exact fun _ => rfl
theorem mb_cv9 {c : Nat} (h : mb_cv c) : mb_ai (c + 9) 5 := by
  rcases h with rfl | rfl | rfl | rfl | rfl <;> exact fun _ => rfl
theorem mb_cv10 {c : Nat} (h : mb_cv c) : mb_ai (c + 10) 120 := by
  rcases h with rfl | rfl | rfl | rfl | rfl <;> exact fun _ => rfl
theorem mb_cv11 {c : Nat} (h : mb_cv c) : mb_ai (c + 11) 120 := by
  rcases h with rfl | rfl | rfl | rfl | rfl <;> exact fun _ => rfl
theorem mb_cv12 {c : Nat} (h : mb_cv c) : mb_ai (c + 12) 600 := by
  rcases h with rfl | rfl | rfl | rfl | rfl <;> exact fun _ => rfl
theorem mb_kcv {j : Int32} (h : vp_in j 3) : mb_cv (140 + 20 * j.toNatClampNeg) := by
  have hlt : j.toNatClampNeg < 3 := Nat.not_le.mp fun q => h (Or.inr q)
  unfold mb_cv
  omega
theorem mb_cvs {c k : Nat} {x : Int32} {σ : mb_T} (hk : k < 5) : (mb_f 1 σ c).set k (.int x) = mb_f 1 (sF σ c k x) c := by
  match k, hk with
  | 0, _ => simp [mb_f, mb_fV, sF]
  | 1, _ => simp [mb_f, mb_fV, sF]
  | 2, _ => simp [mb_f, mb_fV, sF]
  | 3, _ => simp [mb_f, mb_fV, sF]
  | 4, _ => simp [mb_f, mb_fV, sF]
  | n + 5, h => exact absurd h (by omega)
/-! pieces that the functions are made of -/
section MBF
variable {α β : Type}
def mb_bd (s : mb_T) (k : mb_T → Option β) : Option β := k s
def mb_rd (σ : mb_T) (a n : Nat) (j : Int32) (k : Int32 → Option β) : Option β := if j < 0 ∨ n ≤ j.toNatClampNeg then none else k (σ.2.1 a j.toNatClampNeg)
def mb_wr (σ : mb_T) (a n : Nat) (j x : Int32) (k : mb_T → Option β) : Option β := if j < 0 ∨ n ≤ j.toNatClampNeg then none else k (sA σ a j.toNatClampNeg x)
def mb_ix (j : Int32) (n : Nat) (k : Option β) : Option β := if j < 0 ∨ n ≤ j.toNatClampNeg then none else k
def mb_dv (y : Int32) (k : Option β) : Option β := if y = 0 then none else k
def mb_dl (y : Int64) (k : Option β) : Option β := if y = 0 then none else k
def mb_cl (o : Option (α × mb_T)) (k : α → mb_T → Option β) : Option β := match o with
  | none => none
  | some p => k p.1 p.2
def mb_cw (o : Option mb_T) (k : mb_T → Option β) : Option β := match o with
  | none => none
  | some p => k p
def mb_cp (σ : mb_T) (a0 n0 a1 n1 : Nat) (sp dp n : Int32) (k : mb_T → Option β) : Option β := if (¬ sp < 0 ∧ ¬ dp < 0 ∧ ¬ n < 0) ∧ sp.toNatClampNeg + n.toNatClampNeg ≤ n0 ∧ dp.toNatClampNeg + n.toNatClampNeg ≤ n1 then k (sV σ a1 (va_cpy (σ.2.1 a0) (σ.2.1 a1) sp.toNatClampNeg dp.toNatClampNeg n.toNatClampNeg)) else none
variable {out : β}
theorem mb_bd_e {s : mb_T} {k : mb_T → Option β} (h : mb_bd s k = some out) : ∃ s1, s1 = s ∧ k s1 = some out := ⟨s, rfl, h⟩
theorem mb_rd_e {σ : mb_T} {a n : Nat} {j : Int32} {k : Int32 → Option β} (h : mb_rd σ a n j k = some out) : ∃ x, x = σ.2.1 a j.toNatClampNeg ∧ vp_in j n ∧ k x = some out := by
  unfold mb_rd at h
  split at h
  · cases h
  · next q => exact ⟨_, rfl, q, h⟩
theorem mb_wr_e {σ : mb_T} {a n : Nat} {j x : Int32} {k : mb_T → Option β} (h : mb_wr σ a n j x k = some out) : ∃ s1, s1 = sA σ a j.toNatClampNeg x ∧ vp_in j n ∧ k s1 = some out := by
  unfold mb_wr at h
  split at h
  · cases h
  · next q => exact ⟨_, rfl, q, h⟩
theorem mb_ix_e {j : Int32} {n : Nat} {k : Option β} (h : mb_ix j n k = some out) : vp_in j n ∧ k = some out := by
  unfold mb_ix at h
  split at h
  · cases h
  · next q => exact ⟨q, h⟩
theorem mb_dv_e {y : Int32} {k : Option β} (h : mb_dv y k = some out) : ¬ y = 0 ∧ k = some out := by
  unfold mb_dv at h
  split at h
  · cases h
  · next q => exact ⟨q, h⟩
theorem mb_dl_e {y : Int64} {k : Option β} (h : mb_dl y k = some out) : ¬ y = 0 ∧ k = some out := by
  unfold mb_dl at h
  split at h
  · cases h
  · next q => exact ⟨q, h⟩
theorem mb_cl_e {o : Option (α × mb_T)} {k : α → mb_T → Option β} (h : mb_cl o k = some out) : ∃ r s, o = some (r, s) ∧ k r s = some out := by
  cases o with
  | none => cases h
  | some p => exact ⟨p.1, p.2, rfl, h⟩
theorem mb_cw_e {o : Option mb_T} {k : mb_T → Option β} (h : mb_cw o k = some out) : ∃ s, o = some s ∧ k s = some out := by
  cases o with
  | none => cases h
  | some p => exact ⟨p, rfl, h⟩
theorem mb_cp_e {σ : mb_T} {a0 n0 a1 n1 : Nat} {sp dp n : Int32} {k : mb_T → Option β} (h : mb_cp σ a0 n0 a1 n1 sp dp n k = some out) : ∃ s1, s1 = sV σ a1 (va_cpy (σ.2.1 a0) (σ.2.1 a1) sp.toNatClampNeg dp.toNatClampNeg n.toNatClampNeg) ∧ ((¬ sp < 0 ∧ ¬ dp < 0 ∧ ¬ n < 0) ∧ sp.toNatClampNeg + n.toNatClampNeg ≤ n0 ∧ dp.toNatClampNeg + n.toNatClampNeg ≤ n1) ∧ k s1 = some out := by
  unfold mb_cp at h
  split at h
  · next q => exact ⟨_, rfl, q, h⟩
  · cases h
end MBF
/-! a method by its function -/
def mb_MC (d : Nat) (y : MethodName) (b : ByteArray) (mL : Nat) (ret : Option FieldType) (as : List Value) (σ : mb_T) (r : Option Value) (σ1 : mb_T) : Prop := mj_MC d 0 0 y b mL ret as (mb_s σ) (fun r2 S2 => r2 = r ∧ S2 = mb_s σ1)
section MBC
variable {d mc ms nL : Nat} {own mn : String} {cc : ByteArray} {K : mj_KT} {u v pc : Nat} {lv st as : List Value} {σ σ1 : mb_T} {idx mL n : Nat} {y : MethodName} {b : ByteArray} {ret : Option FieldType} {r : Option Value}
theorem rb_callV (hK : mj_C (d + 1) mc ms own mn cc nL K) {i ci : Nat} {T : u_T} {N : Nat} (hM : mj_M y b mL n ret) (hV : mj_V own idx y) (hC : mb_MC d y b mL ret (.ref i :: as) σ r σ1) (hcl : mj_cl[ci]? = some (y.cls, T, N)) (ho : mb_o i ci) (hn : as.length = n) (hs : (st.map fun q => q.category).sum ≤ 8) (dg : decode cc pc = .ok (.invokevirtual idx, 3)) {sv : List Value} (hsv : as.reverse ++ .ref i :: st = sv) (hb : u ≤ mc ∧ v ≤ ms) (kk : K u v (pc + 3) lv (r.toList ++ st) (mb_s σ1)) : K u v pc lv sv (mb_s σ) :=
  ro_callV hK hM hV hC hcl (ho σ) hn hs hb dg hsv (fun r2 S2 q => by obtain ⟨rfl, rfl⟩ := q; exact kk)
theorem rb_callS (hK : mj_C (d + 1) mc ms own mn cc nL K) (hM : mj_M y b mL n ret) (hV : mj_T own idx y) (hC : mb_MC d y b mL ret as σ r σ1) (hn : as.length = n) (hs : (st.map fun q => q.category).sum ≤ 8) (dg : decode cc pc = .ok (.invokestatic idx, 3)) {sv : List Value} (hsv : as.reverse ++ st = sv) (hb : u ≤ mc ∧ v ≤ ms) (kk : K u v (pc + 3) lv (r.toList ++ st) (mb_s σ1)) : K u v pc lv sv (mb_s σ) :=
  ro_callS hK hM hV hC hn hs hb dg hsv (fun r2 S2 q => by obtain ⟨rfl, rfl⟩ := q; exact kk)
theorem rb_callSN (hK : mj_C (d + 1) mc ms own mn cc nL K) {host : String} (hM : mj_M y b mL n ret) (hV : (own, idx, y, host) ∈ mj_nest) (hst1 : Cond.static y ∈ mj_ws) (hC : mb_MC d y b mL ret as σ r σ1) (hn : as.length = n) (hs : (st.map fun q => q.category).sum ≤ 8) (dg : decode cc pc = .ok (.invokestatic idx, 3)) {sv : List Value} (hsv : as.reverse ++ st = sv) (hb : u ≤ mc ∧ v ≤ ms) (kk : K u v (pc + 3) lv (r.toList ++ st) (mb_s σ1)) : K u v pc lv sv (mb_s σ) :=
  ro_callSN hK hM hV hst1 hC hn hs hb dg hsv (fun r2 S2 q => by obtain ⟨rfl, rfl⟩ := q; exact kk)
end MBC
end
section
/-! more rows: forgetting locals, counting on, guards -/
def mj_sub (a b : List Value) : Prop := match a, b with
  | [], _ => True
  | x :: t, y :: t2 => (mj_u x = true ∨ x = y) ∧ mj_sub t t2
  | _ :: _, [] => False
theorem mj_sub_at : ∀ (a b : List Value), mj_sub a b → ∀ (i : Nat) (x : Value), a[i]? = some x → mj_u x = false → b[i]? = some x
  | [], _, _, i, x, h, _ => by simp at h
  | y :: t, [], h, _, _, _, _ => absurd h (fun q => q)
  | y :: t, z :: t2, h, 0, x, hx, hu => by
    simp at hx
    subst hx
    rcases h.1 with q | q
    · rw [q] at hu; cases hu
    · simp [q]
  | y :: t, z :: t2, h, i + 1, x, hx, hu => by
    have := mj_sub_at t t2 h.2 i x (by simpa using hx) hu
    simpa using this
theorem mj_sub_rl {L : List Nat} : ∀ (a b : List Value), mj_sub a b → mj_rl L b → mj_rl L a
  | [], _, _, _ => mj_rl_n
  | y :: t, [], h, _ => absurd h (fun q => q)
  | y :: t, z :: t2, h, hb => by
    refine mj_rl_c ?_ (mj_sub_rl t t2 h.2 (mj_rl_t hb))
    rcases h.1 with q | q
    · cases y <;> first | exact mj_rv_u | cases q
    · rw [q]; exact mj_rl_h hb
section MJG
variable {d mc ms nL : Nat} {own mn : String} {cc : ByteArray} {K : mj_KT} {u v pc : Nat} {lv lv' st : List Value} {S : mj_S}
theorem ro_fg (hK : mj_C d mc ms own mn cc nL K) (hs : mj_sub lv' lv) (k : K u v pc lv' st S) : K u v pc lv st S := by
  obtain ⟨p, l, e, R, s, m, args, below, meth, c, D, cA, ad0, L0, A, Q, hx, hb, hml, hown, hts, hU, hA, hmn, hR, rfl⟩ := hK
  intro ad H locs ls h
  exact k ad H locs ls (h.lo (fun a b => ⟨a, mj_sub_rl _ _ hs b⟩) ⟨h.hls.1, h.hls.2.1, fun i x hi hu => h.hls.2.2 i x (mj_sub_at _ _ hs i x hi hu) hu⟩)
theorem ro_iincv (hK : mj_C d mc ms own mn cc nL K) {i : Nat} {n : Int} {x c : Int32} (hc : Int32.ofInt n = c) (dg : decode cc pc = .ok (.iinc i n, 3)) (hl : lv[i]? = some (.int x)) (hn : i < nL) (k : K u v (pc + 3) (mj_st1 lv i (.int (x + c))) st S) : K u v pc lv st S := by
  subst hc
  exact ro_iinc hK dg hl hn k
end MJG
theorem mb_ift {β : Type} {c : Prop} [Decidable c] {a b : Option β} {out : β} (hc : c) (h : (if c then a else b) = some out) : a = some out := by rwa [if_pos hc] at h
theorem mb_iff {β : Type} {c : Prop} [Decidable c] {a b : Option β} {out : β} (hc : ¬ c) (h : (if c then a else b) = some out) : b = some out := by rwa [if_neg hc] at h
/-- the answer of a boolean method is 0 or 1 -/
def mb_bz {β : Type} (x : Int32) (k : Option β) : Option β := if x = 0 ∨ x = 1 then k else none
theorem mb_bz_e {β : Type} {x : Int32} {k : Option β} {out : β} (h : mb_bz x k = some out) : (x = 0 ∨ x = 1) ∧ k = some out := by
  unfold mb_bz at h
  split at h
  · next q => exact ⟨q, h⟩
  · cases h
theorem mb_nz {x : Int32} (h : x = 0 ∨ x = 1) : narrow .boolean (.int x) = .int x := by
  rcases h with rfl | rfl <;> rfl
theorem mb_oA : mb_o 40 0 := fun _ => rfl
theorem mb_oS : mb_o 60 3 := fun _ => rfl
theorem mb_oC : mb_o 0 4 := fun _ => rfl
theorem mb_oR : mb_o 36 2 := fun _ => rfl
theorem mb_oM : mb_o 200 5 := fun _ => rfl
theorem ai_1 : mb_ai 1 6 := fun _ => rfl
theorem ai_3 : mb_ai 3 4 := fun _ => rfl
theorem ai_10 : mb_ai 10 5 := fun _ => rfl
theorem ai_11 : mb_ai 11 5 := fun _ => rfl
theorem ai_12 : mb_ai 12 6 := fun _ => rfl
theorem ai_20 : mb_ai 20 60 := fun _ => rfl
theorem ai_21 : mb_ai 21 60 := fun _ => rfl
theorem ai_22 : mb_ai 22 60 := fun _ => rfl
theorem ai_23 : mb_ai 23 60 := fun _ => rfl
theorem ai_24 : mb_ai 24 60 := fun _ => rfl
theorem ai_25 : mb_ai 25 60 := fun _ => rfl
theorem ai_47 : mb_ai 47 5 := fun _ => rfl
theorem ai_48 : mb_ai 48 5 := fun _ => rfl
theorem ai_49 : mb_ai 49 5 := fun _ => rfl
theorem ai_50 : mb_ai 50 5 := fun _ => rfl
theorem ai_51 : mb_ai 51 5 := fun _ => rfl
theorem ai_52 : mb_ai 52 5 := fun _ => rfl
theorem ai_53 : mb_ai 53 5 := fun _ => rfl
theorem ai_54 : mb_ai 54 5 := fun _ => rfl
theorem ai_55 : mb_ai 55 100 := fun _ => rfl
theorem ai_56 : mb_ai 56 48 := fun _ => rfl
theorem ai_61 : mb_ai 61 6 := fun _ => rfl
theorem ai_64 : mb_ai 64 6 := fun _ => rfl
theorem ai_201 : mb_ai 201 6 := fun _ => rfl
theorem ai_203 : mb_ai 203 6 := fun _ => rfl
theorem ai_204 : mb_ai 204 360 := fun _ => rfl
theorem ai_205 : mb_ai 205 60 := fun _ => rfl
theorem ai_206 : mb_ai 206 4 := fun _ => rfl
theorem ai_207 : mb_ai 207 320 := fun _ => rfl
theorem ai_212 : mb_ai 212 10 := fun _ => rfl
theorem ai_213 : mb_ai 213 10 := fun _ => rfl
theorem ai_214 : mb_ai 214 10 := fun _ => rfl
theorem ai_215 : mb_ai 215 10 := fun _ => rfl
theorem ai_216 : mb_ai 216 10 := fun _ => rfl
theorem ai_223 : mb_ai 223 5 := fun _ => rfl
theorem ai_226 : mb_ai 226 120 := fun _ => rfl
theorem ai_227 : mb_ai 227 720 := fun _ => rfl
theorem ai_228 : mb_ai 228 5 := fun _ => rfl
theorem ai_229 : mb_ai 229 2550 := fun _ => rfl
theorem ai_230 : mb_ai 230 8 := fun _ => rfl
theorem ai_232 : mb_ai 232 18 := fun _ => rfl
theorem ai_234 : mb_ai 234 56 := fun _ => rfl
theorem ai_235 : mb_ai 235 6 := fun _ => rfl
theorem ai_236 : mb_ai 236 6 := fun _ => rfl
theorem ai_239 : mb_ai 239 5 := fun _ => rfl
theorem ai_240 : mb_ai 240 5 := fun _ => rfl
theorem gV_36 : mj_G RV_c 36 1 0 (.int) := ⟨RV_c, TV_c, 13, rfl, by decide, mj_in (i := 109) (by decide +kernel) (by decide +kernel), rfl, by decide +kernel⟩
theorem gR_47 : mj_G RR_c 47 1 0 (.int) := ⟨RV_c, TV_c, 13, rfl, by decide, mj_in (i := 111) (by decide +kernel) (by decide +kernel), rfl, by decide +kernel⟩
theorem gV_40 : mj_G RV_c 40 1 1 (.int) := ⟨RV_c, TV_c, 13, rfl, by decide, mj_in (i := 113) (by decide +kernel) (by decide +kernel), rfl, by decide +kernel⟩
theorem gR_58 : mj_G RR_c 58 1 1 (.int) := ⟨RV_c, TV_c, 13, rfl, by decide, mj_in (i := 115) (by decide +kernel) (by decide +kernel), rfl, by decide +kernel⟩
theorem gV_43 : mj_G RV_c 43 1 2 (.int) := ⟨RV_c, TV_c, 13, rfl, by decide, mj_in (i := 117) (by decide +kernel) (by decide +kernel), rfl, by decide +kernel⟩
theorem gR_64 : mj_G RR_c 64 1 2 (.int) := ⟨RV_c, TV_c, 13, rfl, by decide, mj_in (i := 118) (by decide +kernel) (by decide +kernel), rfl, by decide +kernel⟩
theorem gC_171 : mj_G RC_c 171 1 2 (.int) := ⟨RV_c, TV_c, 13, rfl, by decide, mj_in (i := 119) (by decide +kernel) (by decide +kernel), rfl, by decide +kernel⟩
theorem gV_46 : mj_G RV_c 46 1 3 (.int) := ⟨RV_c, TV_c, 13, rfl, by decide, mj_in (i := 120) (by decide +kernel) (by decide +kernel), rfl, by decide +kernel⟩
theorem gR_67 : mj_G RR_c 67 1 3 (.int) := ⟨RV_c, TV_c, 13, rfl, by decide, mj_in (i := 122) (by decide +kernel) (by decide +kernel), rfl, by decide +kernel⟩
theorem gC_174 : mj_G RC_c 174 1 3 (.int) := ⟨RV_c, TV_c, 13, rfl, by decide, mj_in (i := 123) (by decide +kernel) (by decide +kernel), rfl, by decide +kernel⟩
theorem gV_49 : mj_G RV_c 49 1 4 (.int) := ⟨RV_c, TV_c, 13, rfl, by decide, mj_in (i := 124) (by decide +kernel) (by decide +kernel), rfl, by decide +kernel⟩
theorem gV_9 : mj_GF RV_c 9 1 5 (.array .int) := ⟨RV_c, TV_c, 13, rfl, by decide, mj_in (i := 127) (by decide +kernel) (by decide +kernel), rfl, rfl, by decide +kernel⟩
theorem gV_15 : mj_GF RV_c 15 1 6 (.array .int) := ⟨RV_c, TV_c, 13, rfl, by decide, mj_in (i := 131) (by decide +kernel) (by decide +kernel), rfl, rfl, by decide +kernel⟩
theorem gV_18 : mj_GF RV_c 18 1 7 (.array .int) := ⟨RV_c, TV_c, 13, rfl, by decide, mj_in (i := 135) (by decide +kernel) (by decide +kernel), rfl, rfl, by decide +kernel⟩
theorem gV_21 : mj_GF RV_c 21 1 8 (.array .int) := ⟨RV_c, TV_c, 13, rfl, by decide, mj_in (i := 139) (by decide +kernel) (by decide +kernel), rfl, rfl, by decide +kernel⟩
theorem gV_24 : mj_GF RV_c 24 1 9 (.array .int) := ⟨RV_c, TV_c, 13, rfl, by decide, mj_in (i := 143) (by decide +kernel) (by decide +kernel), rfl, rfl, by decide +kernel⟩
theorem gV_27 : mj_GF RV_c 27 1 10 (.array .int) := ⟨RV_c, TV_c, 13, rfl, by decide, mj_in (i := 147) (by decide +kernel) (by decide +kernel), rfl, rfl, by decide +kernel⟩
theorem gV_30 : mj_GF RV_c 30 1 11 (.array .int) := ⟨RV_c, TV_c, 13, rfl, by decide, mj_in (i := 149) (by decide +kernel) (by decide +kernel), rfl, rfl, by decide +kernel⟩
theorem gV_33 : mj_GF RV_c 33 1 12 (.array .int) := ⟨RV_c, TV_c, 13, rfl, by decide, mj_in (i := 150) (by decide +kernel) (by decide +kernel), rfl, rfl, by decide +kernel⟩
theorem gR_9 : mj_G RR_c 9 2 0 (.array .byte) := ⟨RR_c, TR_c, 4, rfl, by decide, mj_in (i := 187) (by decide +kernel) (by decide +kernel), rfl, by decide +kernel⟩
theorem gR_21 : mj_G RR_c 21 2 1 (.int) := ⟨RR_c, TR_c, 4, rfl, by decide, mj_in (i := 188) (by decide +kernel) (by decide +kernel), rfl, by decide +kernel⟩
theorem gR_25 : mj_G RR_c 25 2 2 (.int) := ⟨RR_c, TR_c, 4, rfl, by decide, mj_in (i := 189) (by decide +kernel) (by decide +kernel), rfl, by decide +kernel⟩
theorem gR_28 : mj_G RR_c 28 2 3 (.int) := ⟨RR_c, TR_c, 4, rfl, by decide, mj_in (i := 190) (by decide +kernel) (by decide +kernel), rfl, by decide +kernel⟩
theorem gA_48 : mj_G RA_c 48 0 0 (.int) := ⟨RA_c, TA_c, 17, rfl, by decide, mj_in (i := 206) (by decide +kernel) (by decide +kernel), rfl, by decide +kernel⟩
theorem gA_52 : mj_G RA_c 52 0 1 (.int) := ⟨RA_c, TA_c, 17, rfl, by decide, mj_in (i := 208) (by decide +kernel) (by decide +kernel), rfl, by decide +kernel⟩
theorem gA_56 : mj_G RA_c 56 0 2 (.int) := ⟨RA_c, TA_c, 17, rfl, by decide, mj_in (i := 209) (by decide +kernel) (by decide +kernel), rfl, by decide +kernel⟩
theorem gC_286 : mj_G RC_c 286 0 2 (.int) := ⟨RA_c, TA_c, 17, rfl, by decide, mj_in (i := 211) (by decide +kernel) (by decide +kernel), rfl, by decide +kernel⟩
theorem gA_57 : mj_G RA_c 57 0 3 (.boolean) := ⟨RA_c, TA_c, 17, rfl, by decide, mj_in (i := 212) (by decide +kernel) (by decide +kernel), rfl, by decide +kernel⟩
theorem gC_231 : mj_G RC_c 231 0 3 (.boolean) := ⟨RA_c, TA_c, 17, rfl, by decide, mj_in (i := 213) (by decide +kernel) (by decide +kernel), rfl, by decide +kernel⟩
theorem gA_64 : mj_G RA_c 64 0 4 (.int) := ⟨RA_c, TA_c, 17, rfl, by decide, mj_in (i := 214) (by decide +kernel) (by decide +kernel), rfl, by decide +kernel⟩
theorem gA_69 : mj_G RA_c 69 0 5 (.int) := ⟨RA_c, TA_c, 17, rfl, by decide, mj_in (i := 216) (by decide +kernel) (by decide +kernel), rfl, by decide +kernel⟩
theorem gA_76 : mj_G RA_c 76 0 6 (.int) := ⟨RA_c, TA_c, 17, rfl, by decide, mj_in (i := 217) (by decide +kernel) (by decide +kernel), rfl, by decide +kernel⟩
theorem gC_293 : mj_G RC_c 293 0 6 (.int) := ⟨RA_c, TA_c, 17, rfl, by decide, mj_in (i := 218) (by decide +kernel) (by decide +kernel), rfl, by decide +kernel⟩
theorem gA_9 : mj_GF RA_c 9 0 7 (.array .int) := ⟨RA_c, TA_c, 17, rfl, by decide, mj_in (i := 219) (by decide +kernel) (by decide +kernel), rfl, rfl, by decide +kernel⟩
theorem gA_15 : mj_GF RA_c 15 0 8 (.array .int) := ⟨RA_c, TA_c, 17, rfl, by decide, mj_in (i := 220) (by decide +kernel) (by decide +kernel), rfl, rfl, by decide +kernel⟩
theorem gA_18 : mj_GF RA_c 18 0 9 (.array .int) := ⟨RA_c, TA_c, 17, rfl, by decide, mj_in (i := 223) (by decide +kernel) (by decide +kernel), rfl, rfl, by decide +kernel⟩
theorem gA_21 : mj_GF RA_c 21 0 10 (.array .int) := ⟨RA_c, TA_c, 17, rfl, by decide, mj_in (i := 224) (by decide +kernel) (by decide +kernel), rfl, rfl, by decide +kernel⟩
theorem gA_24 : mj_GF RA_c 24 0 11 (.array .int) := ⟨RA_c, TA_c, 17, rfl, by decide, mj_in (i := 226) (by decide +kernel) (by decide +kernel), rfl, rfl, by decide +kernel⟩
theorem gA_27 : mj_GF RA_c 27 0 12 (.array .int) := ⟨RA_c, TA_c, 17, rfl, by decide, mj_in (i := 227) (by decide +kernel) (by decide +kernel), rfl, rfl, by decide +kernel⟩
theorem gA_30 : mj_GF RA_c 30 0 13 (.array .int) := ⟨RA_c, TA_c, 17, rfl, by decide, mj_in (i := 228) (by decide +kernel) (by decide +kernel), rfl, rfl, by decide +kernel⟩
theorem gA_33 : mj_GF RA_c 33 0 14 (.array .int) := ⟨RA_c, TA_c, 17, rfl, by decide, mj_in (i := 229) (by decide +kernel) (by decide +kernel), rfl, rfl, by decide +kernel⟩
theorem gA_36 : mj_GF RA_c 36 0 15 (.array .int) := ⟨RA_c, TA_c, 17, rfl, by decide, mj_in (i := 230) (by decide +kernel) (by decide +kernel), rfl, rfl, by decide +kernel⟩
theorem gA_39 : mj_GF RA_c 39 0 16 (.array .int) := ⟨RA_c, TA_c, 17, rfl, by decide, mj_in (i := 232) (by decide +kernel) (by decide +kernel), rfl, rfl, by decide +kernel⟩
theorem gS_9 : mj_GF RS_c 9 3 0 (.array .int) := ⟨RS_c, TS_c, 6, rfl, by decide, mj_in (i := 274) (by decide +kernel) (by decide +kernel), rfl, rfl, by decide +kernel⟩
theorem gS_18 : mj_G RS_c 18 3 1 (.boolean) := ⟨RS_c, TS_c, 6, rfl, by decide, mj_in (i := 275) (by decide +kernel) (by decide +kernel), rfl, by decide +kernel⟩
theorem gS_22 : mj_G RS_c 22 3 2 (.int) := ⟨RS_c, TS_c, 6, rfl, by decide, mj_in (i := 276) (by decide +kernel) (by decide +kernel), rfl, by decide +kernel⟩
theorem gS_15 : mj_GF RS_c 15 3 3 (.array .int) := ⟨RS_c, TS_c, 6, rfl, by decide, mj_in (i := 277) (by decide +kernel) (by decide +kernel), rfl, rfl, by decide +kernel⟩
theorem gS_26 : mj_G RS_c 26 3 4 (.int) := ⟨RS_c, TS_c, 6, rfl, by decide, mj_in (i := 279) (by decide +kernel) (by decide +kernel), rfl, by decide +kernel⟩
theorem gS_39 : mj_G RS_c 39 3 5 (.int) := ⟨RS_c, TS_c, 6, rfl, by decide, mj_in (i := 281) (by decide +kernel) (by decide +kernel), rfl, by decide +kernel⟩
theorem gC_11 : mj_GF RC_c 11 4 0 (.array (.array .int)) := ⟨RC_c, TC_c, 15, rfl, by decide, mj_in (i := 299) (by decide +kernel) (by decide +kernel), rfl, rfl, by decide +kernel⟩
theorem gC_14 : mj_GF RC_c 14 4 1 (.array .int) := ⟨RC_c, TC_c, 15, rfl, by decide, mj_in (i := 300) (by decide +kernel) (by decide +kernel), rfl, rfl, by decide +kernel⟩
theorem gC_20 : mj_GF RC_c 20 4 2 (.array (.array .byte)) := ⟨RC_c, TC_c, 15, rfl, by decide, mj_in (i := 301) (by decide +kernel) (by decide +kernel), rfl, rfl, by decide +kernel⟩
theorem gC_23 : mj_GF RC_c 23 4 3 (.array .int) := ⟨RC_c, TC_c, 15, rfl, by decide, mj_in (i := 302) (by decide +kernel) (by decide +kernel), rfl, rfl, by decide +kernel⟩
theorem gC_29 : mj_GF RC_c 29 4 4 (.object "LampCave$Cave") := ⟨RC_c, TC_c, 15, rfl, by decide, mj_in (i := 303) (by decide +kernel) (by decide +kernel), rfl, rfl, by decide +kernel⟩
theorem gC_33 : mj_GF RC_c 33 4 5 (.object "LampCave$Cave") := ⟨RC_c, TC_c, 15, rfl, by decide, mj_in (i := 304) (by decide +kernel) (by decide +kernel), rfl, rfl, by decide +kernel⟩
theorem gC_36 : mj_GF RC_c 36 4 6 (.array (.object "LampCave$Cave")) := ⟨RC_c, TC_c, 15, rfl, by decide, mj_in (i := 305) (by decide +kernel) (by decide +kernel), rfl, rfl, by decide +kernel⟩
theorem gC_43 : mj_GF RC_c 43 4 7 (.object "LampCave$Reader") := ⟨RC_c, TC_c, 15, rfl, by decide, mj_in (i := 306) (by decide +kernel) (by decide +kernel), rfl, rfl, by decide +kernel⟩
theorem gC_50 : mj_GF RC_c 50 4 8 (.object "LampCave$Aside") := ⟨RC_c, TC_c, 15, rfl, by decide, mj_in (i := 307) (by decide +kernel) (by decide +kernel), rfl, rfl, by decide +kernel⟩
theorem gC_57 : mj_GF RC_c 57 4 9 (.object "LampCave$Search") := ⟨RC_c, TC_c, 15, rfl, by decide, mj_in (i := 308) (by decide +kernel) (by decide +kernel), rfl, rfl, by decide +kernel⟩
theorem gC_61 : mj_GF RC_c 61 4 10 (.array .int) := ⟨RC_c, TC_c, 15, rfl, by decide, mj_in (i := 309) (by decide +kernel) (by decide +kernel), rfl, rfl, by decide +kernel⟩
theorem gC_64 : mj_GF RC_c 64 4 11 (.array .int) := ⟨RC_c, TC_c, 15, rfl, by decide, mj_in (i := 310) (by decide +kernel) (by decide +kernel), rfl, rfl, by decide +kernel⟩
theorem gC_67 : mj_GF RC_c 67 4 12 (.array .int) := ⟨RC_c, TC_c, 15, rfl, by decide, mj_in (i := 311) (by decide +kernel) (by decide +kernel), rfl, rfl, by decide +kernel⟩
theorem gC_70 : mj_G RC_c 70 4 13 (.int) := ⟨RC_c, TC_c, 15, rfl, by decide, mj_in (i := 312) (by decide +kernel) (by decide +kernel), rfl, by decide +kernel⟩
theorem gC_74 : mj_G RC_c 74 4 14 (.int) := ⟨RC_c, TC_c, 15, rfl, by decide, mj_in (i := 313) (by decide +kernel) (by decide +kernel), rfl, by decide +kernel⟩
theorem gM_86 : mj_G RM_c 86 5 0 (.int) := ⟨RM_c, TM_c, 45, rfl, by decide, mj_in (i := 902) (by decide +kernel) (by decide +kernel), rfl, by decide +kernel⟩
theorem gM_7 : mj_GF RM_c 7 5 1 (.array .int) := ⟨RM_c, TM_c, 45, rfl, by decide, mj_in (i := 903) (by decide +kernel) (by decide +kernel), rfl, rfl, by decide +kernel⟩
theorem gM_89 : mj_G RM_c 89 5 2 (.int) := ⟨RM_c, TM_c, 45, rfl, by decide, mj_in (i := 904) (by decide +kernel) (by decide +kernel), rfl, by decide +kernel⟩
theorem gM_13 : mj_GF RM_c 13 5 3 (.array .int) := ⟨RM_c, TM_c, 45, rfl, by decide, mj_in (i := 905) (by decide +kernel) (by decide +kernel), rfl, rfl, by decide +kernel⟩
theorem gM_16 : mj_GF RM_c 16 5 4 (.array .int) := ⟨RM_c, TM_c, 45, rfl, by decide, mj_in (i := 906) (by decide +kernel) (by decide +kernel), rfl, rfl, by decide +kernel⟩
theorem gM_19 : mj_GF RM_c 19 5 5 (.array .int) := ⟨RM_c, TM_c, 45, rfl, by decide, mj_in (i := 907) (by decide +kernel) (by decide +kernel), rfl, rfl, by decide +kernel⟩
theorem gM_22 : mj_GF RM_c 22 5 6 (.array .int) := ⟨RM_c, TM_c, 45, rfl, by decide, mj_in (i := 908) (by decide +kernel) (by decide +kernel), rfl, rfl, by decide +kernel⟩
theorem gM_25 : mj_GF RM_c 25 5 7 (.array .int) := ⟨RM_c, TM_c, 45, rfl, by decide, mj_in (i := 909) (by decide +kernel) (by decide +kernel), rfl, rfl, by decide +kernel⟩
theorem gM_161 : mj_G RM_c 161 5 8 (.int) := ⟨RM_c, TM_c, 45, rfl, by decide, mj_in (i := 910) (by decide +kernel) (by decide +kernel), rfl, by decide +kernel⟩
theorem gM_164 : mj_G RM_c 164 5 9 (.int) := ⟨RM_c, TM_c, 45, rfl, by decide, mj_in (i := 911) (by decide +kernel) (by decide +kernel), rfl, by decide +kernel⟩
theorem gM_167 : mj_G RM_c 167 5 10 (.int) := ⟨RM_c, TM_c, 45, rfl, by decide, mj_in (i := 912) (by decide +kernel) (by decide +kernel), rfl, by decide +kernel⟩
theorem gM_170 : mj_G RM_c 170 5 11 (.int) := ⟨RM_c, TM_c, 45, rfl, by decide, mj_in (i := 913) (by decide +kernel) (by decide +kernel), rfl, by decide +kernel⟩
theorem gM_28 : mj_GF RM_c 28 5 12 (.array .int) := ⟨RM_c, TM_c, 45, rfl, by decide, mj_in (i := 914) (by decide +kernel) (by decide +kernel), rfl, rfl, by decide +kernel⟩
theorem gM_31 : mj_GF RM_c 31 5 13 (.array .int) := ⟨RM_c, TM_c, 45, rfl, by decide, mj_in (i := 915) (by decide +kernel) (by decide +kernel), rfl, rfl, by decide +kernel⟩
theorem gM_34 : mj_GF RM_c 34 5 14 (.array .int) := ⟨RM_c, TM_c, 45, rfl, by decide, mj_in (i := 916) (by decide +kernel) (by decide +kernel), rfl, rfl, by decide +kernel⟩
theorem gM_37 : mj_GF RM_c 37 5 15 (.array .int) := ⟨RM_c, TM_c, 45, rfl, by decide, mj_in (i := 917) (by decide +kernel) (by decide +kernel), rfl, rfl, by decide +kernel⟩
theorem gM_40 : mj_GF RM_c 40 5 16 (.array .int) := ⟨RM_c, TM_c, 45, rfl, by decide, mj_in (i := 918) (by decide +kernel) (by decide +kernel), rfl, rfl, by decide +kernel⟩
theorem gM_127 : mj_G RM_c 127 5 17 (.int) := ⟨RM_c, TM_c, 45, rfl, by decide, mj_in (i := 919) (by decide +kernel) (by decide +kernel), rfl, by decide +kernel⟩
theorem gM_149 : mj_G RM_c 149 5 18 (.int) := ⟨RM_c, TM_c, 45, rfl, by decide, mj_in (i := 920) (by decide +kernel) (by decide +kernel), rfl, by decide +kernel⟩
theorem gM_137 : mj_G RM_c 137 5 19 (.int) := ⟨RM_c, TM_c, 45, rfl, by decide, mj_in (i := 921) (by decide +kernel) (by decide +kernel), rfl, by decide +kernel⟩
theorem gM_140 : mj_G RM_c 140 5 20 (.int) := ⟨RM_c, TM_c, 45, rfl, by decide, mj_in (i := 922) (by decide +kernel) (by decide +kernel), rfl, by decide +kernel⟩
theorem gM_143 : mj_G RM_c 143 5 21 (.int) := ⟨RM_c, TM_c, 45, rfl, by decide, mj_in (i := 923) (by decide +kernel) (by decide +kernel), rfl, by decide +kernel⟩
theorem gM_43 : mj_G RM_c 43 5 22 (.int) := ⟨RM_c, TM_c, 45, rfl, by decide, mj_in (i := 924) (by decide +kernel) (by decide +kernel), rfl, by decide +kernel⟩
theorem gM_47 : mj_GF RM_c 47 5 23 (.array .int) := ⟨RM_c, TM_c, 45, rfl, by decide, mj_in (i := 925) (by decide +kernel) (by decide +kernel), rfl, rfl, by decide +kernel⟩
theorem gM_173 : mj_G RM_c 173 5 24 (.int) := ⟨RM_c, TM_c, 45, rfl, by decide, mj_in (i := 926) (by decide +kernel) (by decide +kernel), rfl, by decide +kernel⟩
theorem gM_50 : mj_G RM_c 50 5 25 (.int) := ⟨RM_c, TM_c, 45, rfl, by decide, mj_in (i := 927) (by decide +kernel) (by decide +kernel), rfl, by decide +kernel⟩
theorem gM_53 : mj_GF RM_c 53 5 26 (.array .int) := ⟨RM_c, TM_c, 45, rfl, by decide, mj_in (i := 928) (by decide +kernel) (by decide +kernel), rfl, rfl, by decide +kernel⟩
theorem gM_56 : mj_GF RM_c 56 5 27 (.array .int) := ⟨RM_c, TM_c, 45, rfl, by decide, mj_in (i := 929) (by decide +kernel) (by decide +kernel), rfl, rfl, by decide +kernel⟩
theorem gM_59 : mj_GF RM_c 59 5 28 (.array .int) := ⟨RM_c, TM_c, 45, rfl, by decide, mj_in (i := 930) (by decide +kernel) (by decide +kernel), rfl, rfl, by decide +kernel⟩
theorem gM_62 : mj_GF RM_c 62 5 29 (.array .int) := ⟨RM_c, TM_c, 45, rfl, by decide, mj_in (i := 931) (by decide +kernel) (by decide +kernel), rfl, rfl, by decide +kernel⟩
theorem gM_65 : mj_GF RM_c 65 5 30 (.array .int) := ⟨RM_c, TM_c, 45, rfl, by decide, mj_in (i := 932) (by decide +kernel) (by decide +kernel), rfl, rfl, by decide +kernel⟩
theorem gM_225 : mj_G RM_c 225 5 31 (.int) := ⟨RM_c, TM_c, 45, rfl, by decide, mj_in (i := 933) (by decide +kernel) (by decide +kernel), rfl, by decide +kernel⟩
theorem gM_68 : mj_GF RM_c 68 5 32 (.array .int) := ⟨RM_c, TM_c, 45, rfl, by decide, mj_in (i := 934) (by decide +kernel) (by decide +kernel), rfl, rfl, by decide +kernel⟩
theorem gM_244 : mj_G RM_c 244 5 33 (.int) := ⟨RM_c, TM_c, 45, rfl, by decide, mj_in (i := 935) (by decide +kernel) (by decide +kernel), rfl, by decide +kernel⟩
theorem gM_71 : mj_GF RM_c 71 5 34 (.array .int) := ⟨RM_c, TM_c, 45, rfl, by decide, mj_in (i := 936) (by decide +kernel) (by decide +kernel), rfl, rfl, by decide +kernel⟩
theorem gM_74 : mj_GF RM_c 74 5 35 (.array .int) := ⟨RM_c, TM_c, 45, rfl, by decide, mj_in (i := 937) (by decide +kernel) (by decide +kernel), rfl, rfl, by decide +kernel⟩
theorem gM_77 : mj_GF RM_c 77 5 36 (.array .int) := ⟨RM_c, TM_c, 45, rfl, by decide, mj_in (i := 938) (by decide +kernel) (by decide +kernel), rfl, rfl, by decide +kernel⟩
theorem gM_257 : mj_G RM_c 257 5 37 (.int) := ⟨RM_c, TM_c, 45, rfl, by decide, mj_in (i := 939) (by decide +kernel) (by decide +kernel), rfl, by decide +kernel⟩
theorem gM_278 : mj_G RM_c 278 5 38 (.int) := ⟨RM_c, TM_c, 45, rfl, by decide, mj_in (i := 940) (by decide +kernel) (by decide +kernel), rfl, by decide +kernel⟩
theorem gM_80 : mj_GF RM_c 80 5 39 (.array .int) := ⟨RM_c, TM_c, 45, rfl, by decide, mj_in (i := 941) (by decide +kernel) (by decide +kernel), rfl, rfl, by decide +kernel⟩
theorem gM_83 : mj_GF RM_c 83 5 40 (.array .int) := ⟨RM_c, TM_c, 45, rfl, by decide, mj_in (i := 942) (by decide +kernel) (by decide +kernel), rfl, rfl, by decide +kernel⟩
theorem gM_291 : mj_G RM_c 291 5 41 (.int) := ⟨RM_c, TM_c, 45, rfl, by decide, mj_in (i := 943) (by decide +kernel) (by decide +kernel), rfl, by decide +kernel⟩
theorem gM_287 : mj_G RM_c 287 5 42 (.boolean) := ⟨RM_c, TM_c, 45, rfl, by decide, mj_in (i := 944) (by decide +kernel) (by decide +kernel), rfl, by decide +kernel⟩
theorem gM_297 : mj_G RM_c 297 5 43 (.int) := ⟨RM_c, TM_c, 45, rfl, by decide, mj_in (i := 945) (by decide +kernel) (by decide +kernel), rfl, by decide +kernel⟩
theorem gM_325 : mj_G RM_c 325 5 44 (.long) := ⟨RM_c, TM_c, 45, rfl, by decide, mj_in (i := 946) (by decide +kernel) (by decide +kernel), rfl, by decide +kernel⟩
end
section
/-- code that several ways come to -/
def mb_jn {α β : Type} (k : α) (b : α → Option β) : Option β := b k
theorem mb_jn_e {α β : Type} {k : α} {b : α → Option β} {out : β} (h : mb_jn k b = some out) : ∃ j, j = k ∧ b j = some out := ⟨k, rfl, h⟩
theorem vC_isOfKind_st : Cond.static yC_isOfKind ∈ mj_ws := mj_in (i := 489) (by decide +kernel) (by decide +kernel)
end
section
/-! rows that make cells -/
/-! ===== BEGIN new T[n][m]: the outer array a place, the inner ones among the pooled ===== -/
/-- f, but v at every address of l -/
def vr_up {α : Type} (f : Nat → α) (l : List Nat) (v : α) : Nat → α := fun a => if a ∈ l then v else f a
theorem vr_up_in {α : Type} {f : Nat → α} {l : List Nat} {v : α} {a : Nat} (h : a ∈ l) : vr_up f l v a = v := if_pos h
theorem vr_up_ne {α : Type} {f : Nat → α} {l : List Nat} {v : α} {a : Nat} (h : a ∉ l) : vr_up f l v a = f a := if_neg h
theorem vr_rows {L l : List Nat} {f : Nat → va_E} {e : va_E} (h : ∀ a, a ∈ l → a ∉ L) : va_pl L f ++ l.map (fun a => (a, e)) = va_pl (L ++ l) (vr_up f l e) := by
  unfold va_pl
  rw [List.map_append]
  congr 1
  · apply List.map_congr_left
    intro a ha
    rw [vr_up_ne (fun q => h a q ha)]
  · apply List.map_congr_left
    intro a ha
    rw [vr_up_in ha]
theorem vr_lay {X rows : va_W} {x : Nat × va_E} {pl : va_W} {D : va_G} {cl : List vw_C} {H : Heap} (hP : va_P D cl (((X ++ pl) ++ [x]) ++ rows) H) : va_P D cl ((X ++ [x]) ++ (pl ++ rows)) H := by
  rw [List.append_assoc (X ++ pl)] at hP
  have h := va_P.swap hP
  rw [← List.append_assoc X] at h
  have h2 := va_P.swap h
  rw [List.append_assoc (X ++ [x])] at h2
  exact h2
theorem vr_layD {X rows : va_W} {x : Nat × va_E} {pl : va_W} {A : Nat → Prop} (hD : va_D A (((X ++ pl) ++ [x]) ++ rows)) : va_D A ((X ++ [x]) ++ (pl ++ rows)) := by
  rw [List.append_assoc (X ++ pl)] at hD
  have h := va_D.swap hD
  rw [← List.append_assoc X] at h
  have h2 := va_D.swap h
  rw [List.append_assoc (X ++ [x])] at h2
  exact h2
theorem vr_outer (c : ClassId) (N h0 : Nat) : ∀ i : Nat, Jvm.Free.Multi.outerC c N h0 i = arrV c N (fun j => va_rf (if j < i then some (h0 + 1 + j) else none))
  | 0 => by
    show ({ cls := c, slots := Array.replicate N .null, vm := .none } : Cell) = _
    rw [arrV_new]
    refine congrArg (arrV c N) (funext fun j => ?_)
    simp [va_rf]
  | i + 1 => by
    show (Jvm.Free.Multi.outerC c N h0 i).setSlot i (.ref (h0 + 1 + i)) = _
    rw [vr_outer c N h0 i, arrV_store]
    refine congrArg (arrV c N) (funext fun j => ?_)
    by_cases e : j = i
    · subst e
      simp [updV, va_rf]
    · by_cases h : j < i
      · simp [updV, e, h, Nat.lt_succ_of_lt h]
      · simp [updV, e, h, show ¬ j < i + 1 by omega]
section VGM
variable {p : Program} {l : Launch} {e : Env} {R : Room} {s : State} {m : MethodId} {args : Array Value} {below : List Frame} {meth : Method} {c : Code} {H : Heap} {locs : List Loc} {cells slots : Nat} {Q : State → Prop}
variable {cc : ByteArray} {pc : Nat} {ls : Array Slot} {rest : List Value} {D : va_G} {cl : List vw_C} {A : Nat → Prop} {a : Nat} {tys : List (ClassId × FieldType)} {ws : va_W} {H0 : Heap}
theorem va_mna {X : va_W} {L : List Nat} {f : Nat → va_E} {cc : ByteArray} (hexec : p.tables.exec = Jvm.exec) (hb : c.code = cc) {own : String} {index : Nat} {ty : FieldType} {cy : ClassId} (hown : s.vm.findClass own = some m.cls) (hclink : (Cond.classLink own index ("[" ++ (FieldType.array ty).toString)).before args s = true) (hover : va_AOA ty s) (harr : (Cond.arrayClass ty).before args s = true) (hcy : s.vm.findClass (FieldType.array ty).toString = some cy)
    (hK : va_K D cl tys s) (hP : va_P D cl (X ++ va_pl L f) H) (hD : va_D A (X ++ va_pl L f)) (hS : va_S A H0 H locs) (hA : ∀ q, H0.size ≤ q → A q) {n k : Int32} {N' K' : Nat} {z : vp_A} (hn : ¬ n < 0) (hk : ¬ k < 0) (hN : n.toNatClampNeg = N') (hM : k.toNatClampNeg = K')
    (hb1 : N' * 4 ≤ 536870912) (hb2 : K' * componentBytes ty ≤ 536870912) (hb3 : K' ≤ 536870912) (hdf : fits ty (defaultValue ty) = true) (hdd : (defaultValue ty).isDefault = true) (hcells : cells + (1 + N') ≤ R.cells) (hslots : slots + (N' + N' * K') ≤ R.slots) (hz : ∀ c : ClassId, Jvm.Free.Multi.innerC c K' (defaultValue ty) = vp_cell c z) (hdg : decode cc pc = .ok (.multianewarray index 2, 4))
    (kk : ∀ (q : Nat) (r : Nat → Nat) (cA : ClassId) (H1 : Heap), (∀ i j : Nat, i < N' → j < N' → r i = r j → i = j) → (∀ i : Nat, i < N' → r i ∉ L) → va_K D cl (tys ++ [(cA, .array ty)]) s →
      va_P D cl ((X ++ [(q, .inl (cA, N', .inr (.inr (.inr (.inr (fun i => if i < N' then some (r i) else none))))))]) ++ va_pl (L ++ (List.range N').map r) (vr_up f ((List.range N').map r) (.inl (cy, z)))) H1 → va_D A ((X ++ [(q, .inl (cA, N', .inr (.inr (.inr (.inr (fun i => if i < N' then some (r i) else none))))))]) ++ va_pl (L ++ (List.range N').map r) (vr_up f ((List.range N').map r) (.inl (cy, z)))) → va_S A H0 H1 locs →
      W p l e R s m args below meth c H1 locs (cells + 1 + N') (slots + N' + N' * K') Q (F0 m (pc + 4) ls (.ref q :: rest))) : W p l e R s m args below meth c H locs cells slots Q (F0 m pc ls (.int k :: .int n :: rest)) := by
  subst hN
  subst hM
  intro T hT Xs
  obtain ⟨vm₁, cA, comp, -, fA, fC, hO, -, X', step⟩ := Xs.multianewarray2F hexec hown hclink (va_AOA.use hover) harr (g := F0 m pc ls (.int k :: .int n :: rest)) rfl (by rw [hb]; exact hdg) rfl hn hk hb1 hb2 hb3 hdf hdd hcells hslots
  have ec : some cy = some comp := hcy.symm.trans fC
  cases ec
  generalize hF : Jvm.Free.Multi.fill (T.setVm vm₁) cA cy n.toNatClampNeg k.toNatClampNeg (defaultValue ty) n.toNatClampNeg = F at X' step
  have hTh : (T.setVm vm₁).heap = H := hT
  obtain ⟨f1, f2, -, -⟩ := Jvm.Free.Multi.fill_facts (T.setVm vm₁) cA cy n.toNatClampNeg k.toNatClampNeg (defaultValue ty) n.toNatClampNeg
  rw [hF, hTh] at f1 f2
  have hold : ∀ x : Nat, x < H.size → F.heap[x]? = H[x]? := fun x hx => by
    have := Jvm.Free.Multi.fill_old (T.setVm vm₁) cA cy n.toNatClampNeg k.toNatClampNeg (defaultValue ty) (a := x) (by rw [hTh]; exact hx) n.toNatClampNeg
    rw [hF, hTh] at this
    exact this
  have hrow : ∀ j : Nat, j < n.toNatClampNeg → F.heap[H.size + 1 + j]? = some (vp_cell cy z) := fun j hj => by
    have := Jvm.Free.Multi.fill_inner (T.setVm vm₁) cA cy n.toNatClampNeg k.toNatClampNeg (defaultValue ty) n.toNatClampNeg j hj
    rw [hF, hTh, hz] at this
    exact this
  have hout : Jvm.Free.Multi.outerC cA n.toNatClampNeg H.size n.toNatClampNeg = vp_cell cA (n.toNatClampNeg, .inr (.inr (.inr (.inr (fun i => if i < n.toNatClampNeg then some (H.size + 1 + i) else none))))) := by
    rw [vp_cell_q]
    exact vr_outer cA n.toNatClampNeg H.size n.toNatClampNeg
  rw [hout] at f2
  have hlt : ∀ a, a ∈ L → a < H.size := fun a ha => by
    obtain ⟨k9, hk9⟩ := va_pl_get (X := X) (f := f) ha
    exact (hP k9 _ hk9).lt
  have hnl : ∀ i : Nat, i < n.toNatClampNeg → H.size + 1 + i ∉ L := fun i _ h => by
    have := hlt _ h
    omega
  have hnm : ∀ a, a ∈ (List.range n.toNatClampNeg).map (fun i => H.size + 1 + i) → a ∉ L := fun a ha h => by
    obtain ⟨i, -, rfl⟩ := List.mem_map.mp ha
    have := hlt _ h
    omega
  have hP0 : va_P D cl (X ++ va_pl L f) F.heap := hP.kept (fun k9 x hx => hold x.1 ((hP k9 x hx).lt))
  have hP1 : va_P D cl ((X ++ va_pl L f) ++ [(H.size, .inl (cA, n.toNatClampNeg, .inr (.inr (.inr (.inr (fun i => if i < n.toNatClampNeg then some (H.size + 1 + i) else none))))))]) F.heap := hP0.app (fun k9 x hx => by
    have h0 : k9 < 1 := (List.getElem?_eq_some_iff.mp hx).1
    rw [show k9 = 0 by omega] at hx
    cases hx
    exact f2)
  have hP2 : va_P D cl (((X ++ va_pl L f) ++ [(H.size, .inl (cA, n.toNatClampNeg, .inr (.inr (.inr (.inr (fun i => if i < n.toNatClampNeg then some (H.size + 1 + i) else none))))))]) ++ ((List.range n.toNatClampNeg).map (fun i => H.size + 1 + i)).map (fun a => (a, .inl (cy, z)))) F.heap := hP1.app (fun k9 x hx => by
    obtain ⟨a, ha, rfl⟩ := List.mem_map.mp (List.mem_of_getElem? hx)
    obtain ⟨i, hi, rfl⟩ := List.mem_map.mp ha
    exact hrow i (List.mem_range.mp hi))
  have hD2 : va_D A (((X ++ va_pl L f) ++ [(H.size, .inl (cA, n.toNatClampNeg, .inr (.inr (.inr (.inr (fun i => if i < n.toNatClampNeg then some (H.size + 1 + i) else none))))))]) ++ ((List.range n.toNatClampNeg).map (fun i => H.size + 1 + i)).map (fun a => (a, .inl (cy, z)))) := by
    have hD1 := hD.push (e := .inl (cA, n.toNatClampNeg, .inr (.inr (.inr (.inr (fun i => if i < n.toNatClampNeg then some (H.size + 1 + i) else none)))))) hP rfl (hA _ hS.1)
    generalize hW1 : (X ++ va_pl L f) ++ [(H.size, .inl (cA, n.toNatClampNeg, .inr (.inr (.inr (.inr (fun i => if i < n.toNatClampNeg then some (H.size + 1 + i) else none))))))] = W1 at hD1 hP1 ⊢
    have hle : ∀ (k9 : Nat) (x : Nat × va_E), W1[k9]? = some x → x.1 ≤ H.size := fun k9 x hx => by
      rw [← hW1] at hx
      by_cases hl : k9 < (X ++ va_pl L f).length
      · rw [List.getElem?_append_left hl] at hx
        exact Nat.le_of_lt ((hP k9 x hx).lt)
      · rw [List.getElem?_append_right (by omega)] at hx
        have h0 : k9 - (X ++ va_pl L f).length < 1 := (List.getElem?_eq_some_iff.mp hx).1
        rw [show k9 - (X ++ va_pl L f).length = 0 by omega] at hx
        cases hx
        exact Nat.le_refl _
    have hr : ∀ (k9 : Nat) (x : Nat × va_E), (((List.range n.toNatClampNeg).map (fun i => H.size + 1 + i)).map (fun a => ((a, .inl (cy, z)) : Nat × va_E)))[k9]? = some x → x.1 = H.size + 1 + k9 := fun k9 x hx => by
      rw [List.getElem?_map, List.getElem?_map] at hx
      by_cases h9 : k9 < n.toNatClampNeg
      · rw [List.getElem?_range h9] at hx
        cases hx
        rfl
      · have hn0 : (List.range n.toNatClampNeg)[k9]? = none := List.getElem?_eq_none (by rw [List.length_range]; omega)
        rw [hn0] at hx
        cases hx
    refine ⟨fun i j x y hi hj hxy => ?_, fun k9 x hx => ?_⟩
    · by_cases h1 : i < W1.length <;> by_cases h2 : j < W1.length
      · rw [List.getElem?_append_left h1] at hi
        rw [List.getElem?_append_left h2] at hj
        exact hD1.1 i j x y hi hj hxy
      · rw [List.getElem?_append_left h1] at hi
        rw [List.getElem?_append_right (by omega)] at hj
        have := hle _ _ hi
        have := hr _ _ hj
        omega
      · rw [List.getElem?_append_right (by omega)] at hi
        rw [List.getElem?_append_left h2] at hj
        have := hle _ _ hj
        have := hr _ _ hi
        omega
      · rw [List.getElem?_append_right (by omega)] at hi hj
        have := hr _ _ hi
        have := hr _ _ hj
        omega
    · by_cases h1 : k9 < W1.length
      · rw [List.getElem?_append_left h1] at hx
        exact hD1.2 k9 x hx
      · rw [List.getElem?_append_right (by omega)] at hx
        have := hr _ _ hx
        exact hA _ (by have := hS.1; omega)
  have hAr : ArrOfT s cA (.array ty) := fun N9 z9 => by
    obtain ⟨-, k9, hk9, cm9, hkk9⟩ := (hO 0 0 0).1
    exact ⟨(fun q hq => by cases hq), k9, hk9, cm9, hkk9⟩
  have hK2 : va_K D cl (tys ++ [(cA, .array ty)]) s := ⟨hK.1, fun k9 x hx => by
    by_cases hl : k9 < tys.length
    · rw [List.getElem?_append_left hl] at hx
      exact hK.2 k9 x hx
    · rw [List.getElem?_append_right (by omega)] at hx
      have h0 : k9 - tys.length < 1 := (List.getElem?_eq_some_iff.mp hx).1
      rw [show k9 - tys.length = 0 by omega] at hx
      cases hx
      exact ⟨hAr, fA⟩⟩
  obtain ⟨t, a1, b1⟩ := kk H.size (fun i => H.size + 1 + i) cA F.heap (fun i j _ _ h => by have h9 : H.size + 1 + i = H.size + 1 + j := h; omega) hnl hK2 (by rw [← vr_rows hnm]; exact vr_lay hP2) (by rw [← vr_rows hnm]; exact vr_layD hD2) ⟨by rw [f1]; have := hS.1; omega, fun x h1 h2 => (hold x (Nat.lt_of_lt_of_le h1 hS.1)).trans (hS.2.1 x h1 h2), hS.2.2⟩ F rfl X'
  refine ⟨t, step t ?_, b1⟩
  have e : T.heap.size = H.size := by rw [hT]
  rw [e]
  exact a1
end VGM
/-! ===== END ===== -/
theorem mj_acI : Cond.arrayClass .int ∈ mj_ws := mj_in (i := 178) (by decide +kernel) (by decide +kernel)
theorem mj_acB : Cond.arrayClass .byte ∈ mj_ws := mj_in (i := 179) (by decide +kernel) (by decide +kernel)
theorem mj_oi : Cond.instanceMethod Lib.objectInit ∈ mj_ws ∧ Cond.code Lib.objectInit ⟨#[0xb1]⟩ 1 none ∈ mj_ws := ⟨mj_in (i := 97) (by decide +kernel) (by decide +kernel), mj_in (i := 98) (by decide +kernel) (by decide +kernel)⟩
theorem oi_C : Cond.methodLink RC_c 1 Lib.objectInit ∈ mj_ws := mj_in (i := 96) (by decide +kernel) (by decide +kernel)
theorem oi_V : Cond.methodLink RV_c 3 Lib.objectInit ∈ mj_ws := mj_in (i := 108) (by decide +kernel) (by decide +kernel)
theorem oi_R : Cond.methodLink RR_c 3 Lib.objectInit ∈ mj_ws := mj_in (i := 186) (by decide +kernel) (by decide +kernel)
theorem oi_A : Cond.methodLink RA_c 3 Lib.objectInit ∈ mj_ws := mj_in (i := 205) (by decide +kernel) (by decide +kernel)
theorem oi_S : Cond.methodLink RS_c 3 Lib.objectInit ∈ mj_ws := mj_in (i := 273) (by decide +kernel) (by decide +kernel)
theorem oi_M : Cond.methodLink RM_c 1 Lib.objectInit ∈ mj_ws := mj_in (i := 901) (by decide +kernel) (by decide +kernel)
theorem nwL_7 : Cond.classLink RL_c 7 RC_c ∈ mj_ws ∧ Cond.instantiable RC_c 15 ∈ mj_ws ∧ Cond.initialized RC_c ∈ mj_ws := ⟨mj_in (i := 91) (by decide +kernel) (by decide +kernel), mj_in (i := 92) (by decide +kernel) (by decide +kernel), mj_in (i := 81) (by decide +kernel) (by decide +kernel)⟩
theorem nwL_10 : Cond.classLink RL_c 10 RM_c ∈ mj_ws ∧ Cond.instantiable RM_c 45 ∈ mj_ws ∧ Cond.initialized RM_c ∈ mj_ws := ⟨mj_in (i := 896) (by decide +kernel) (by decide +kernel), mj_in (i := 897) (by decide +kernel) (by decide +kernel), mj_in (i := 87) (by decide +kernel) (by decide +kernel)⟩
theorem nwC_26 : Cond.classLink RC_c 26 RV_c ∈ mj_ws ∧ Cond.instantiable RV_c 13 ∈ mj_ws ∧ Cond.initialized RV_c ∈ mj_ws := ⟨mj_in (i := 103) (by decide +kernel) (by decide +kernel), mj_in (i := 104) (by decide +kernel) (by decide +kernel), mj_in (i := 82) (by decide +kernel) (by decide +kernel)⟩
theorem nwC_40 : Cond.classLink RC_c 40 RR_c ∈ mj_ws ∧ Cond.instantiable RR_c 4 ∈ mj_ws ∧ Cond.initialized RR_c ∈ mj_ws := ⟨mj_in (i := 181) (by decide +kernel) (by decide +kernel), mj_in (i := 182) (by decide +kernel) (by decide +kernel), mj_in (i := 83) (by decide +kernel) (by decide +kernel)⟩
theorem nwC_47 : Cond.classLink RC_c 47 RA_c ∈ mj_ws ∧ Cond.instantiable RA_c 17 ∈ mj_ws ∧ Cond.initialized RA_c ∈ mj_ws := ⟨mj_in (i := 200) (by decide +kernel) (by decide +kernel), mj_in (i := 201) (by decide +kernel) (by decide +kernel), mj_in (i := 84) (by decide +kernel) (by decide +kernel)⟩
theorem nwC_54 : Cond.classLink RC_c 54 RS_c ∈ mj_ws ∧ Cond.instantiable RS_c 6 ∈ mj_ws ∧ Cond.initialized RS_c ∈ mj_ws := ⟨mj_in (i := 268) (by decide +kernel) (by decide +kernel), mj_in (i := 269) (by decide +kernel) (by decide +kernel), mj_in (i := 85) (by decide +kernel) (by decide +kernel)⟩
theorem cl_9 : Cond.classLink RC_c 9 "[[I" ∈ mj_ws := mj_in (i := 99) (by decide +kernel) (by decide +kernel)
theorem cl_18 : Cond.classLink RC_c 18 "[[B" ∈ mj_ws := mj_in (i := 101) (by decide +kernel) (by decide +kernel)
theorem cl_26 : Cond.classLink RC_c 26 "LampCave$Cave" ∈ mj_ws := mj_in (i := 103) (by decide +kernel) (by decide +kernel)
theorem inC : Cond.methodLink RL_c 9 yC_init ∈ mj_ws ∧ Cond.instanceMethod yC_init ∈ mj_ws := ⟨mj_in (i := 93) (by decide +kernel) (by decide +kernel), mj_in (i := 94) (by decide +kernel) (by decide +kernel)⟩
theorem inM : Cond.methodLink RL_c 12 yM_init ∈ mj_ws ∧ Cond.instanceMethod yM_init ∈ mj_ws := ⟨mj_in (i := 898) (by decide +kernel) (by decide +kernel), mj_in (i := 899) (by decide +kernel) (by decide +kernel)⟩
theorem inV : Cond.instanceMethod yV_init ∈ mj_ws := mj_in (i := 106) (by decide +kernel) (by decide +kernel)
theorem inR : Cond.instanceMethod yR_init ∈ mj_ws := mj_in (i := 184) (by decide +kernel) (by decide +kernel)
theorem inA : Cond.instanceMethod yA_init ∈ mj_ws := mj_in (i := 203) (by decide +kernel) (by decide +kernel)
theorem inS : Cond.instanceMethod yS_init ∈ mj_ws := mj_in (i := 271) (by decide +kernel) (by decide +kernel)
def df_A : List Value := [.int 0, .int 0, .int 0, .int 0, .int 0, .int 0, .int 0, .null, .null, .null, .null, .null, .null, .null, .null, .null, .null]
def df_V : List Value := [.int 0, .int 0, .int 0, .int 0, .int 0, .null, .null, .null, .null, .null, .null, .null, .null]
def df_R : List Value := [.null, .int 0, .int 0, .int 0]
def df_S : List Value := [.null, .int 0, .int 0, .null, .int 0, .int 0]
def df_C : List Value := [.null, .null, .null, .null, .null, .null, .null, .null, .null, .null, .null, .null, .null, .int 0, .int 0]
def df_M : List Value := [.int 0, .null, .int 0, .null, .null, .null, .null, .null, .int 0, .int 0, .int 0, .int 0, .null, .null, .null, .null, .null, .int 0, .int 0, .int 0, .int 0, .int 0, .int 0, .null, .int 0, .int 0, .null, .null, .null, .null, .null, .int 0, .null, .int 0, .null, .null, .null, .int 0, .int 0, .null, .null, .int 0, .int 0, .int 0, .long 0]
theorem mj_e_agree {ad ad' : Nat → Nat} {cA : Nat → ClassId} {L : List Nat} (ha : ∀ i ∈ L, ad' i = ad i) (h9 : ad' 999 = ad 999) {x : mj_E} (hx : mj_re L x) : mj_e ad' cA x = mj_e ad cA x := by
  match x, hx with
  | .inr (c, fs), hx =>
    show Sum.inr (c, fs.map (mj_v ad')) = Sum.inr (c, fs.map (mj_v ad))
    rw [List.map_congr_left (fun w hw => mj_v_agree ha h9 (hx w hw))]
  | .inl (t, (n, .inl f)), _ => rfl
  | .inl (t, (n, .inr (.inl f))), _ => rfl
  | .inl (t, (n, .inr (.inr (.inl f)))), _ => rfl
  | .inl (t, (n, .inr (.inr (.inr (.inl f))))), _ => rfl
  | .inl (t, (n, .inr (.inr (.inr (.inr f))))), hx =>
    show (Sum.inl (cA t, n, .inr (.inr (.inr (.inr (fun j => (f j).map ad'))))) : va_E) = Sum.inl (cA t, n, .inr (.inr (.inr (.inr (fun j => (f j).map ad)))))
    have : (fun j => (f j).map ad') = (fun j => (f j).map ad) := by
      funext j
      cases hf : f j with
      | none => rfl
      | some i => show some (ad' i) = some (ad i); rw [ha i (hx n f rfl j i hf)]
    rw [this]
theorem mj_re_mono {L L2 : List Nat} (hL : ∀ i ∈ L, i ∈ L2) {x : mj_E} (hx : mj_re L x) : mj_re L2 x := by
  match x, hx with
  | .inr (c, fs), hx => exact fun w hw i hi => hL i (hx w hw i hi)
  | .inl (t, a), hx => exact fun n f e j i hi => hL i (hx n f e j i hi)
/-- the state with one cell more -/
def mj_nw (S : mj_S) (i : Nat) (x : mj_E) : mj_S := (S.1 ++ [i], fun j => if j = i then x else S.2 j)
def mj_ad (ad : Nat → Nat) (i q : Nat) : Nat → Nat := fun j => if j = i then q else ad j
theorem mj_w_nw {ad : Nat → Nat} {cA : Nat → ClassId} {S : mj_S} {i q : Nat} {x : mj_E} (hcs : mj_cs S) (hi : i ∉ S.1) (h9 : i ≠ 999) (hx : mj_re S.1 x) : mj_w (mj_ad ad i q) cA (mj_nw S i x) = mj_w ad cA S ++ [(q, mj_e ad cA x)] := by
  have hag : ∀ j ∈ S.1, mj_ad ad i q j = ad j := fun j hj => if_neg (fun (e : j = i) => hi (e ▸ hj))
  have hag9 : mj_ad ad i q 999 = ad 999 := if_neg (fun e => h9 e.symm)
  unfold mj_w mj_nw
  rw [List.map_append]
  congr 1
  · apply List.map_congr_left
    intro j hj
    have hji : j ≠ i := fun e => hi (e ▸ hj)
    show (mj_ad ad i q j, mj_e (mj_ad ad i q) cA (if j = i then x else S.2 j)) = _
    rw [if_neg hji, hag j hj, mj_e_agree hag hag9 (hcs.2.1 j hj)]
  · show [(mj_ad ad i q i, mj_e (mj_ad ad i q) cA (if i = i then x else S.2 i))] = _
    rw [if_pos rfl, mj_e_agree hag hag9 hx]
    show [((if i = i then q else ad i), mj_e ad cA x)] = _
    rw [if_pos rfl]
theorem mj_H.nw {s : State} {nL mc ms : Nat} {D : va_G} {cA : Nat → ClassId} {ad0 : Nat → Nat} {L0 : List Nat} {A : Nat → Prop} {u v u2 v2 : Nat} {lv st st' : List Value} {S : mj_S} {ad : Nat → Nat} {H H1 : Heap} {locs : List Loc} {ls : Array Slot} {i q : Nat} {x : mj_E} (h : mj_H s nL mc ms D cA ad0 L0 A u v lv st S ad H locs ls) (hi : i ∉ S.1) (h9 : i ≠ 999) (hx : mj_re S.1 x) (hb : u2 ≤ mc ∧ v2 ≤ ms) (hst : mj_rl S.1 st') (hP : va_P D mj_cl (mj_w ad cA S ++ [(q, mj_e ad cA x)]) H1) (hD : va_D A (mj_w ad cA S ++ [(q, mj_e ad cA x)])) (hS : va_S A s.heap H1 locs) : mj_H s nL mc ms D cA ad0 L0 A u2 v2 lv (.ref i :: st') (mj_nw S i x) (mj_ad ad i q) H1 locs ls ∧ (Value.ref i :: st').map (mj_v (mj_ad ad i q)) = .ref q :: st'.map (mj_v ad) := by
  have hag : ∀ j ∈ S.1, mj_ad ad i q j = ad j := fun j hj => if_neg (fun (e : j = i) => hi (e ▸ hj))
  have hag9 : mj_ad ad i q 999 = ad 999 := if_neg (fun e => h9 e.symm)
  have hsub : ∀ j ∈ S.1, j ∈ (mj_nw S i x).1 := fun j hj => List.mem_append_left _ hj
  refine ⟨⟨hb, ⟨fun j hj => ?_, fun j hj => hsub j (h.2.1.2 j hj)⟩, ⟨?_, fun j hj => ?_, ?_⟩, mj_rl_c (fun k hk => by cases hk; exact List.mem_append_right _ List.mem_cons_self) (mj_rl_mono hst hsub), mj_rl_mono h.hrl hsub, ?_, ?_, hS, h.hls.1, h.hls.2.1, fun k y hk hu => ?_⟩, ?_⟩
  · rcases hj with hj | hj
    · rw [hag j (h.2.1.2 j hj)]; exact h.2.1.1 j (Or.inl hj)
    · have h1 : j ≠ i := fun e => hj (by rw [e]; exact List.mem_append_right _ List.mem_cons_self)
      have h2 : j ∉ S.1 := fun e => hj (hsub j e)
      show (if j = i then q else ad j) = ad0 j
      rw [if_neg h1]; exact h.2.1.1 j (Or.inr h2)
  · show (S.1 ++ [i]).Nodup
    rw [List.nodup_append]
    refine ⟨h.hcs.1, by simp, fun a ha b hb e => ?_⟩
    rw [List.mem_singleton] at hb
    exact hi (by rw [← hb, ← e]; exact ha)
  · show mj_re (S.1 ++ [i]) (if j = i then x else S.2 j)
    by_cases e : j = i
    · rw [if_pos e]; exact mj_re_mono (fun k hk => List.mem_append_left _ hk) hx
    · rw [if_neg e]
      rcases List.mem_append.mp hj with hj | hj
      · exact mj_re_mono (fun k hk => List.mem_append_left _ hk) (h.hcs.2.1 j hj)
      · exact absurd (List.mem_singleton.mp hj) e
  · intro e
    rcases List.mem_append.mp e with e | e
    · exact h.hcs.2.2 e
    · exact h9 (List.mem_singleton.mp e).symm
  · rw [mj_w_nw h.hcs hi h9 hx]; exact hP
  · rw [mj_w_nw h.hcs hi h9 hx]; exact hD
  · rw [mj_v_agree hag hag9 (mj_rl_at h.hrl hk)]; exact h.hls.2.2 k y hk hu
  · rw [List.map_cons]
    congr 1
    · show Value.ref (if i = i then q else ad i) = _
      rw [if_pos rfl]
    · exact List.map_congr_left fun w hw => mj_v_agree hag hag9 (hst w hw)
section MJN
variable {d mc ms nL : Nat} {own mn : String} {cc : ByteArray} {K : mj_KT} {u v pc : Nat} {lv st : List Value} {S : mj_S}
theorem ro_newI (hK : mj_C d mc ms own mn cc nL K) {i N : Nat} {n : Int32} (hn : ¬ n < 0) (hN : n.toNatClampNeg = N) (hb4 : N * 4 ≤ 536870912) (hi : i ∉ S.1) (h9 : i ≠ 999) (hf : u + 1 ≤ mc ∧ v + N ≤ ms) (dg : decode cc pc = .ok (.newarray .int, 2)) (k : K (u + 1) (v + N) (pc + 2) lv (.ref i :: st) (mj_nw S i (.inl (0, N, .inl (fun _ => 0))))) : K u v pc lv (.int n :: st) S := by
  obtain ⟨p, l, e, R, s, m, args, below, meth, c, D, cA, ad0, L0, A, Q, hx, hb, hml, hown, hts, hU, hA, hmn, hR, rfl⟩ := hK
  intro ad H locs ls h
  refine va_newa (D := D) (atype := .int) (ty := .int) (a0 := (N, .inl (fun _ => 0))) hx hb (hts _ mj_acI) rfl hU.1 h.hP h.hD h.hS hA (fun _ => rfl) hn hN hb4 (Nat.le_trans hf.1 hR.2.2.1) (Nat.le_trans hf.2 hR.2.2.2) dg (fun q cB H1 hK1 hP1 hD1 hS1 => ?_)
  have ec : cB = cA 0 := by
    have e1 : s.vm.findClass ("[" ++ FieldType.int.toString) = some cB := (hK1.2 5 (cB, .int) rfl).2
    have e2 : s.vm.findClass ("[" ++ FieldType.int.toString) = some (cA 0) := (hU.1.2 0 (cA 0, .int) rfl).2
    exact Option.some.inj (e1.symm.trans e2)
  subst ec
  obtain ⟨g1, g2⟩ := h.nw (x := .inl (0, N, .inl (fun _ => 0))) (q := q) (st' := st) (u2 := u + 1) (v2 := v + N) hi h9 (fun a b z => by cases z) hf (mj_rl_t h.hrs) hP1 hD1 hS1
  have := k _ _ _ _ g1
  rw [g2] at this
  exact this
theorem ro_newB (hK : mj_C d mc ms own mn cc nL K) {i N : Nat} {n : Int32} (hn : ¬ n < 0) (hN : n.toNatClampNeg = N) (hb4 : N * 1 ≤ 536870912) (hi : i ∉ S.1) (h9 : i ≠ 999) (hf : u + 1 ≤ mc ∧ v + N ≤ ms) (dg : decode cc pc = .ok (.newarray .byte, 2)) (k : K (u + 1) (v + N) (pc + 2) lv (.ref i :: st) (mj_nw S i (.inl (1, N, .inl (fun _ => 0))))) : K u v pc lv (.int n :: st) S := by
  obtain ⟨p, l, e, R, s, m, args, below, meth, c, D, cA, ad0, L0, A, Q, hx, hb, hml, hown, hts, hU, hA, hmn, hR, rfl⟩ := hK
  intro ad H locs ls h
  refine va_newa (D := D) (atype := .byte) (ty := .byte) (a0 := (N, .inl (fun _ => 0))) hx hb (hts _ mj_acB) rfl hU.1 h.hP h.hD h.hS hA (fun _ => rfl) hn hN hb4 (Nat.le_trans hf.1 hR.2.2.1) (Nat.le_trans hf.2 hR.2.2.2) dg (fun q cB H1 hK1 hP1 hD1 hS1 => ?_)
  have ec : cB = cA 1 := by
    have e1 : s.vm.findClass ("[" ++ FieldType.byte.toString) = some cB := (hK1.2 5 (cB, .byte) rfl).2
    have e2 : s.vm.findClass ("[" ++ FieldType.byte.toString) = some (cA 1) := (hU.1.2 1 (cA 1, .byte) rfl).2
    exact Option.some.inj (e1.symm.trans e2)
  subst ec
  obtain ⟨g1, g2⟩ := h.nw (x := .inl (1, N, .inl (fun _ => 0))) (q := q) (st' := st) (u2 := u + 1) (v2 := v + N) hi h9 (fun a b z => by cases z) hf (mj_rl_t h.hrs) hP1 hD1 hS1
  have := k _ _ _ _ g1
  rw [g2] at this
  exact this
/-- new caves' array, of nulls -/
theorem ro_newQ (hK : mj_C d mc ms RC_c mn cc nL K) {i N : Nat} {n : Int32} (hn : ¬ n < 0) (hN : n.toNatClampNeg = N) (hb4 : N * 4 ≤ 536870912) (hi : i ∉ S.1) (h9 : i ≠ 999) (hf : u + 1 ≤ mc ∧ v + N ≤ ms) (dg : decode cc pc = .ok (.anewarray 26, 3)) (k : K (u + 1) (v + N) (pc + 3) lv (.ref i :: st) (mj_nw S i (.inl (4, N, .inr (.inr (.inr (.inr (fun _ => none)))))))) : K u v pc lv (.int n :: st) S := by
  obtain ⟨p, l, e, R, s, m, args, below, meth, c, D, cA, ad0, L0, A, Q, hx, hb, hml, hown, hts, hU, hA, hmn, hR, rfl⟩ := hK
  intro ad H locs ls h
  refine va_newq (D := D) (C := "LampCave$Cave") hx hb hown (hts _ cl_26) hU.2.2.1 hU.1 h.hP h.hD h.hS hA hn hN hb4 (Nat.le_trans hf.1 hR.2.2.1) (Nat.le_trans hf.2 hR.2.2.2) dg (fun q cB H1 hK1 hP1 hD1 hS1 => ?_)
  have ec : cB = cA 4 := by
    obtain ⟨_, _, _, _, _, e1⟩ := (hK1.2 5 (cB, .object "LampCave$Cave") rfl).2
    obtain ⟨_, _, _, _, _, e2⟩ := (hU.1.2 4 (cA 4, .object "LampCave$Cave") rfl).2
    exact Option.some.inj (e1.symm.trans e2)
  subst ec
  obtain ⟨g1, g2⟩ := h.nw (x := .inl (4, N, .inr (.inr (.inr (.inr (fun _ => none)))))) (q := q) (st' := st) (u2 := u + 1) (v2 := v + N) hi h9 (fun a b z j t hj => by cases z; cases hj) hf (mj_rl_t h.hrs) hP1 hD1 hS1
  have := k _ _ _ _ g1
  rw [g2] at this
  exact this
/-- a new object, its fields at their defaults -/
theorem ro_newO (hK : mj_C d mc ms own mn cc nL K) {i ci idx N : Nat} {C : String} {T : u_T} {ty : Nat → FieldType} {fs : List Value} (hcl : mj_cl[ci]? = some (C, T, N)) (hw : Cond.classLink own idx C ∈ mj_ws ∧ Cond.instantiable C N ∈ mj_ws ∧ Cond.initialized C ∈ mj_ws) (hty : ∀ k, k < N → parseFieldDescriptor (T k).2.2.1 = some (ty k)) (hfs : ∀ j, j < N → defaultValue (ty j) = vp_V fs j) (hfv : ∀ ad, fs.map (mj_v ad) = fs) (hfr : ∀ w ∈ fs, mj_rv [] w) (hi : i ∉ S.1) (h9 : i ≠ 999) (hf : u + 1 ≤ mc ∧ v + N ≤ ms) (dg : decode cc pc = .ok (.new idx, 3)) (k : K (u + 1) (v + N) (pc + 3) lv (.ref i :: st) (mj_nw S i (.inr (ci, fs)))) : K u v pc lv st S := by
  obtain ⟨p, l, e, R, s, m, args, below, meth, c, D, cA, ad0, L0, A, Q, hx, hb, hml, hown, hts, hU, hA, hmn, hR, rfl⟩ := hK
  intro ad H locs ls h
  refine va_new (D := D) (ci := ci) (fs := fs) hx hb hts (mj_cin hcl) ty hty hown (hts _ hw.1) (hts _ hw.2.1) (hts _ hw.2.2) hU.1 h.hP h.hD h.hS hA hcl hfs (Nat.le_trans hf.1 hR.2.2.1) (Nat.le_trans hf.2 hR.2.2.2) dg (fun q H1 hP1 hD1 hS1 => ?_)
  have e1 : mj_e ad cA (.inr (ci, fs)) = .inr (ci, fs) := by show Sum.inr (ci, fs.map (mj_v ad)) = _; rw [hfv]
  obtain ⟨g1, g2⟩ := h.nw (x := .inr (ci, fs)) (q := q) (st' := st) (u2 := u + 1) (v2 := v + N) hi h9 (fun w hw j hj => absurd (hfr w hw j hj) List.not_mem_nil) hf h.hrs (by rw [e1]; exact hP1) (by rw [e1]; exact hD1) hS1
  have := k _ _ _ _ g1
  rw [g2] at this
  exact this
/-- Object() -/
theorem ro_oi (hK : mj_C d mc ms own mn cc nL K) {i idx : Nat} (hw : Cond.methodLink own idx Lib.objectInit ∈ mj_ws) (hd : 1 ≤ d) (hs : (st.map fun q => q.category).sum ≤ 8) (dg : decode cc pc = .ok (.invokespecial idx, 3)) (k : K u v (pc + 3) lv st S) : K u v pc lv (.ref i :: st) S := by
  obtain ⟨p, l, e, R, s, m, args, below, meth, c, D, cA, ad0, L0, A, Q, hx, hb, hml, hown, hts, hU, hA, hmn, hR, rfl⟩ := hK
  intro ad H locs ls h
  have hs2 : ((st.map (mj_v ad)).map fun q => q.category).sum ≤ 8 := by rw [mj_cats]; exact hs
  have hlo := hR.2.1
  have hr2 := lv_room (m := m) (pc := pc) (ls := ls) (rest := st.map (mj_v ad)) hs2
  refine W.objInit hx hb hown (hts _ hw) (hts _ mj_oi.1) (hts _ mj_oi.2) (g := F0 m pc ls (.ref (ad i) :: st.map (mj_v ad))) rfl (h.hls.1.trans hml.symm) rfl dg (Nat.le_trans hd hR.1) ?_ (k ad H locs ls (h.re fun a b => mj_rl_t a))
  show 2 * 0 + _ + 12 ≤ R.locals
  omega
variable {as : List Value} {mc2 ms2 idx mL n : Nat} {y : MethodName} {b : ByteArray} {Fin : Option Value → mj_S → Prop}
theorem ro_callI (hK : mj_C (d + 1) mc ms own mn cc nL K) {i : Nat} (hM : mj_M y b mL n none) (hV : Cond.methodLink own idx y ∈ mj_ws ∧ Cond.instanceMethod y ∈ mj_ws) (hy : y.name = "<init>") (hC : mj_MC d mc2 ms2 y b mL none (.ref i :: as) S Fin) (hn : as.length = n) (hs : (st.map fun q => q.category).sum ≤ 8) (hf : u + mc2 ≤ mc ∧ v + ms2 ≤ ms) (dg : decode cc pc = .ok (.invokespecial idx, 3)) {sv : List Value} (hsv : as.reverse ++ .ref i :: st = sv)
    (kk : ∀ r S', Fin r S' → K (u + mc2) (v + ms2) (pc + 3) lv (r.toList ++ st) S') : K u v pc lv sv S := by
  subst hsv
  obtain ⟨p, l, e, R, s, m, args, below, meth, c, D, cA, ad0, L0, A, Q, hx, hb, hml, hown, hts, hU, hA, hmn, hR, rfl⟩ := hK
  intro ad H locs ls h
  have hst : mj_rl S.1 st := fun w hw => h.hrs w (List.mem_append_right _ (List.mem_cons_of_mem _ hw))
  have hs2 : ((st.map (mj_v ad)).map fun q => q.category).sum ≤ 8 := by rw [mj_cats]; exact hs
  have hfr := hR.1
  have hlo := hR.2.1
  have hmL := hM.2.2.2.2
  refine mj_fin (st := st) (mc2 := mc2) (ms2 := ms2) (Fin := Fin) (a := (Value.ref (ad i) :: as.map (mj_v ad)).toArray) hA h hst hf ?_ kk
  exact va_runI (As := as.map (mj_v ad)) (b := ad i) ⟨hx, hb, hml, hown, hts⟩ (hC l D cA ad H.size h.hcs (fun w hw => h.hrs w ((List.mem_cons.mp hw).elim (fun q => by rw [q]; exact List.mem_append_right _ List.mem_cons_self) (fun q => List.mem_append_left _ (List.mem_reverse.mpr q)))))
    ⟨callB_of n hts (mj_good (y := y) (b := b) (mL := mL) (ret := none) hM.1) rfl rfl rfl (hts _ hM.2.1) (hts _ hV.1) hM.2.2.1 ⟨hfr, by show 8 + (mL + 11) + 60 * d ≤ R.locals; omega⟩, hy, hts _ hV.2⟩
    ⟨mj_blind, fun U hU1 hW => ⟨rfl, by rw [hU1], by rw [hU1]; exact h.hP, mj_U.moved hW hU, h.hD.weaken (fun _ _ _ _ => trivial)⟩⟩
    rfl (by rw [List.length_map]; exact hn) h.hls.1 (by show (as.reverse ++ .ref i :: st).map (mj_v ad) = _; rw [List.map_append, List.map_reverse]; rfl) (lv_room hs2) dg ⟨Nat.le_trans hf.1 hR.2.2.1, Nat.le_trans hf.2 hR.2.2.2⟩
theorem ro_callIN (hK : mj_C (d + 1) mc ms own mn cc nL K) {i : Nat} {host : String} (hM : mj_M y b mL n none) (hV : (own, idx, y, host) ∈ mj_nest) (hin : Cond.instanceMethod y ∈ mj_ws) (hy : y.name = "<init>") (hC : mj_MC d mc2 ms2 y b mL none (.ref i :: as) S Fin) (hn : as.length = n) (hs : (st.map fun q => q.category).sum ≤ 8) (hf : u + mc2 ≤ mc ∧ v + ms2 ≤ ms) (dg : decode cc pc = .ok (.invokespecial idx, 3)) {sv : List Value} (hsv : as.reverse ++ .ref i :: st = sv)
    (kk : ∀ r S', Fin r S' → K (u + mc2) (v + ms2) (pc + 3) lv (r.toList ++ st) S') : K u v pc lv sv S := by
  subst hsv
  obtain ⟨p, l, e, R, s, m, args, below, meth, c, D, cA, ad0, L0, A, Q, hx, hb, hml, hown, hts, hU, hA, hmn, hR, rfl⟩ := hK
  intro ad H locs ls h
  have hst : mj_rl S.1 st := fun w hw => h.hrs w (List.mem_append_right _ (List.mem_cons_of_mem _ hw))
  have hs2 : ((st.map (mj_v ad)).map fun q => q.category).sum ≤ 8 := by rw [mj_cats]; exact hs
  have hfr := hR.1
  have hlo := hR.2.1
  have hmL := hM.2.2.2.2
  refine mj_fin (st := st) (mc2 := mc2) (ms2 := ms2) (Fin := Fin) (a := (Value.ref (ad i) :: as.map (mj_v ad)).toArray) hA h hst hf ?_ kk
  exact va_runIN (As := as.map (mj_v ad)) (b := ad i) (host := host) ⟨hx, hb, hml, hown, hts⟩ (hC l D cA ad H.size h.hcs (fun w hw => h.hrs w ((List.mem_cons.mp hw).elim (fun q => by rw [q]; exact List.mem_append_right _ List.mem_cons_self) (fun q => List.mem_append_left _ (List.mem_reverse.mpr q)))))
    ⟨va_cnB n hts (mj_good (y := y) (b := b) (mL := mL) (ret := none) hM.1) rfl rfl rfl (hU.2.1 _ hV) (hts _ hM.2.1) hM.2.2.1 ⟨hfr, by show 8 + (mL + 11) + 60 * d ≤ R.locals; omega⟩, hy, hts _ hin⟩
    ⟨mj_blind, fun U hU1 hW => ⟨rfl, by rw [hU1], by rw [hU1]; exact h.hP, mj_U.moved hW hU, h.hD.weaken (fun _ _ _ _ => trivial)⟩⟩
    rfl (by rw [List.length_map]; exact hn) h.hls.1 (by show (as.reverse ++ .ref i :: st).map (mj_v ad) = _; rw [List.map_append, List.map_reverse]; rfl) (lv_room hs2) dg ⟨Nat.le_trans hf.1 hR.2.2.1, Nat.le_trans hf.2 hR.2.2.2⟩
/-- the same cells, said in another order -/
theorem ro_eqv (hK : mj_C d mc ms own mn cc nL K) {S' : mj_S} (hn : S'.1.Nodup) (hL : ∀ i, i ∈ S'.1 ↔ i ∈ S.1) (hc : ∀ i, i ∈ S'.1 → S'.2 i = S.2 i) (k : K u v pc lv st S') : K u v pc lv st S := by
  obtain ⟨p, l, e, R, s, m, args, below, meth, c, D, cA, ad0, L0, A, Q, hx, hb, hml, hown, hts, hU, hA, hmn, hR, rfl⟩ := hK
  intro ad H locs ls h
  have at' : ∀ (k : Nat) (q : Nat × va_E), (mj_w ad cA S')[k]? = some q → ∃ i, S'.1[k]? = some i ∧ q = (ad i, mj_e ad cA (S.2 i)) := by
    intro k q hq
    unfold mj_w at hq
    rw [List.getElem?_map] at hq
    cases hS : S'.1[k]? with
    | none => rw [hS] at hq; cases hq
    | some i =>
      rw [hS] at hq
      cases hq
      exact ⟨i, rfl, by show (ad i, mj_e ad cA (S'.2 i)) = _; rw [hc i (List.mem_of_getElem? hS)]⟩
  refine k ad H locs ls ⟨h.1, ⟨fun i hi => h.2.1.1 i (hi.elim Or.inl (fun z => Or.inr (fun w => z ((hL i).mpr w)))), fun i hi => (hL i).mpr (h.2.1.2 i hi)⟩, ⟨hn, fun i hi => ?_, fun z => h.hcs.2.2 ((hL _).mp z)⟩, mj_rl_mono h.hrs (fun i hi => (hL i).mpr hi), mj_rl_mono h.hrl (fun i hi => (hL i).mpr hi), ?_, ⟨?_, ?_⟩, h.hS, h.hls⟩
  · rw [hc i hi]; exact mj_re_mono (fun j hj => (hL j).mpr hj) (h.hcs.2.1 i ((hL i).mp hi))
  · intro k q hq
    obtain ⟨i, h1, rfl⟩ := at' k q hq
    obtain ⟨k2, -, h3⟩ := mj_w_at (ad := ad) (cA := cA) ((hL i).mp (List.mem_of_getElem? h1))
    exact h.hP k2 _ h3
  · intro i j x y hi hj hxy
    obtain ⟨a, h1, rfl⟩ := at' i x hi
    obtain ⟨b, h2, rfl⟩ := at' j y hj
    obtain ⟨ka, g1, g2⟩ := mj_w_at (ad := ad) (cA := cA) ((hL a).mp (List.mem_of_getElem? h1))
    obtain ⟨kb, g3, g4⟩ := mj_w_at (ad := ad) (cA := cA) ((hL b).mp (List.mem_of_getElem? h2))
    have := h.hD.1 ka kb _ _ g2 g4 hxy
    subst this
    have hab : a = b := Option.some.inj (g1.symm.trans g3)
    subst hab
    exact mj_nd hn h1 h2
  · intro k q hq
    obtain ⟨i, h1, rfl⟩ := at' k q hq
    obtain ⟨k2, -, h3⟩ := mj_w_at (ad := ad) (cA := cA) ((hL i).mp (List.mem_of_getElem? h1))
    exact h.hD.2 k2 _ h3
end MJN
/-- new T[N][M]: the outer array at o, the inner ones at base, base + 1 .. -/
def mj_nm (S : mj_S) (o base N : Nat) (x : mj_E) (t : Nat) : mj_S := ((S.1 ++ [o]) ++ (List.range N).map (fun i => base + i), fun j => if j = o then .inl (t, N, .inr (.inr (.inr (.inr (fun i => if i < N then some (base + i) else none))))) else if base ≤ j ∧ j < base + N then x else S.2 j)
def mj_am (ad : Nat → Nat) (o base N q : Nat) (r : Nat → Nat) : Nat → Nat := fun j => if j = o then q else if base ≤ j ∧ j < base + N then r (j - base) else ad j
theorem mj_am_old {ad : Nat → Nat} {o base N q : Nat} {r : Nat → Nat} {j : Nat} (h1 : j ≠ o) (h2 : ¬ (base ≤ j ∧ j < base + N)) : mj_am ad o base N q r j = ad j := by
  unfold mj_am
  rw [if_neg h1, if_neg h2]
theorem mj_am_in {ad : Nat → Nat} {o base N q : Nat} {r : Nat → Nat} {i : Nat} (ho : ¬ (base ≤ o ∧ o < base + N)) (hi : i < N) : mj_am ad o base N q r (base + i) = r i := by
  unfold mj_am
  rw [if_neg (fun e => ho (by omega)), if_pos (by omega), Nat.add_sub_cancel_left]
theorem mj_w_nm {ad : Nat → Nat} {cA : Nat → ClassId} {S : mj_S} {o base N q M t t1 : Nat} {r : Nat → Nat} {f : Nat → va_E} (hcs : mj_cs S) (ho : o ∉ S.1) (hb : ∀ j ∈ S.1, ¬ (base ≤ j ∧ j < base + N)) (hob : ¬ (base ≤ o ∧ o < base + N)) (h9 : o ≠ 999) (hb9 : ¬ (base ≤ 999 ∧ 999 < base + N)) :
    mj_w (mj_am ad o base N q r) cA (mj_nm S o base N (.inl (t1, M, .inl (fun _ => 0))) t) = (mj_w ad cA S ++ [(q, .inl (cA t, N, .inr (.inr (.inr (.inr (fun i => if i < N then some (r i) else none))))))]) ++ va_pl ([] ++ (List.range N).map r) (vr_up f ((List.range N).map r) (.inl (cA t1, M, .inl (fun _ => 0)))) := by
  have hag : ∀ j ∈ S.1, mj_am ad o base N q r j = ad j := fun j hj => mj_am_old (fun (e : j = o) => ho (e ▸ hj)) (hb j hj)
  have hag9 : mj_am ad o base N q r 999 = ad 999 := mj_am_old (fun e => h9 e.symm) hb9
  unfold mj_w mj_nm
  rw [List.map_append, List.map_append]
  congr 1
  · congr 1
    · apply List.map_congr_left
      intro j hj
      have h1 : j ≠ o := fun (e : j = o) => ho (e ▸ hj)
      show (mj_am ad o base N q r j, mj_e (mj_am ad o base N q r) cA (if j = o then _ else if base ≤ j ∧ j < base + N then _ else S.2 j)) = _
      rw [if_neg h1, if_neg (hb j hj), hag j hj, mj_e_agree hag hag9 (hcs.2.1 j hj)]
    · show [(mj_am ad o base N q r o, mj_e (mj_am ad o base N q r) cA (if o = o then _ else _))] = _
      rw [if_pos rfl]
      have e1 : mj_am ad o base N q r o = q := by unfold mj_am; rw [if_pos rfl]
      rw [e1]
      show [(q, (Sum.inl (cA t, N, .inr (.inr (.inr (.inr (fun i => (if i < N then some (base + i) else none).map (mj_am ad o base N q r)))))) : va_E))] = _
      have e2 : (fun i => (if i < N then some (base + i) else none).map (mj_am ad o base N q r)) = (fun i => if i < N then some (r i) else none) := by
        funext i
        by_cases hi : i < N
        · rw [if_pos hi, if_pos hi]; show some (mj_am ad o base N q r (base + i)) = _; rw [mj_am_in hob hi]
        · rw [if_neg hi, if_neg hi]; rfl
      rw [e2]
  · unfold va_pl
    rw [List.nil_append, List.map_map, List.map_map]
    apply List.map_congr_left
    intro i hi
    have hi := List.mem_range.mp hi
    show (mj_am ad o base N q r (base + i), mj_e (mj_am ad o base N q r) cA (if base + i = o then _ else if base ≤ base + i ∧ base + i < base + N then _ else S.2 (base + i))) = (r i, vr_up f ((List.range N).map r) _ (r i))
    rw [if_neg (fun e => hob (by omega)), if_pos (by omega), mj_am_in hob hi, vr_up_in (List.mem_map.mpr ⟨i, List.mem_range.mpr hi, rfl⟩)]
    rfl
theorem mj_H.nm {s : State} {nL mc ms : Nat} {D : va_G} {cA : Nat → ClassId} {ad0 : Nat → Nat} {L0 : List Nat} {A : Nat → Prop} {u v u2 v2 : Nat} {lv st st' : List Value} {S : mj_S} {ad : Nat → Nat} {H H1 : Heap} {locs : List Loc} {ls : Array Slot} {o base N q M t t1 : Nat} {r : Nat → Nat} (h : mj_H s nL mc ms D cA ad0 L0 A u v lv st S ad H locs ls) (ho : o ∉ S.1) (hbs : ∀ j ∈ S.1, ¬ (base ≤ j ∧ j < base + N)) (hob : ¬ (base ≤ o ∧ o < base + N)) (h9 : o ≠ 999) (hb9 : ¬ (base ≤ 999 ∧ 999 < base + N)) (hb : u2 ≤ mc ∧ v2 ≤ ms) (hst : mj_rl S.1 st')
    (hP : va_P D mj_cl (mj_w (mj_am ad o base N q r) cA (mj_nm S o base N (.inl (t1, M, .inl (fun _ => 0))) t)) H1) (hD : va_D A (mj_w (mj_am ad o base N q r) cA (mj_nm S o base N (.inl (t1, M, .inl (fun _ => 0))) t))) (hS : va_S A s.heap H1 locs) : mj_H s nL mc ms D cA ad0 L0 A u2 v2 lv (.ref o :: st') (mj_nm S o base N (.inl (t1, M, .inl (fun _ => 0))) t) (mj_am ad o base N q r) H1 locs ls ∧ (Value.ref o :: st').map (mj_v (mj_am ad o base N q r)) = .ref q :: st'.map (mj_v ad) := by
  have hag : ∀ j ∈ S.1, mj_am ad o base N q r j = ad j := fun j hj => mj_am_old (fun (e : j = o) => ho (e ▸ hj)) (hbs j hj)
  have hag9 : mj_am ad o base N q r 999 = ad 999 := mj_am_old (fun e => h9 e.symm) hb9
  have hmem : ∀ j, j ∈ ((S.1 ++ [o]) ++ (List.range N).map (fun i => base + i)) ↔ (j ∈ S.1 ∨ j = o ∨ (base ≤ j ∧ j < base + N)) := by
    intro j
    simp only [List.mem_append, List.mem_singleton, List.mem_map, List.mem_range]
    constructor
    · rintro ((h | h) | ⟨i, h1, h2⟩)
      · exact Or.inl h
      · exact Or.inr (Or.inl h)
      · exact Or.inr (Or.inr (by omega))
    · rintro (h | h | h)
      · exact Or.inl (Or.inl h)
      · exact Or.inl (Or.inr h)
      · exact Or.inr ⟨j - base, by omega, by omega⟩
  have hsub : ∀ j ∈ S.1, j ∈ ((S.1 ++ [o]) ++ (List.range N).map (fun i => base + i)) := fun j hj => (hmem j).mpr (Or.inl hj)
  refine ⟨⟨hb, ⟨fun j hj => ?_, fun j hj => hsub j (h.2.1.2 j hj)⟩, ⟨?_, fun j hj => ?_, ?_⟩, mj_rl_c (fun k hk => by cases hk; exact (hmem o).mpr (Or.inr (Or.inl rfl))) (mj_rl_mono hst hsub), mj_rl_mono h.hrl hsub, hP, hD, hS, h.hls.1, h.hls.2.1, fun k y hk hu => ?_⟩, ?_⟩
  · rcases hj with hj | hj
    · rw [hag j (h.2.1.2 j hj)]; exact h.2.1.1 j (Or.inl hj)
    · have hj2 : ¬ (j ∈ S.1 ∨ j = o ∨ (base ≤ j ∧ j < base + N)) := fun z => hj ((hmem j).mpr z)
      rw [mj_am_old (fun e => hj2 (Or.inr (Or.inl e))) (fun e => hj2 (Or.inr (Or.inr e)))]
      exact h.2.1.1 j (Or.inr (fun e => hj2 (Or.inl e)))
  · show ((S.1 ++ [o]) ++ (List.range N).map (fun i => base + i)).Nodup
    rw [List.nodup_append, List.nodup_append]
    refine ⟨⟨h.hcs.1, by simp, fun a ha b hb e => ?_⟩, ?_, fun a ha b hb e => ?_⟩
    · rw [List.mem_singleton] at hb
      exact ho (by rw [← hb, ← e]; exact ha)
    · exact List.Pairwise.map _ (fun a b hab e => hab (by omega)) List.nodup_range
    · obtain ⟨i, hi, rfl⟩ := List.mem_map.mp hb
      have hi := List.mem_range.mp hi
      rcases List.mem_append.mp ha with ha | ha
      · exact hbs a ha (by omega)
      · rw [List.mem_singleton] at ha
        exact hob (by omega)
  · show mj_re ((S.1 ++ [o]) ++ (List.range N).map (fun i => base + i)) (if j = o then _ else if base ≤ j ∧ j < base + N then _ else S.2 j)
    by_cases e : j = o
    · rw [if_pos e]
      intro n2 f2 e2 j2 i2 hi2
      cases e2
      by_cases hj2 : j2 < N
      · rw [if_pos hj2] at hi2; cases hi2; exact (hmem _).mpr (Or.inr (Or.inr (by omega)))
      · rw [if_neg hj2] at hi2; cases hi2
    · rw [if_neg e]
      by_cases e2 : base ≤ j ∧ j < base + N
      · rw [if_pos e2]; exact fun a b z => by cases z
      · rw [if_neg e2]
        rcases (hmem j).mp hj with hj | hj | hj
        · exact mj_re_mono hsub (h.hcs.2.1 j hj)
        · exact absurd hj e
        · exact absurd hj e2
  · intro e
    rcases (hmem 999).mp e with e | e | e
    · exact h.hcs.2.2 e
    · exact h9 e.symm
    · exact hb9 e
  · rw [mj_v_agree hag hag9 (mj_rl_at h.hrl hk)]; exact h.hls.2.2 k y hk hu
  · rw [List.map_cons]
    congr 1
    · show Value.ref (mj_am ad o base N q r o) = _
      unfold mj_am
      rw [if_pos rfl]
    · exact List.map_congr_left fun w hw => mj_v_agree hag hag9 (hst w hw)
theorem ro_mnI {d mc ms nL : Nat} {mn : String} {cc : ByteArray} {K : mj_KT} {u v pc : Nat} {lv st : List Value} {S : mj_S} (hK : mj_C d mc ms RC_c mn cc nL K) {o base N M : Nat} {n k : Int32} (hn : ¬ n < 0) (hk : ¬ k < 0) (hN : n.toNatClampNeg = N) (hM : k.toNatClampNeg = M) (hb1 : N * 4 ≤ 536870912) (hb2 : M * componentBytes .int ≤ 536870912) (hb3 : M ≤ 536870912) (ho : o ∉ S.1) (hbs : ∀ j ∈ S.1, ¬ (base ≤ j ∧ j < base + N)) (hob : ¬ (base ≤ o ∧ o < base + N)) (h9 : o ≠ 999) (hb9 : ¬ (base ≤ 999 ∧ 999 < base + N)) (hf : u + (1 + N) ≤ mc ∧ v + (N + N * M) ≤ ms) (dg : decode cc pc = .ok (.multianewarray 9 2, 4)) (kk : K (u + 1 + N) (v + N + N * M) (pc + 4) lv (.ref o :: st) (mj_nm S o base N (.inl (0, M, .inl (fun _ => 0))) 2)) : K u v pc lv (.int k :: .int n :: st) S := by
  obtain ⟨p, l, e, R, s, m, args, below, meth, c, D, cA, ad0, L0, A, Q, hx, hb, hml, hown, hts, hU, hA, hmn, hR, rfl⟩ := hK
  intro ad H locs ls h
  have hlk : (Cond.classLink RC_c 9 ("[" ++ (FieldType.array .int).toString)).before args s = true := by
    have e1 : ("[" ++ (FieldType.array .int).toString) = "[[I" := by decide
    rw [e1]; exact hts _ cl_9
  have hcy : s.vm.findClass (FieldType.array .int).toString = some (cA 0) := (hU.1.2 0 (cA 0, .int) rfl).2
  refine va_mna (D := D) (X := mj_w ad cA S) (L := []) (f := fun _ => .inl (cA 0, 0, .inl (fun _ => 0))) (ty := .int) (cy := cA 0) (z := (M, .inl (fun _ => 0))) hx hb hown hlk hU.2.2.2.1 (hts _ mj_acI) hcy hU.1 (by rw [show va_pl [] _ = [] from rfl, List.append_nil]; exact h.hP) (by rw [show va_pl [] _ = [] from rfl, List.append_nil]; exact h.hD) h.hS hA hn hk hN hM hb1 hb2 hb3 rfl rfl (Nat.le_trans hf.1 hR.2.2.1) (Nat.le_trans hf.2 hR.2.2.2) (fun c9 => arrV_new _ _ _) dg (fun q r cB H1 hr1 hr2 hK1 hP1 hD1 hS1 => ?_)
  have ec : cB = cA 2 := by
    have e1 : s.vm.findClass ("[" ++ (FieldType.array .int).toString) = some cB := (hK1.2 5 (cB, .array .int) rfl).2
    have e2 : s.vm.findClass ("[" ++ (FieldType.array .int).toString) = some (cA 2) := (hU.1.2 2 (cA 2, .array .int) rfl).2
    exact Option.some.inj (e1.symm.trans e2)
  subst ec
  rw [← mj_w_nm h.hcs ho hbs hob h9 hb9] at hP1 hD1
  obtain ⟨g1, g2⟩ := h.nm (st' := st) (u2 := u + 1 + N) (v2 := v + N + N * M) ho hbs hob h9 hb9 ⟨by omega, by omega⟩ (mj_rl_t (mj_rl_t h.hrs)) hP1 hD1 hS1
  have k1 := kk _ _ _ _ g1
  rw [g2] at k1
  exact k1
theorem ro_mnB {d mc ms nL : Nat} {mn : String} {cc : ByteArray} {K : mj_KT} {u v pc : Nat} {lv st : List Value} {S : mj_S} (hK : mj_C d mc ms RC_c mn cc nL K) {o base N M : Nat} {n k : Int32} (hn : ¬ n < 0) (hk : ¬ k < 0) (hN : n.toNatClampNeg = N) (hM : k.toNatClampNeg = M) (hb1 : N * 4 ≤ 536870912) (hb2 : M * componentBytes .byte ≤ 536870912) (hb3 : M ≤ 536870912) (ho : o ∉ S.1) (hbs : ∀ j ∈ S.1, ¬ (base ≤ j ∧ j < base + N)) (hob : ¬ (base ≤ o ∧ o < base + N)) (h9 : o ≠ 999) (hb9 : ¬ (base ≤ 999 ∧ 999 < base + N)) (hf : u + (1 + N) ≤ mc ∧ v + (N + N * M) ≤ ms) (dg : decode cc pc = .ok (.multianewarray 18 2, 4)) (kk : K (u + 1 + N) (v + N + N * M) (pc + 4) lv (.ref o :: st) (mj_nm S o base N (.inl (1, M, .inl (fun _ => 0))) 3)) : K u v pc lv (.int k :: .int n :: st) S := by
  obtain ⟨p, l, e, R, s, m, args, below, meth, c, D, cA, ad0, L0, A, Q, hx, hb, hml, hown, hts, hU, hA, hmn, hR, rfl⟩ := hK
  intro ad H locs ls h
  have hlk : (Cond.classLink RC_c 18 ("[" ++ (FieldType.array .byte).toString)).before args s = true := by
    have e1 : ("[" ++ (FieldType.array .byte).toString) = "[[B" := by decide
    rw [e1]; exact hts _ cl_18
  have hcy : s.vm.findClass (FieldType.array .byte).toString = some (cA 1) := (hU.1.2 1 (cA 1, .byte) rfl).2
  refine va_mna (D := D) (X := mj_w ad cA S) (L := []) (f := fun _ => .inl (cA 0, 0, .inl (fun _ => 0))) (ty := .byte) (cy := cA 1) (z := (M, .inl (fun _ => 0))) hx hb hown hlk hU.2.2.2.2 (hts _ mj_acB) hcy hU.1 (by rw [show va_pl [] _ = [] from rfl, List.append_nil]; exact h.hP) (by rw [show va_pl [] _ = [] from rfl, List.append_nil]; exact h.hD) h.hS hA hn hk hN hM hb1 hb2 hb3 rfl rfl (Nat.le_trans hf.1 hR.2.2.1) (Nat.le_trans hf.2 hR.2.2.2) (fun c9 => arrV_new _ _ _) dg (fun q r cB H1 hr1 hr2 hK1 hP1 hD1 hS1 => ?_)
  have ec : cB = cA 3 := by
    have e1 : s.vm.findClass ("[" ++ (FieldType.array .byte).toString) = some cB := (hK1.2 5 (cB, .array .byte) rfl).2
    have e2 : s.vm.findClass ("[" ++ (FieldType.array .byte).toString) = some (cA 3) := (hU.1.2 3 (cA 3, .array .byte) rfl).2
    exact Option.some.inj (e1.symm.trans e2)
  subst ec
  rw [← mj_w_nm h.hcs ho hbs hob h9 hb9] at hP1 hD1
  obtain ⟨g1, g2⟩ := h.nm (st' := st) (u2 := u + 1 + N) (v2 := v + N + N * M) ho hbs hob h9 hb9 ⟨by omega, by omega⟩ (mj_rl_t (mj_rl_t h.hrs)) hP1 hD1 hS1
  have k1 := kk _ _ _ _ g1
  rw [g2] at k1
  exact k1
end
