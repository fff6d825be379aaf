-- ===== PART A: goes FIRST, ahead of the names: the tables' words, and 'selects' of the private methods out of them =====
/-- a private method of a class that the tables say can be made, by its rows of tables_1 -/
def lw_okq (q : MethodName × Nat) : Prop := (q.1.cls ≠ "java/lang/invoke/MethodHandle" ∧ q.1.cls ≠ "java/lang/invoke/VarHandle") ∧ Cond.instantiable q.1.cls q.2 ∈ tables_1 ∧ Cond.privateMethod q.1 ∈ tables_1 ∧ Cond.instanceMethod q.1 ∈ tables_1
theorem lw_p0 : lw_okq (⟨"FacetSieve$Tokens", "readWord", "()V"⟩, 8) := ⟨⟨by decide +kernel, by decide +kernel⟩, List.mem_of_getElem? (i := 241) (by decide +kernel), List.mem_of_getElem? (i := 416) (by decide +kernel), List.mem_of_getElem? (i := 417) (by decide +kernel)⟩
theorem lw_p1 : lw_okq (⟨"FacetSieve$Tokens", "wordKind", "()I"⟩, 8) := ⟨⟨by decide +kernel, by decide +kernel⟩, List.mem_of_getElem? (i := 241) (by decide +kernel), List.mem_of_getElem? (i := 420) (by decide +kernel), List.mem_of_getElem? (i := 421) (by decide +kernel)⟩
theorem lw_p2 : lw_okq (⟨"FacetSieve$Tokens", "readNumber", "()V"⟩, 8) := ⟨⟨by decide +kernel, by decide +kernel⟩, List.mem_of_getElem? (i := 241) (by decide +kernel), List.mem_of_getElem? (i := 437) (by decide +kernel), List.mem_of_getElem? (i := 438) (by decide +kernel)⟩
theorem lw_p3 : lw_okq (⟨"FacetSieve$SchemeReader", "readLine", "()Z"⟩, 2) := ⟨⟨by decide +kernel, by decide +kernel⟩, List.mem_of_getElem? (i := 279) (by decide +kernel), List.mem_of_getElem? (i := 444) (by decide +kernel), List.mem_of_getElem? (i := 445) (by decide +kernel)⟩
theorem lw_p4 : lw_okq (⟨"FacetSieve$SchemeReader", "readHead", "()Z"⟩, 2) := ⟨⟨by decide +kernel, by decide +kernel⟩, List.mem_of_getElem? (i := 279) (by decide +kernel), List.mem_of_getElem? (i := 448) (by decide +kernel), List.mem_of_getElem? (i := 449) (by decide +kernel)⟩
theorem lw_p5 : lw_okq (⟨"FacetSieve$SchemeReader", "isNewName", "()Z"⟩, 2) := ⟨⟨by decide +kernel, by decide +kernel⟩, List.mem_of_getElem? (i := 279) (by decide +kernel), List.mem_of_getElem? (i := 461) (by decide +kernel), List.mem_of_getElem? (i := 462) (by decide +kernel)⟩
theorem lw_p6 : lw_okq (⟨"FacetSieve$SchemeReader", "readValue", "()Z"⟩, 2) := ⟨⟨by decide +kernel, by decide +kernel⟩, List.mem_of_getElem? (i := 279) (by decide +kernel), List.mem_of_getElem? (i := 478) (by decide +kernel), List.mem_of_getElem? (i := 479) (by decide +kernel)⟩
theorem lw_p7 : lw_okq (⟨"FacetSieve$SchemeReader", "isValueOfLatestHead", "()Z"⟩, 2) := ⟨⟨by decide +kernel, by decide +kernel⟩, List.mem_of_getElem? (i := 279) (by decide +kernel), List.mem_of_getElem? (i := 486) (by decide +kernel), List.mem_of_getElem? (i := 487) (by decide +kernel)⟩
theorem lw_p8 : lw_okq (⟨"FacetSieve$SchemeReader", "readRecord", "()Z"⟩, 2) := ⟨⟨by decide +kernel, by decide +kernel⟩, List.mem_of_getElem? (i := 279) (by decide +kernel), List.mem_of_getElem? (i := 500) (by decide +kernel), List.mem_of_getElem? (i := 501) (by decide +kernel)⟩
theorem lw_p9 : lw_okq (⟨"FacetSieve$SchemeReader", "isNumberUpTo", "(I)Z"⟩, 2) := ⟨⟨by decide +kernel, by decide +kernel⟩, List.mem_of_getElem? (i := 279) (by decide +kernel), List.mem_of_getElem? (i := 504) (by decide +kernel), List.mem_of_getElem? (i := 505) (by decide +kernel)⟩
theorem lw_p10 : lw_okq (⟨"FacetSieve$SchemeReader", "readTags", "(II)Z"⟩, 2) := ⟨⟨by decide +kernel, by decide +kernel⟩, List.mem_of_getElem? (i := 279) (by decide +kernel), List.mem_of_getElem? (i := 515) (by decide +kernel), List.mem_of_getElem? (i := 516) (by decide +kernel)⟩
theorem lw_p11 : lw_okq (⟨"FacetSieve$Sets", "isInside", "(II)Z"⟩, 2) := ⟨⟨by decide +kernel, by decide +kernel⟩, List.mem_of_getElem? (i := 109) (by decide +kernel), List.mem_of_getElem? (i := 535) (by decide +kernel), List.mem_of_getElem? (i := 536) (by decide +kernel)⟩
theorem lw_p12 : lw_okq (⟨"FacetSieve", "takeTape", "()V"⟩, 7) := ⟨⟨by decide +kernel, by decide +kernel⟩, List.mem_of_getElem? (i := 19) (by decide +kernel), List.mem_of_getElem? (i := 544) (by decide +kernel), List.mem_of_getElem? (i := 545) (by decide +kernel)⟩
theorem lw_p13 : lw_okq (⟨"FacetSieve$QuestionReader", "startDepth", "(I)V"⟩, 10) := ⟨⟨by decide +kernel, by decide +kernel⟩, List.mem_of_getElem? (i := 295) (by decide +kernel), List.mem_of_getElem? (i := 599) (by decide +kernel), List.mem_of_getElem? (i := 600) (by decide +kernel)⟩
theorem lw_p14 : lw_okq (⟨"FacetSieve$QuestionReader", "readFact", "()Z"⟩, 10) := ⟨⟨by decide +kernel, by decide +kernel⟩, List.mem_of_getElem? (i := 295) (by decide +kernel), List.mem_of_getElem? (i := 604) (by decide +kernel), List.mem_of_getElem? (i := 605) (by decide +kernel)⟩
theorem lw_p15 : lw_okq (⟨"FacetSieve$QuestionReader", "readSet", "(I)Z"⟩, 10) := ⟨⟨by decide +kernel, by decide +kernel⟩, List.mem_of_getElem? (i := 295) (by decide +kernel), List.mem_of_getElem? (i := 609) (by decide +kernel), List.mem_of_getElem? (i := 610) (by decide +kernel)⟩
def lw_privs_1 : List (MethodName × Nat) := [(⟨"FacetSieve$Tokens", "readWord", "()V"⟩, 8), (⟨"FacetSieve$Tokens", "wordKind", "()I"⟩, 8), (⟨"FacetSieve$Tokens", "readNumber", "()V"⟩, 8), (⟨"FacetSieve$SchemeReader", "readLine", "()Z"⟩, 2), (⟨"FacetSieve$SchemeReader", "readHead", "()Z"⟩, 2), (⟨"FacetSieve$SchemeReader", "isNewName", "()Z"⟩, 2), (⟨"FacetSieve$SchemeReader", "readValue", "()Z"⟩, 2), (⟨"FacetSieve$SchemeReader", "isValueOfLatestHead", "()Z"⟩, 2), (⟨"FacetSieve$SchemeReader", "readRecord", "()Z"⟩, 2), (⟨"FacetSieve$SchemeReader", "isNumberUpTo", "(I)Z"⟩, 2), (⟨"FacetSieve$SchemeReader", "readTags", "(II)Z"⟩, 2), (⟨"FacetSieve$Sets", "isInside", "(II)Z"⟩, 2), (⟨"FacetSieve", "takeTape", "()V"⟩, 7), (⟨"FacetSieve$QuestionReader", "startDepth", "(I)V"⟩, 10), (⟨"FacetSieve$QuestionReader", "readFact", "()Z"⟩, 10), (⟨"FacetSieve$QuestionReader", "readSet", "(I)Z"⟩, 10)]
theorem lw_r1 : ∀ q ∈ lw_privs_1, lw_okq q := List.forall_mem_cons.mpr ⟨lw_p0, List.forall_mem_cons.mpr ⟨lw_p1, List.forall_mem_cons.mpr ⟨lw_p2, List.forall_mem_cons.mpr ⟨lw_p3, List.forall_mem_cons.mpr ⟨lw_p4, List.forall_mem_cons.mpr ⟨lw_p5, List.forall_mem_cons.mpr ⟨lw_p6, List.forall_mem_cons.mpr ⟨lw_p7, List.forall_mem_cons.mpr ⟨lw_p8, List.forall_mem_cons.mpr ⟨lw_p9, List.forall_mem_cons.mpr ⟨lw_p10, List.forall_mem_cons.mpr ⟨lw_p11, List.forall_mem_cons.mpr ⟨lw_p12, List.forall_mem_cons.mpr ⟨lw_p13, List.forall_mem_cons.mpr ⟨lw_p14, List.forall_mem_cons.mpr ⟨lw_p15, fun _ h => absurd h List.not_mem_nil⟩⟩⟩⟩⟩⟩⟩⟩⟩⟩⟩⟩⟩⟩⟩⟩
theorem lw_p16 : lw_okq (⟨"FacetSieve$QuestionReader", "readJoin", "()Z"⟩, 10) := ⟨⟨by decide +kernel, by decide +kernel⟩, List.mem_of_getElem? (i := 295) (by decide +kernel), List.mem_of_getElem? (i := 622) (by decide +kernel), List.mem_of_getElem? (i := 623) (by decide +kernel)⟩
theorem lw_p17 : lw_okq (⟨"FacetSieve$QuestionReader", "endPart", "()V"⟩, 10) := ⟨⟨by decide +kernel, by decide +kernel⟩, List.mem_of_getElem? (i := 295) (by decide +kernel), List.mem_of_getElem? (i := 626) (by decide +kernel), List.mem_of_getElem? (i := 627) (by decide +kernel)⟩
theorem lw_p18 : lw_okq (⟨"FacetSieve$QuestionReader", "joinTopTwo", "(I)V"⟩, 10) := ⟨⟨by decide +kernel, by decide +kernel⟩, List.mem_of_getElem? (i := 295) (by decide +kernel), List.mem_of_getElem? (i := 630) (by decide +kernel), List.mem_of_getElem? (i := 631) (by decide +kernel)⟩
theorem lw_p19 : lw_okq (⟨"FacetSieve$QuestionReader", "joinFact", "()V"⟩, 10) := ⟨⟨by decide +kernel, by decide +kernel⟩, List.mem_of_getElem? (i := 295) (by decide +kernel), List.mem_of_getElem? (i := 647) (by decide +kernel), List.mem_of_getElem? (i := 648) (by decide +kernel)⟩
theorem lw_p20 : lw_okq (⟨"FacetSieve", "refuse", "(I)I"⟩, 7) := ⟨⟨by decide +kernel, by decide +kernel⟩, List.mem_of_getElem? (i := 19) (by decide +kernel), List.mem_of_getElem? (i := 683) (by decide +kernel), List.mem_of_getElem? (i := 684) (by decide +kernel)⟩
theorem lw_p21 : lw_okq (⟨"FacetSieve", "changeRecord", "(III)I"⟩, 7) := ⟨⟨by decide +kernel, by decide +kernel⟩, List.mem_of_getElem? (i := 19) (by decide +kernel), List.mem_of_getElem? (i := 692) (by decide +kernel), List.mem_of_getElem? (i := 693) (by decide +kernel)⟩
theorem lw_p22 : lw_okq (⟨"FacetSieve", "accept", "()I"⟩, 7) := ⟨⟨by decide +kernel, by decide +kernel⟩, List.mem_of_getElem? (i := 19) (by decide +kernel), List.mem_of_getElem? (i := 702) (by decide +kernel), List.mem_of_getElem? (i := 703) (by decide +kernel)⟩
theorem lw_p23 : lw_okq (⟨"FacetSieve", "sureValues", "()I"⟩, 7) := ⟨⟨by decide +kernel, by decide +kernel⟩, List.mem_of_getElem? (i := 19) (by decide +kernel), List.mem_of_getElem? (i := 793) (by decide +kernel), List.mem_of_getElem? (i := 794) (by decide +kernel)⟩
theorem lw_p24 : lw_okq (⟨"FacetSieve", "lookWhatIsLeft", "()V"⟩, 7) := ⟨⟨by decide +kernel, by decide +kernel⟩, List.mem_of_getElem? (i := 19) (by decide +kernel), List.mem_of_getElem? (i := 797) (by decide +kernel), List.mem_of_getElem? (i := 798) (by decide +kernel)⟩
theorem lw_p25 : lw_okq (⟨"FacetSieve", "amountLeftWith", "(I)I"⟩, 7) := ⟨⟨by decide +kernel, by decide +kernel⟩, List.mem_of_getElem? (i := 19) (by decide +kernel), List.mem_of_getElem? (i := 803) (by decide +kernel), List.mem_of_getElem? (i := 804) (by decide +kernel)⟩
theorem lw_p26 : lw_okq (⟨"FacetSieve", "idleValues", "()I"⟩, 7) := ⟨⟨by decide +kernel, by decide +kernel⟩, List.mem_of_getElem? (i := 19) (by decide +kernel), List.mem_of_getElem? (i := 808) (by decide +kernel), List.mem_of_getElem? (i := 809) (by decide +kernel)⟩
theorem lw_p27 : lw_okq (⟨"FacetSieve", "partingValue", "()I"⟩, 7) := ⟨⟨by decide +kernel, by decide +kernel⟩, List.mem_of_getElem? (i := 19) (by decide +kernel), List.mem_of_getElem? (i := 812) (by decide +kernel), List.mem_of_getElem? (i := 813) (by decide +kernel)⟩
theorem lw_p28 : lw_okq (⟨"FacetSieve", "amountBehind", "(I)I"⟩, 7) := ⟨⟨by decide +kernel, by decide +kernel⟩, List.mem_of_getElem? (i := 19) (by decide +kernel), List.mem_of_getElem? (i := 840) (by decide +kernel), List.mem_of_getElem? (i := 841) (by decide +kernel)⟩
theorem lw_p29 : lw_okq (⟨"FacetSieve", "shownAt", "(I)I"⟩, 7) := ⟨⟨by decide +kernel, by decide +kernel⟩, List.mem_of_getElem? (i := 19) (by decide +kernel), List.mem_of_getElem? (i := 869) (by decide +kernel), List.mem_of_getElem? (i := 870) (by decide +kernel)⟩
theorem lw_p30 : lw_okq (⟨"FacetSieve", "leftOfRankFrom", "(I)I"⟩, 7) := ⟨⟨by decide +kernel, by decide +kernel⟩, List.mem_of_getElem? (i := 19) (by decide +kernel), List.mem_of_getElem? (i := 873) (by decide +kernel), List.mem_of_getElem? (i := 874) (by decide +kernel)⟩
theorem lw_p31 : lw_okq (⟨"FacetSieve", "leftOfRank", "(II)I"⟩, 7) := ⟨⟨by decide +kernel, by decide +kernel⟩, List.mem_of_getElem? (i := 19) (by decide +kernel), List.mem_of_getElem? (i := 877) (by decide +kernel), List.mem_of_getElem? (i := 878) (by decide +kernel)⟩
def lw_privs_2 : List (MethodName × Nat) := [(⟨"FacetSieve$QuestionReader", "readJoin", "()Z"⟩, 10), (⟨"FacetSieve$QuestionReader", "endPart", "()V"⟩, 10), (⟨"FacetSieve$QuestionReader", "joinTopTwo", "(I)V"⟩, 10), (⟨"FacetSieve$QuestionReader", "joinFact", "()V"⟩, 10), (⟨"FacetSieve", "refuse", "(I)I"⟩, 7), (⟨"FacetSieve", "changeRecord", "(III)I"⟩, 7), (⟨"FacetSieve", "accept", "()I"⟩, 7), (⟨"FacetSieve", "sureValues", "()I"⟩, 7), (⟨"FacetSieve", "lookWhatIsLeft", "()V"⟩, 7), (⟨"FacetSieve", "amountLeftWith", "(I)I"⟩, 7), (⟨"FacetSieve", "idleValues", "()I"⟩, 7), (⟨"FacetSieve", "partingValue", "()I"⟩, 7), (⟨"FacetSieve", "amountBehind", "(I)I"⟩, 7), (⟨"FacetSieve", "shownAt", "(I)I"⟩, 7), (⟨"FacetSieve", "leftOfRankFrom", "(I)I"⟩, 7), (⟨"FacetSieve", "leftOfRank", "(II)I"⟩, 7)]
theorem lw_r2 : ∀ q ∈ lw_privs_2, lw_okq q := List.forall_mem_cons.mpr ⟨lw_p16, List.forall_mem_cons.mpr ⟨lw_p17, List.forall_mem_cons.mpr ⟨lw_p18, List.forall_mem_cons.mpr ⟨lw_p19, List.forall_mem_cons.mpr ⟨lw_p20, List.forall_mem_cons.mpr ⟨lw_p21, List.forall_mem_cons.mpr ⟨lw_p22, List.forall_mem_cons.mpr ⟨lw_p23, List.forall_mem_cons.mpr ⟨lw_p24, List.forall_mem_cons.mpr ⟨lw_p25, List.forall_mem_cons.mpr ⟨lw_p26, List.forall_mem_cons.mpr ⟨lw_p27, List.forall_mem_cons.mpr ⟨lw_p28, List.forall_mem_cons.mpr ⟨lw_p29, List.forall_mem_cons.mpr ⟨lw_p30, List.forall_mem_cons.mpr ⟨lw_p31, fun _ h => absurd h List.not_mem_nil⟩⟩⟩⟩⟩⟩⟩⟩⟩⟩⟩⟩⟩⟩⟩⟩
theorem lw_p32 : lw_okq (⟨"FacetSieve$Stock", "namingOne", "(I)I"⟩, 4) := ⟨⟨by decide +kernel, by decide +kernel⟩, List.mem_of_getElem? (i := 49) (by decide +kernel), List.mem_of_getElem? (i := 918) (by decide +kernel), List.mem_of_getElem? (i := 919) (by decide +kernel)⟩
theorem lw_p33 : lw_okq (⟨"FacetSieve$Stock", "isAlone", "(III)Z"⟩, 4) := ⟨⟨by decide +kernel, by decide +kernel⟩, List.mem_of_getElem? (i := 49) (by decide +kernel), List.mem_of_getElem? (i := 922) (by decide +kernel), List.mem_of_getElem? (i := 923) (by decide +kernel)⟩
theorem lw_p34 : lw_okq (⟨"FacetSieve$Stock", "namingTwo", "(I)I"⟩, 4) := ⟨⟨by decide +kernel, by decide +kernel⟩, List.mem_of_getElem? (i := 49) (by decide +kernel), List.mem_of_getElem? (i := 927) (by decide +kernel), List.mem_of_getElem? (i := 928) (by decide +kernel)⟩
theorem lw_p35 : lw_okq (⟨"FacetSieve$Stock", "namingThree", "(I)I"⟩, 4) := ⟨⟨by decide +kernel, by decide +kernel⟩, List.mem_of_getElem? (i := 49) (by decide +kernel), List.mem_of_getElem? (i := 931) (by decide +kernel), List.mem_of_getElem? (i := 932) (by decide +kernel)⟩
theorem lw_p36 : lw_okq (⟨"FacetSieveModel", "summed", "(I)I"⟩, 26) := ⟨⟨by decide +kernel, by decide +kernel⟩, List.mem_of_getElem? (i := 975) (by decide +kernel), List.mem_of_getElem? (i := 1068) (by decide +kernel), List.mem_of_getElem? (i := 1069) (by decide +kernel)⟩
theorem lw_p37 : lw_okq (⟨"FacetSieveModel", "laysSet", "([II)V"⟩, 26) := ⟨⟨by decide +kernel, by decide +kernel⟩, List.mem_of_getElem? (i := 975) (by decide +kernel), List.mem_of_getElem? (i := 1072) (by decide +kernel), List.mem_of_getElem? (i := 1073) (by decide +kernel)⟩
theorem lw_p38 : lw_okq (⟨"FacetSieveModel", "isUnder", "(II)Z"⟩, 26) := ⟨⟨by decide +kernel, by decide +kernel⟩, List.mem_of_getElem? (i := 975) (by decide +kernel), List.mem_of_getElem? (i := 1076) (by decide +kernel), List.mem_of_getElem? (i := 1077) (by decide +kernel)⟩
theorem lw_p39 : lw_okq (⟨"FacetSieveModel", "tagsOf", "(I)I"⟩, 26) := ⟨⟨by decide +kernel, by decide +kernel⟩, List.mem_of_getElem? (i := 975) (by decide +kernel), List.mem_of_getElem? (i := 1083) (by decide +kernel), List.mem_of_getElem? (i := 1084) (by decide +kernel)⟩
theorem lw_p40 : lw_okq (⟨"FacetSieveModel", "thereMany", "()I"⟩, 26) := ⟨⟨by decide +kernel, by decide +kernel⟩, List.mem_of_getElem? (i := 975) (by decide +kernel), List.mem_of_getElem? (i := 1102) (by decide +kernel), List.mem_of_getElem? (i := 1103) (by decide +kernel)⟩
theorem lw_p41 : lw_okq (⟨"FacetSieveModel", "leftMany", "()I"⟩, 26) := ⟨⟨by decide +kernel, by decide +kernel⟩, List.mem_of_getElem? (i := 975) (by decide +kernel), List.mem_of_getElem? (i := 1106) (by decide +kernel), List.mem_of_getElem? (i := 1107) (by decide +kernel)⟩
theorem lw_p42 : lw_okq (⟨"FacetSieveModel", "laysLeft", "(I)V"⟩, 26) := ⟨⟨by decide +kernel, by decide +kernel⟩, List.mem_of_getElem? (i := 975) (by decide +kernel), List.mem_of_getElem? (i := 1110) (by decide +kernel), List.mem_of_getElem? (i := 1111) (by decide +kernel)⟩
theorem lw_p43 : lw_okq (⟨"FacetSieveModel", "goesBy", "(I)V"⟩, 26) := ⟨⟨by decide +kernel, by decide +kernel⟩, List.mem_of_getElem? (i := 975) (by decide +kernel), List.mem_of_getElem? (i := 1114) (by decide +kernel), List.mem_of_getElem? (i := 1115) (by decide +kernel)⟩
theorem lw_p44 : lw_okq (⟨"FacetSieveModel", "ofHead", "(I)I"⟩, 26) := ⟨⟨by decide +kernel, by decide +kernel⟩, List.mem_of_getElem? (i := 975) (by decide +kernel), List.mem_of_getElem? (i := 1121) (by decide +kernel), List.mem_of_getElem? (i := 1122) (by decide +kernel)⟩
theorem lw_p45 : lw_okq (⟨"FacetSieveModel", "chosen", "(I)I"⟩, 26) := ⟨⟨by decide +kernel, by decide +kernel⟩, List.mem_of_getElem? (i := 975) (by decide +kernel), List.mem_of_getElem? (i := 1125) (by decide +kernel), List.mem_of_getElem? (i := 1126) (by decide +kernel)⟩
theorem lw_p46 : lw_okq (⟨"FacetSieveModel", "toldMany", "(Z)I"⟩, 26) := ⟨⟨by decide +kernel, by decide +kernel⟩, List.mem_of_getElem? (i := 975) (by decide +kernel), List.mem_of_getElem? (i := 1132) (by decide +kernel), List.mem_of_getElem? (i := 1133) (by decide +kernel)⟩
theorem lw_p47 : lw_okq (⟨"FacetSieveModel", "isIdle", "(I)Z"⟩, 26) := ⟨⟨by decide +kernel, by decide +kernel⟩, List.mem_of_getElem? (i := 975) (by decide +kernel), List.mem_of_getElem? (i := 1136) (by decide +kernel), List.mem_of_getElem? (i := 1137) (by decide +kernel)⟩
def lw_privs_3 : List (MethodName × Nat) := [(⟨"FacetSieve$Stock", "namingOne", "(I)I"⟩, 4), (⟨"FacetSieve$Stock", "isAlone", "(III)Z"⟩, 4), (⟨"FacetSieve$Stock", "namingTwo", "(I)I"⟩, 4), (⟨"FacetSieve$Stock", "namingThree", "(I)I"⟩, 4), (⟨"FacetSieveModel", "summed", "(I)I"⟩, 26), (⟨"FacetSieveModel", "laysSet", "([II)V"⟩, 26), (⟨"FacetSieveModel", "isUnder", "(II)Z"⟩, 26), (⟨"FacetSieveModel", "tagsOf", "(I)I"⟩, 26), (⟨"FacetSieveModel", "thereMany", "()I"⟩, 26), (⟨"FacetSieveModel", "leftMany", "()I"⟩, 26), (⟨"FacetSieveModel", "laysLeft", "(I)V"⟩, 26), (⟨"FacetSieveModel", "goesBy", "(I)V"⟩, 26), (⟨"FacetSieveModel", "ofHead", "(I)I"⟩, 26), (⟨"FacetSieveModel", "chosen", "(I)I"⟩, 26), (⟨"FacetSieveModel", "toldMany", "(Z)I"⟩, 26), (⟨"FacetSieveModel", "isIdle", "(I)Z"⟩, 26)]
theorem lw_r3 : ∀ q ∈ lw_privs_3, lw_okq q := List.forall_mem_cons.mpr ⟨lw_p32, List.forall_mem_cons.mpr ⟨lw_p33, List.forall_mem_cons.mpr ⟨lw_p34, List.forall_mem_cons.mpr ⟨lw_p35, List.forall_mem_cons.mpr ⟨lw_p36, List.forall_mem_cons.mpr ⟨lw_p37, List.forall_mem_cons.mpr ⟨lw_p38, List.forall_mem_cons.mpr ⟨lw_p39, List.forall_mem_cons.mpr ⟨lw_p40, List.forall_mem_cons.mpr ⟨lw_p41, List.forall_mem_cons.mpr ⟨lw_p42, List.forall_mem_cons.mpr ⟨lw_p43, List.forall_mem_cons.mpr ⟨lw_p44, List.forall_mem_cons.mpr ⟨lw_p45, List.forall_mem_cons.mpr ⟨lw_p46, List.forall_mem_cons.mpr ⟨lw_p47, fun _ h => absurd h List.not_mem_nil⟩⟩⟩⟩⟩⟩⟩⟩⟩⟩⟩⟩⟩⟩⟩⟩
theorem lw_p48 : lw_okq (⟨"FacetSieveModel", "aheadOf", "(I)I"⟩, 26) := ⟨⟨by decide +kernel, by decide +kernel⟩, List.mem_of_getElem? (i := 975) (by decide +kernel), List.mem_of_getElem? (i := 1140) (by decide +kernel), List.mem_of_getElem? (i := 1141) (by decide +kernel)⟩
theorem lw_p49 : lw_okq (⟨"FacetSieveModel", "isSure", "(I)Z"⟩, 26) := ⟨⟨by decide +kernel, by decide +kernel⟩, List.mem_of_getElem? (i := 975) (by decide +kernel), List.mem_of_getElem? (i := 1144) (by decide +kernel), List.mem_of_getElem? (i := 1145) (by decide +kernel)⟩
theorem lw_p50 : lw_okq (⟨"FacetSieveModel", "inSet", "(I)I"⟩, 26) := ⟨⟨by decide +kernel, by decide +kernel⟩, List.mem_of_getElem? (i := 975) (by decide +kernel), List.mem_of_getElem? (i := 1148) (by decide +kernel), List.mem_of_getElem? (i := 1149) (by decide +kernel)⟩
theorem lw_p51 : lw_okq (⟨"FacetSieveModel", "parting", "()I"⟩, 26) := ⟨⟨by decide +kernel, by decide +kernel⟩, List.mem_of_getElem? (i := 975) (by decide +kernel), List.mem_of_getElem? (i := 1152) (by decide +kernel), List.mem_of_getElem? (i := 1153) (by decide +kernel)⟩
theorem lw_p52 : lw_okq (⟨"FacetSieveModel", "isHead", "(I)Z"⟩, 26) := ⟨⟨by decide +kernel, by decide +kernel⟩, List.mem_of_getElem? (i := 975) (by decide +kernel), List.mem_of_getElem? (i := 1160) (by decide +kernel), List.mem_of_getElem? (i := 1161) (by decide +kernel)⟩
theorem lw_p53 : lw_okq (⟨"FacetSieveModel", "letter", "(II)I"⟩, 26) := ⟨⟨by decide +kernel, by decide +kernel⟩, List.mem_of_getElem? (i := 975) (by decide +kernel), List.mem_of_getElem? (i := 1164) (by decide +kernel), List.mem_of_getElem? (i := 1165) (by decide +kernel)⟩
theorem lw_p54 : lw_okq (⟨"FacetSieveModel", "isValue", "(I)Z"⟩, 26) := ⟨⟨by decide +kernel, by decide +kernel⟩, List.mem_of_getElem? (i := 975) (by decide +kernel), List.mem_of_getElem? (i := 1172) (by decide +kernel), List.mem_of_getElem? (i := 1173) (by decide +kernel)⟩
theorem lw_p55 : lw_okq (⟨"FacetSieveModel", "countOf", "(I)I"⟩, 26) := ⟨⟨by decide +kernel, by decide +kernel⟩, List.mem_of_getElem? (i := 975) (by decide +kernel), List.mem_of_getElem? (i := 1176) (by decide +kernel), List.mem_of_getElem? (i := 1177) (by decide +kernel)⟩
theorem lw_p56 : lw_okq (⟨"FacetSieveModel", "isThere", "(I)Z"⟩, 26) := ⟨⟨by decide +kernel, by decide +kernel⟩, List.mem_of_getElem? (i := 975) (by decide +kernel), List.mem_of_getElem? (i := 1188) (by decide +kernel), List.mem_of_getElem? (i := 1189) (by decide +kernel)⟩
theorem lw_p57 : lw_okq (⟨"FacetSieveModel", "isBit", "(II)Z"⟩, 26) := ⟨⟨by decide +kernel, by decide +kernel⟩, List.mem_of_getElem? (i := 975) (by decide +kernel), List.mem_of_getElem? (i := 1195) (by decide +kernel), List.mem_of_getElem? (i := 1196) (by decide +kernel)⟩
theorem lw_p58 : lw_okq (⟨"FacetSieveModel", "at", "([II)I"⟩, 26) := ⟨⟨by decide +kernel, by decide +kernel⟩, List.mem_of_getElem? (i := 975) (by decide +kernel), List.mem_of_getElem? (i := 1210) (by decide +kernel), List.mem_of_getElem? (i := 1211) (by decide +kernel)⟩
theorem lw_p59 : lw_okq (⟨"FacetSieveModel", "inBoth", "()I"⟩, 26) := ⟨⟨by decide +kernel, by decide +kernel⟩, List.mem_of_getElem? (i := 975) (by decide +kernel), List.mem_of_getElem? (i := 1222) (by decide +kernel), List.mem_of_getElem? (i := 1223) (by decide +kernel)⟩
theorem lw_p60 : lw_okq (⟨"FacetSieveModel", "doName", "(II)Z"⟩, 26) := ⟨⟨by decide +kernel, by decide +kernel⟩, List.mem_of_getElem? (i := 975) (by decide +kernel), List.mem_of_getElem? (i := 1237) (by decide +kernel), List.mem_of_getElem? (i := 1238) (by decide +kernel)⟩
theorem lw_p61 : lw_okq (⟨"FacetSieveModel", "nextPick", "(I)Z"⟩, 26) := ⟨⟨by decide +kernel, by decide +kernel⟩, List.mem_of_getElem? (i := 975) (by decide +kernel), List.mem_of_getElem? (i := 1241) (by decide +kernel), List.mem_of_getElem? (i := 1242) (by decide +kernel)⟩
theorem lw_p62 : lw_okq (⟨"FacetSieveModel", "refused", "(II)I"⟩, 26) := ⟨⟨by decide +kernel, by decide +kernel⟩, List.mem_of_getElem? (i := 975) (by decide +kernel), List.mem_of_getElem? (i := 1257) (by decide +kernel), List.mem_of_getElem? (i := 1258) (by decide +kernel)⟩
theorem lw_p63 : lw_okq (⟨"FacetSieveModel", "keeps", "()V"⟩, 26) := ⟨⟨by decide +kernel, by decide +kernel⟩, List.mem_of_getElem? (i := 975) (by decide +kernel), List.mem_of_getElem? (i := 1261) (by decide +kernel), List.mem_of_getElem? (i := 1262) (by decide +kernel)⟩
def lw_privs_4 : List (MethodName × Nat) := [(⟨"FacetSieveModel", "aheadOf", "(I)I"⟩, 26), (⟨"FacetSieveModel", "isSure", "(I)Z"⟩, 26), (⟨"FacetSieveModel", "inSet", "(I)I"⟩, 26), (⟨"FacetSieveModel", "parting", "()I"⟩, 26), (⟨"FacetSieveModel", "isHead", "(I)Z"⟩, 26), (⟨"FacetSieveModel", "letter", "(II)I"⟩, 26), (⟨"FacetSieveModel", "isValue", "(I)Z"⟩, 26), (⟨"FacetSieveModel", "countOf", "(I)I"⟩, 26), (⟨"FacetSieveModel", "isThere", "(I)Z"⟩, 26), (⟨"FacetSieveModel", "isBit", "(II)Z"⟩, 26), (⟨"FacetSieveModel", "at", "([II)I"⟩, 26), (⟨"FacetSieveModel", "inBoth", "()I"⟩, 26), (⟨"FacetSieveModel", "doName", "(II)Z"⟩, 26), (⟨"FacetSieveModel", "nextPick", "(I)Z"⟩, 26), (⟨"FacetSieveModel", "refused", "(II)I"⟩, 26), (⟨"FacetSieveModel", "keeps", "()V"⟩, 26)]
theorem lw_r4 : ∀ q ∈ lw_privs_4, lw_okq q := List.forall_mem_cons.mpr ⟨lw_p48, List.forall_mem_cons.mpr ⟨lw_p49, List.forall_mem_cons.mpr ⟨lw_p50, List.forall_mem_cons.mpr ⟨lw_p51, List.forall_mem_cons.mpr ⟨lw_p52, List.forall_mem_cons.mpr ⟨lw_p53, List.forall_mem_cons.mpr ⟨lw_p54, List.forall_mem_cons.mpr ⟨lw_p55, List.forall_mem_cons.mpr ⟨lw_p56, List.forall_mem_cons.mpr ⟨lw_p57, List.forall_mem_cons.mpr ⟨lw_p58, List.forall_mem_cons.mpr ⟨lw_p59, List.forall_mem_cons.mpr ⟨lw_p60, List.forall_mem_cons.mpr ⟨lw_p61, List.forall_mem_cons.mpr ⟨lw_p62, List.forall_mem_cons.mpr ⟨lw_p63, fun _ h => absurd h List.not_mem_nil⟩⟩⟩⟩⟩⟩⟩⟩⟩⟩⟩⟩⟩⟩⟩⟩
theorem lw_p64 : lw_okq (⟨"FacetSieveModel", "copies", "(III)V"⟩, 26) := ⟨⟨by decide +kernel, by decide +kernel⟩, List.mem_of_getElem? (i := 975) (by decide +kernel), List.mem_of_getElem? (i := 1265) (by decide +kernel), List.mem_of_getElem? (i := 1266) (by decide +kernel)⟩
theorem lw_p65 : lw_okq (⟨"FacetSieveModel", "turns", "(II)V"⟩, 26) := ⟨⟨by decide +kernel, by decide +kernel⟩, List.mem_of_getElem? (i := 975) (by decide +kernel), List.mem_of_getElem? (i := 1269) (by decide +kernel), List.mem_of_getElem? (i := 1270) (by decide +kernel)⟩
theorem lw_p66 : lw_okq (⟨"FacetSieveModel", "held", "(III)I"⟩, 26) := ⟨⟨by decide +kernel, by decide +kernel⟩, List.mem_of_getElem? (i := 975) (by decide +kernel), List.mem_of_getElem? (i := 1281) (by decide +kernel), List.mem_of_getElem? (i := 1282) (by decide +kernel)⟩
theorem lw_p67 : lw_okq (⟨"FacetSieveModel", "begins", "()V"⟩, 26) := ⟨⟨by decide +kernel, by decide +kernel⟩, List.mem_of_getElem? (i := 975) (by decide +kernel), List.mem_of_getElem? (i := 1325) (by decide +kernel), List.mem_of_getElem? (i := 1326) (by decide +kernel)⟩
theorem lw_p68 : lw_okq (⟨"FacetSieveModel", "takes", "()V"⟩, 26) := ⟨⟨by decide +kernel, by decide +kernel⟩, List.mem_of_getElem? (i := 975) (by decide +kernel), List.mem_of_getElem? (i := 1329) (by decide +kernel), List.mem_of_getElem? (i := 1330) (by decide +kernel)⟩
theorem lw_p69 : lw_okq (⟨"FacetSieveModel", "byteAt", "(I)I"⟩, 26) := ⟨⟨by decide +kernel, by decide +kernel⟩, List.mem_of_getElem? (i := 975) (by decide +kernel), List.mem_of_getElem? (i := 1333) (by decide +kernel), List.mem_of_getElem? (i := 1334) (by decide +kernel)⟩
theorem lw_p70 : lw_okq (⟨"FacetSieveModel", "isGood", "()Z"⟩, 26) := ⟨⟨by decide +kernel, by decide +kernel⟩, List.mem_of_getElem? (i := 975) (by decide +kernel), List.mem_of_getElem? (i := 1347) (by decide +kernel), List.mem_of_getElem? (i := 1348) (by decide +kernel)⟩
theorem lw_p71 : lw_okq (⟨"FacetSieveModel", "readsLine", "()V"⟩, 26) := ⟨⟨by decide +kernel, by decide +kernel⟩, List.mem_of_getElem? (i := 975) (by decide +kernel), List.mem_of_getElem? (i := 1351) (by decide +kernel), List.mem_of_getElem? (i := 1352) (by decide +kernel)⟩
theorem lw_p72 : lw_okq (⟨"FacetSieveModel", "isWord", "(J)Z"⟩, 26) := ⟨⟨by decide +kernel, by decide +kernel⟩, List.mem_of_getElem? (i := 975) (by decide +kernel), List.mem_of_getElem? (i := 1356) (by decide +kernel), List.mem_of_getElem? (i := 1357) (by decide +kernel)⟩
theorem lw_p73 : lw_okq (⟨"FacetSieveModel", "readsHead", "()V"⟩, 26) := ⟨⟨by decide +kernel, by decide +kernel⟩, List.mem_of_getElem? (i := 975) (by decide +kernel), List.mem_of_getElem? (i := 1360) (by decide +kernel), List.mem_of_getElem? (i := 1361) (by decide +kernel)⟩
theorem lw_p74 : lw_okq (⟨"FacetSieveModel", "fails", "(II)V"⟩, 26) := ⟨⟨by decide +kernel, by decide +kernel⟩, List.mem_of_getElem? (i := 975) (by decide +kernel), List.mem_of_getElem? (i := 1364) (by decide +kernel), List.mem_of_getElem? (i := 1365) (by decide +kernel)⟩
theorem lw_p75 : lw_okq (⟨"FacetSieveModel", "tells", "(I)V"⟩, 26) := ⟨⟨by decide +kernel, by decide +kernel⟩, List.mem_of_getElem? (i := 975) (by decide +kernel), List.mem_of_getElem? (i := 1368) (by decide +kernel), List.mem_of_getElem? (i := 1369) (by decide +kernel)⟩
theorem lw_p76 : lw_okq (⟨"FacetSieveModel", "isName", "()Z"⟩, 26) := ⟨⟨by decide +kernel, by decide +kernel⟩, List.mem_of_getElem? (i := 975) (by decide +kernel), List.mem_of_getElem? (i := 1372) (by decide +kernel), List.mem_of_getElem? (i := 1373) (by decide +kernel)⟩
theorem lw_p77 : lw_okq (⟨"FacetSieveModel", "headBy", "(IJ)I"⟩, 26) := ⟨⟨by decide +kernel, by decide +kernel⟩, List.mem_of_getElem? (i := 975) (by decide +kernel), List.mem_of_getElem? (i := 1388) (by decide +kernel), List.mem_of_getElem? (i := 1389) (by decide +kernel)⟩
theorem lw_p78 : lw_okq (⟨"FacetSieveModel", "nameOf", "(I)J"⟩, 26) := ⟨⟨by decide +kernel, by decide +kernel⟩, List.mem_of_getElem? (i := 975) (by decide +kernel), List.mem_of_getElem? (i := 1392) (by decide +kernel), List.mem_of_getElem? (i := 1393) (by decide +kernel)⟩
theorem lw_p79 : lw_okq (⟨"FacetSieveModel", "valueBy", "(IJ)I"⟩, 26) := ⟨⟨by decide +kernel, by decide +kernel⟩, List.mem_of_getElem? (i := 975) (by decide +kernel), List.mem_of_getElem? (i := 1396) (by decide +kernel), List.mem_of_getElem? (i := 1397) (by decide +kernel)⟩
def lw_privs_5 : List (MethodName × Nat) := [(⟨"FacetSieveModel", "copies", "(III)V"⟩, 26), (⟨"FacetSieveModel", "turns", "(II)V"⟩, 26), (⟨"FacetSieveModel", "held", "(III)I"⟩, 26), (⟨"FacetSieveModel", "begins", "()V"⟩, 26), (⟨"FacetSieveModel", "takes", "()V"⟩, 26), (⟨"FacetSieveModel", "byteAt", "(I)I"⟩, 26), (⟨"FacetSieveModel", "isGood", "()Z"⟩, 26), (⟨"FacetSieveModel", "readsLine", "()V"⟩, 26), (⟨"FacetSieveModel", "isWord", "(J)Z"⟩, 26), (⟨"FacetSieveModel", "readsHead", "()V"⟩, 26), (⟨"FacetSieveModel", "fails", "(II)V"⟩, 26), (⟨"FacetSieveModel", "tells", "(I)V"⟩, 26), (⟨"FacetSieveModel", "isName", "()Z"⟩, 26), (⟨"FacetSieveModel", "headBy", "(IJ)I"⟩, 26), (⟨"FacetSieveModel", "nameOf", "(I)J"⟩, 26), (⟨"FacetSieveModel", "valueBy", "(IJ)I"⟩, 26)]
theorem lw_r5 : ∀ q ∈ lw_privs_5, lw_okq q := List.forall_mem_cons.mpr ⟨lw_p64, List.forall_mem_cons.mpr ⟨lw_p65, List.forall_mem_cons.mpr ⟨lw_p66, List.forall_mem_cons.mpr ⟨lw_p67, List.forall_mem_cons.mpr ⟨lw_p68, List.forall_mem_cons.mpr ⟨lw_p69, List.forall_mem_cons.mpr ⟨lw_p70, List.forall_mem_cons.mpr ⟨lw_p71, List.forall_mem_cons.mpr ⟨lw_p72, List.forall_mem_cons.mpr ⟨lw_p73, List.forall_mem_cons.mpr ⟨lw_p74, List.forall_mem_cons.mpr ⟨lw_p75, List.forall_mem_cons.mpr ⟨lw_p76, List.forall_mem_cons.mpr ⟨lw_p77, List.forall_mem_cons.mpr ⟨lw_p78, List.forall_mem_cons.mpr ⟨lw_p79, fun _ h => absurd h List.not_mem_nil⟩⟩⟩⟩⟩⟩⟩⟩⟩⟩⟩⟩⟩⟩⟩⟩
theorem lw_p80 : lw_okq (⟨"FacetSieveModel", "readsValue", "()V"⟩, 26) := ⟨⟨by decide +kernel, by decide +kernel⟩, List.mem_of_getElem? (i := 975) (by decide +kernel), List.mem_of_getElem? (i := 1400) (by decide +kernel), List.mem_of_getElem? (i := 1401) (by decide +kernel)⟩
theorem lw_p81 : lw_okq (⟨"FacetSieveModel", "hasWord", "(J)Z"⟩, 26) := ⟨⟨by decide +kernel, by decide +kernel⟩, List.mem_of_getElem? (i := 975) (by decide +kernel), List.mem_of_getElem? (i := 1404) (by decide +kernel), List.mem_of_getElem? (i := 1405) (by decide +kernel)⟩
theorem lw_p82 : lw_okq (⟨"FacetSieveModel", "readsRecord", "()V"⟩, 26) := ⟨⟨by decide +kernel, by decide +kernel⟩, List.mem_of_getElem? (i := 975) (by decide +kernel), List.mem_of_getElem? (i := 1408) (by decide +kernel), List.mem_of_getElem? (i := 1409) (by decide +kernel)⟩
theorem lw_p83 : lw_okq (⟨"FacetSieveModel", "numeral", "(II)I"⟩, 26) := ⟨⟨by decide +kernel, by decide +kernel⟩, List.mem_of_getElem? (i := 975) (by decide +kernel), List.mem_of_getElem? (i := 1412) (by decide +kernel), List.mem_of_getElem? (i := 1413) (by decide +kernel)⟩
theorem lw_p84 : lw_okq (⟨"FacetSieveModel", "readsTag", "(I)V"⟩, 26) := ⟨⟨by decide +kernel, by decide +kernel⟩, List.mem_of_getElem? (i := 975) (by decide +kernel), List.mem_of_getElem? (i := 1416) (by decide +kernel), List.mem_of_getElem? (i := 1417) (by decide +kernel)⟩
theorem lw_p85 : lw_okq (⟨"FacetSieveModel", "hasSign", "(I)Z"⟩, 26) := ⟨⟨by decide +kernel, by decide +kernel⟩, List.mem_of_getElem? (i := 975) (by decide +kernel), List.mem_of_getElem? (i := 1420) (by decide +kernel), List.mem_of_getElem? (i := 1421) (by decide +kernel)⟩
theorem lw_p86 : lw_okq (⟨"FacetSieveModel", "isSign", "(I)Z"⟩, 26) := ⟨⟨by decide +kernel, by decide +kernel⟩, List.mem_of_getElem? (i := 975) (by decide +kernel), List.mem_of_getElem? (i := 1424) (by decide +kernel), List.mem_of_getElem? (i := 1425) (by decide +kernel)⟩
theorem lw_p87 : lw_okq (⟨"FacetSieveModel", "opens", "()V"⟩, 26) := ⟨⟨by decide +kernel, by decide +kernel⟩, List.mem_of_getElem? (i := 975) (by decide +kernel), List.mem_of_getElem? (i := 1432) (by decide +kernel), List.mem_of_getElem? (i := 1433) (by decide +kernel)⟩
theorem lw_p88 : lw_okq (⟨"FacetSieveModel", "isFact", "()Z"⟩, 26) := ⟨⟨by decide +kernel, by decide +kernel⟩, List.mem_of_getElem? (i := 975) (by decide +kernel), List.mem_of_getElem? (i := 1436) (by decide +kernel), List.mem_of_getElem? (i := 1437) (by decide +kernel)⟩
theorem lw_p89 : lw_okq (⟨"FacetSieveModel", "comes", "()V"⟩, 26) := ⟨⟨by decide +kernel, by decide +kernel⟩, List.mem_of_getElem? (i := 975) (by decide +kernel), List.mem_of_getElem? (i := 1440) (by decide +kernel), List.mem_of_getElem? (i := 1441) (by decide +kernel)⟩
theorem lw_p90 : lw_okq (⟨"FacetSieveModel", "laysLevel", "([I[I)V"⟩, 26) := ⟨⟨by decide +kernel, by decide +kernel⟩, List.mem_of_getElem? (i := 975) (by decide +kernel), List.mem_of_getElem? (i := 1444) (by decide +kernel), List.mem_of_getElem? (i := 1445) (by decide +kernel)⟩
theorem lw_p91 : lw_okq (⟨"FacetSieveModel", "takesLevel", "([I[I)V"⟩, 26) := ⟨⟨by decide +kernel, by decide +kernel⟩, List.mem_of_getElem? (i := 975) (by decide +kernel), List.mem_of_getElem? (i := 1448) (by decide +kernel), List.mem_of_getElem? (i := 1449) (by decide +kernel)⟩
theorem lw_p92 : lw_okq (⟨"FacetSieveModel", "goesOn", "()Z"⟩, 26) := ⟨⟨by decide +kernel, by decide +kernel⟩, List.mem_of_getElem? (i := 975) (by decide +kernel), List.mem_of_getElem? (i := 1452) (by decide +kernel), List.mem_of_getElem? (i := 1453) (by decide +kernel)⟩
theorem lw_p93 : lw_okq (⟨"FacetSieveModel", "ends", "()V"⟩, 26) := ⟨⟨by decide +kernel, by decide +kernel⟩, List.mem_of_getElem? (i := 975) (by decide +kernel), List.mem_of_getElem? (i := 1456) (by decide +kernel), List.mem_of_getElem? (i := 1457) (by decide +kernel)⟩
def lw_privs_6 : List (MethodName × Nat) := [(⟨"FacetSieveModel", "readsValue", "()V"⟩, 26), (⟨"FacetSieveModel", "hasWord", "(J)Z"⟩, 26), (⟨"FacetSieveModel", "readsRecord", "()V"⟩, 26), (⟨"FacetSieveModel", "numeral", "(II)I"⟩, 26), (⟨"FacetSieveModel", "readsTag", "(I)V"⟩, 26), (⟨"FacetSieveModel", "hasSign", "(I)Z"⟩, 26), (⟨"FacetSieveModel", "isSign", "(I)Z"⟩, 26), (⟨"FacetSieveModel", "opens", "()V"⟩, 26), (⟨"FacetSieveModel", "isFact", "()Z"⟩, 26), (⟨"FacetSieveModel", "comes", "()V"⟩, 26), (⟨"FacetSieveModel", "laysLevel", "([I[I)V"⟩, 26), (⟨"FacetSieveModel", "takesLevel", "([I[I)V"⟩, 26), (⟨"FacetSieveModel", "goesOn", "()Z"⟩, 26), (⟨"FacetSieveModel", "ends", "()V"⟩, 26)]
theorem lw_r6 : ∀ q ∈ lw_privs_6, lw_okq q := List.forall_mem_cons.mpr ⟨lw_p80, List.forall_mem_cons.mpr ⟨lw_p81, List.forall_mem_cons.mpr ⟨lw_p82, List.forall_mem_cons.mpr ⟨lw_p83, List.forall_mem_cons.mpr ⟨lw_p84, List.forall_mem_cons.mpr ⟨lw_p85, List.forall_mem_cons.mpr ⟨lw_p86, List.forall_mem_cons.mpr ⟨lw_p87, List.forall_mem_cons.mpr ⟨lw_p88, List.forall_mem_cons.mpr ⟨lw_p89, List.forall_mem_cons.mpr ⟨lw_p90, List.forall_mem_cons.mpr ⟨lw_p91, List.forall_mem_cons.mpr ⟨lw_p92, List.forall_mem_cons.mpr ⟨lw_p93, fun _ h => absurd h List.not_mem_nil⟩⟩⟩⟩⟩⟩⟩⟩⟩⟩⟩⟩⟩⟩
def lw_privs : List (MethodName × Nat) := lw_privs_1 ++ (lw_privs_2 ++ (lw_privs_3 ++ (lw_privs_4 ++ (lw_privs_5 ++ (lw_privs_6)))))
def lw_tbl : List Cond := k2_sels lw_privs ++ tables_1
theorem lw_privs_ok : ∀ q ∈ lw_privs, lw_okq q := by
  show ∀ q ∈ lw_privs_1 ++ (lw_privs_2 ++ (lw_privs_3 ++ (lw_privs_4 ++ (lw_privs_5 ++ (lw_privs_6))))), lw_okq q
  exact List.forall_mem_append.mpr ⟨lw_r1, List.forall_mem_append.mpr ⟨lw_r2, List.forall_mem_append.mpr ⟨lw_r3, List.forall_mem_append.mpr ⟨lw_r4, List.forall_mem_append.mpr ⟨lw_r5, lw_r6⟩⟩⟩⟩⟩

def RX0 : String := "FacetSieve$Boxes"
def TX0 : u_T := fun k => match k with
  | _ => ("", "", "", false)
def tyX0 : Nat → FieldType := fun k => match k with
  | _ => .int
theorem nmX0 : ∀ a, a < 0 → ∀ b, b < 0 → a ≠ b → (TX0 a).2.1 ≠ (TX0 b).2.1 := by decide +kernel
theorem tyX0_ok : ∀ k, k < 0 → parseFieldDescriptor (TX0 k).2.2.1 = some (tyX0 k) := by decide +kernel
def RX1 : String := "FacetSieve$Choice"
def TX1 : u_T := fun k => match k with
  | 0 => ("FacetSieve$Choice", "chosen", "[I", true)
  | _ => ("FacetSieve$Choice", "byAll", "[I", true)
def tyX1 : Nat → FieldType := fun k => match k with
  | 0 => .array .int
  | _ => .array .int
theorem nmX1 : ∀ a, a < 2 → ∀ b, b < 2 → a ≠ b → (TX1 a).2.1 ≠ (TX1 b).2.1 := by decide +kernel
theorem tyX1_ok : ∀ k, k < 2 → parseFieldDescriptor (TX1 k).2.2.1 = some (tyX1 k) := by decide +kernel
def RX2 : String := "FacetSieve$Everything"
def TX2 : u_T := fun k => match k with
  | 0 => ("FacetSieve$Everything", "tape", "LFacetSieve$Tape;", true)
  | 1 => ("FacetSieve$Everything", "stock", "LFacetSieve$Stock;", true)
  | 2 => ("FacetSieve$Everything", "choice", "LFacetSieve$Choice;", true)
  | 3 => ("FacetSieve$Everything", "faultKind", "I", false)
  | 4 => ("FacetSieve$Everything", "faultPlace", "I", false)
  | 5 => ("FacetSieve$Everything", "answered", "Z", false)
  | 6 => ("FacetSieve$Everything", "answerWork", "I", false)
  | 7 => ("FacetSieve$Everything", "answer", "LFacetSieve$Sets;", true)
  | 8 => ("FacetSieve$Everything", "reason", "I", false)
  | _ => ("FacetSieve$Everything", "holder", "I", false)
def tyX2 : Nat → FieldType := fun k => match k with
  | 0 => .object "FacetSieve$Tape"
  | 1 => .object "FacetSieve$Stock"
  | 2 => .object "FacetSieve$Choice"
  | 3 => .int
  | 4 => .int
  | 5 => .boolean
  | 6 => .int
  | 7 => .object "FacetSieve$Sets"
  | 8 => .int
  | _ => .int
theorem nmX2 : ∀ a, a < 10 → ∀ b, b < 10 → a ≠ b → (TX2 a).2.1 ≠ (TX2 b).2.1 := by decide +kernel
theorem tyX2_ok : ∀ k, k < 10 → parseFieldDescriptor (TX2 k).2.2.1 = some (tyX2 k) := by decide +kernel
def RX3 : String := "FacetSieve$Journal"
def TX3 : u_T := fun k => match k with
  | 0 => ("FacetSieve$Journal", "kinds", "[I", true)
  | 1 => ("FacetSieve$Journal", "places", "[I", true)
  | 2 => ("FacetSieve$Journal", "befores", "[I", true)
  | 3 => ("FacetSieve$Journal", "tagsBefore", "[I", true)
  | 4 => ("FacetSieve$Journal", "next", "I", false)
  | _ => ("FacetSieve$Journal", "amount", "I", false)
def tyX3 : Nat → FieldType := fun k => match k with
  | 0 => .array .int
  | 1 => .array .int
  | 2 => .array .int
  | 3 => .array .int
  | 4 => .int
  | _ => .int
theorem nmX3 : ∀ a, a < 6 → ∀ b, b < 6 → a ≠ b → (TX3 a).2.1 ≠ (TX3 b).2.1 := by decide +kernel
theorem tyX3_ok : ∀ k, k < 6 → parseFieldDescriptor (TX3 k).2.2.1 = some (tyX3 k) := by decide +kernel
def RX4 : String := "FacetSieve$Plan"
def TX4 : u_T := fun k => match k with
  | 0 => ("FacetSieve$Plan", "heads", "I", false)
  | 1 => ("FacetSieve$Plan", "headNames", "[J", true)
  | 2 => ("FacetSieve$Plan", "manys", "[I", true)
  | 3 => ("FacetSieve$Plan", "firsts", "[I", true)
  | 4 => ("FacetSieve$Plan", "sizes", "[I", true)
  | 5 => ("FacetSieve$Plan", "values", "I", false)
  | 6 => ("FacetSieve$Plan", "valueNames", "[J", true)
  | 7 => ("FacetSieve$Plan", "headsOf", "[I", true)
  | 8 => ("FacetSieve$Plan", "parents", "[I", true)
  | _ => ("FacetSieve$Plan", "lineages", "[I", true)
def tyX4 : Nat → FieldType := fun k => match k with
  | 0 => .int
  | 1 => .array .long
  | 2 => .array .int
  | 3 => .array .int
  | 4 => .array .int
  | 5 => .int
  | 6 => .array .long
  | 7 => .array .int
  | 8 => .array .int
  | _ => .array .int
theorem nmX4 : ∀ a, a < 10 → ∀ b, b < 10 → a ≠ b → (TX4 a).2.1 ≠ (TX4 b).2.1 := by decide +kernel
theorem tyX4_ok : ∀ k, k < 10 → parseFieldDescriptor (TX4 k).2.2.1 = some (tyX4 k) := by decide +kernel
def RX5 : String := "FacetSieve$QuestionReader"
def TX5 : u_T := fun k => match k with
  | 0 => ("FacetSieve$QuestionReader", "tokens", "LFacetSieve$Tokens;", true)
  | 1 => ("FacetSieve$QuestionReader", "stock", "LFacetSieve$Stock;", true)
  | 2 => ("FacetSieve$QuestionReader", "stack", "LFacetSieve$Sets;", true)
  | 3 => ("FacetSieve$QuestionReader", "joins", "[I", true)
  | 4 => ("FacetSieve$QuestionReader", "waiting", "[I", true)
  | 5 => ("FacetSieve$QuestionReader", "height", "I", false)
  | 6 => ("FacetSieve$QuestionReader", "depth", "I", false)
  | 7 => ("FacetSieve$QuestionReader", "factDue", "Z", false)
  | 8 => ("FacetSieve$QuestionReader", "facts", "I", false)
  | _ => ("FacetSieve$QuestionReader", "work", "I", false)
def tyX5 : Nat → FieldType := fun k => match k with
  | 0 => .object "FacetSieve$Tokens"
  | 1 => .object "FacetSieve$Stock"
  | 2 => .object "FacetSieve$Sets"
  | 3 => .array .int
  | 4 => .array .int
  | 5 => .int
  | 6 => .int
  | 7 => .boolean
  | 8 => .int
  | _ => .int
theorem nmX5 : ∀ a, a < 10 → ∀ b, b < 10 → a ≠ b → (TX5 a).2.1 ≠ (TX5 b).2.1 := by decide +kernel
theorem tyX5_ok : ∀ k, k < 10 → parseFieldDescriptor (TX5 k).2.2.1 = some (tyX5 k) := by decide +kernel
def RX6 : String := "FacetSieve$SchemeReader"
def TX6 : u_T := fun k => match k with
  | 0 => ("FacetSieve$SchemeReader", "tokens", "LFacetSieve$Tokens;", true)
  | _ => ("FacetSieve$SchemeReader", "draft", "LFacetSieve$Stock;", true)
def tyX6 : Nat → FieldType := fun k => match k with
  | 0 => .object "FacetSieve$Tokens"
  | _ => .object "FacetSieve$Stock"
theorem nmX6 : ∀ a, a < 2 → ∀ b, b < 2 → a ≠ b → (TX6 a).2.1 ≠ (TX6 b).2.1 := by decide +kernel
theorem tyX6_ok : ∀ k, k < 2 → parseFieldDescriptor (TX6 k).2.2.1 = some (tyX6 k) := by decide +kernel
def RX7 : String := "FacetSieve$Sets"
def TX7 : u_T := fun k => match k with
  | 0 => ("FacetSieve$Sets", "rows", "I", true)
  | _ => ("FacetSieve$Sets", "bits", "[I", true)
def tyX7 : Nat → FieldType := fun k => match k with
  | 0 => .int
  | _ => .array .int
theorem nmX7 : ∀ a, a < 2 → ∀ b, b < 2 → a ≠ b → (TX7 a).2.1 ≠ (TX7 b).2.1 := by decide +kernel
theorem tyX7_ok : ∀ k, k < 2 → parseFieldDescriptor (TX7 k).2.2.1 = some (tyX7 k) := by decide +kernel
def RX8 : String := "FacetSieve$Stock"
def TX8 : u_T := fun k => match k with
  | 0 => ("FacetSieve$Stock", "plan", "LFacetSieve$Plan;", true)
  | 1 => ("FacetSieve$Stock", "ranks", "[I", true)
  | 2 => ("FacetSieve$Stock", "tags", "[I", true)
  | _ => ("FacetSieve$Stock", "sets", "LFacetSieve$Sets;", true)
def tyX8 : Nat → FieldType := fun k => match k with
  | 0 => .object "FacetSieve$Plan"
  | 1 => .array .int
  | 2 => .array .int
  | _ => .object "FacetSieve$Sets"
theorem nmX8 : ∀ a, a < 4 → ∀ b, b < 4 → a ≠ b → (TX8 a).2.1 ≠ (TX8 b).2.1 := by decide +kernel
theorem tyX8_ok : ∀ k, k < 4 → parseFieldDescriptor (TX8 k).2.2.1 = some (tyX8 k) := by decide +kernel
def RX9 : String := "FacetSieve$Tape"
def TX9 : u_T := fun k => match k with
  | 0 => ("FacetSieve$Tape", "bytes", "[B", true)
  | _ => ("FacetSieve$Tape", "length", "I", false)
def tyX9 : Nat → FieldType := fun k => match k with
  | 0 => .array .byte
  | _ => .int
theorem nmX9 : ∀ a, a < 2 → ∀ b, b < 2 → a ≠ b → (TX9 a).2.1 ≠ (TX9 b).2.1 := by decide +kernel
theorem tyX9_ok : ∀ k, k < 2 → parseFieldDescriptor (TX9 k).2.2.1 = some (tyX9 k) := by decide +kernel
def RX10 : String := "FacetSieve$Tokens"
def TX10 : u_T := fun k => match k with
  | 0 => ("FacetSieve$Tokens", "tape", "LFacetSieve$Tape;", true)
  | 1 => ("FacetSieve$Tokens", "next", "I", false)
  | 2 => ("FacetSieve$Tokens", "kind", "I", false)
  | 3 => ("FacetSieve$Tokens", "place", "I", false)
  | 4 => ("FacetSieve$Tokens", "number", "I", false)
  | 5 => ("FacetSieve$Tokens", "word", "J", false)
  | 6 => ("FacetSieve$Tokens", "faultKind", "I", false)
  | _ => ("FacetSieve$Tokens", "faultPlace", "I", false)
def tyX10 : Nat → FieldType := fun k => match k with
  | 0 => .object "FacetSieve$Tape"
  | 1 => .int
  | 2 => .int
  | 3 => .int
  | 4 => .int
  | 5 => .long
  | 6 => .int
  | _ => .int
theorem nmX10 : ∀ a, a < 8 → ∀ b, b < 8 → a ≠ b → (TX10 a).2.1 ≠ (TX10 b).2.1 := by decide +kernel
theorem tyX10_ok : ∀ k, k < 8 → parseFieldDescriptor (TX10 k).2.2.1 = some (tyX10 k) := by decide +kernel
def RX11 : String := "FacetSieve"
def TX11 : u_T := fun k => match k with
  | 0 => ("FacetSieve", "now", "LFacetSieve$Everything;", true)
  | 1 => ("FacetSieve", "images", "[LFacetSieve$Everything;", true)
  | 2 => ("FacetSieve", "journal", "LFacetSieve$Journal;", true)
  | 3 => ("FacetSieve", "schemes", "LFacetSieve$SchemeReader;", true)
  | 4 => ("FacetSieve", "questions", "LFacetSieve$QuestionReader;", true)
  | 5 => ("FacetSieve", "tokens", "LFacetSieve$Tokens;", true)
  | _ => ("FacetSieve", "leftRow", "LFacetSieve$Sets;", true)
def tyX11 : Nat → FieldType := fun k => match k with
  | 0 => .object "FacetSieve$Everything"
  | 1 => .array (.object "FacetSieve$Everything")
  | 2 => .object "FacetSieve$Journal"
  | 3 => .object "FacetSieve$SchemeReader"
  | 4 => .object "FacetSieve$QuestionReader"
  | 5 => .object "FacetSieve$Tokens"
  | _ => .object "FacetSieve$Sets"
theorem nmX11 : ∀ a, a < 7 → ∀ b, b < 7 → a ≠ b → (TX11 a).2.1 ≠ (TX11 b).2.1 := by decide +kernel
theorem tyX11_ok : ∀ k, k < 7 → parseFieldDescriptor (TX11 k).2.2.1 = some (tyX11 k) := by decide +kernel
def RX12 : String := "FacetSieveModel"
def TX12 : u_T := fun k => match k with
  | 0 => ("FacetSieveModel", "all", "[I", true)
  | 1 => ("FacetSieveModel", "tape", "[I", true)
  | 2 => ("FacetSieveModel", "isImage", "[Z", true)
  | 3 => ("FacetSieveModel", "taped", "I", false)
  | 4 => ("FacetSieveModel", "faultKind", "I", false)
  | 5 => ("FacetSieveModel", "faultPlace", "I", false)
  | 6 => ("FacetSieveModel", "undos", "I", false)
  | 7 => ("FacetSieveModel", "one", "[I", true)
  | 8 => ("FacetSieveModel", "two", "[I", true)
  | 9 => ("FacetSieveModel", "rest", "[I", true)
  | 10 => ("FacetSieveModel", "asking", "[I", true)
  | 11 => ("FacetSieveModel", "picked", "[I", true)
  | 12 => ("FacetSieveModel", "inSets", "[I", true)
  | 13 => ("FacetSieveModel", "size0", "I", false)
  | 14 => ("FacetSieveModel", "next", "I", false)
  | 15 => ("FacetSieveModel", "token", "I", false)
  | 16 => ("FacetSieveModel", "place", "I", false)
  | 17 => ("FacetSieveModel", "value0", "J", false)
  | 18 => ("FacetSieveModel", "ors", "[I", true)
  | 19 => ("FacetSieveModel", "parts", "[I", true)
  | 20 => ("FacetSieveModel", "goes", "[I", true)
  | 21 => ("FacetSieveModel", "hasOr", "[Z", true)
  | 22 => ("FacetSieveModel", "hasPart", "[Z", true)
  | 23 => ("FacetSieveModel", "level", "I", false)
  | 24 => ("FacetSieveModel", "facts", "I", false)
  | _ => ("FacetSieveModel", "worked", "I", false)
def tyX12 : Nat → FieldType := fun k => match k with
  | 0 => .array .int
  | 1 => .array .int
  | 2 => .array .boolean
  | 3 => .int
  | 4 => .int
  | 5 => .int
  | 6 => .int
  | 7 => .array .int
  | 8 => .array .int
  | 9 => .array .int
  | 10 => .array .int
  | 11 => .array .int
  | 12 => .array .int
  | 13 => .int
  | 14 => .int
  | 15 => .int
  | 16 => .int
  | 17 => .long
  | 18 => .array .int
  | 19 => .array .int
  | 20 => .array .int
  | 21 => .array .boolean
  | 22 => .array .boolean
  | 23 => .int
  | 24 => .int
  | _ => .int
theorem nmX12 : ∀ a, a < 26 → ∀ b, b < 26 → a ≠ b → (TX12 a).2.1 ≠ (TX12 b).2.1 := by decide +kernel
theorem tyX12_ok : ∀ k, k < 26 → parseFieldDescriptor (TX12 k).2.2.1 = some (tyX12 k) := by decide +kernel
/-- the classes whose objects the heap holds -/
abbrev zz_cls : List vw_C := [(RX1, TX1, 2), (RX2, TX2, 10), (RX3, TX3, 6), (RX4, TX4, 10), (RX5, TX5, 10), (RX6, TX6, 2), (RX7, TX7, 2), (RX8, TX8, 4), (RX9, TX9, 2), (RX10, TX10, 8), (RX11, TX11, 7), (RX12, TX12, 26)]
def zz_cnl : List String := ["FacetSieve$Choice", "FacetSieve$Everything", "FacetSieve$Journal", "FacetSieve$Plan", "FacetSieve$QuestionReader", "FacetSieve$SchemeReader", "FacetSieve$Sets", "FacetSieve$Stock", "FacetSieve$Tape", "FacetSieve$Tokens", "FacetSieve", "FacetSieveModel", "FacetSieve$Boxes", "FacetSieveLaw", "java/lang/Integer", "java/util/Arrays"]
def zz_cn (o : Nat) : String := zz_cnl.getD o ""
def zz_ty (ci k : Nat) : FieldType := match ci with
  | 0 => tyX1 k
  | 1 => tyX2 k
  | 2 => tyX3 k
  | 3 => tyX4 k
  | 4 => tyX5 k
  | 5 => tyX6 k
  | 6 => tyX7 k
  | 7 => tyX8 k
  | 8 => tyX9 k
  | 9 => tyX10 k
  | 10 => tyX11 k
  | 11 => tyX12 k
  | _ => .int
abbrev zz_M : Type := MethodName × ByteArray × Nat × Option FieldType × Nat × (Nat × Nat) × Nat × Bool × Bool × (Nat × Nat × Nat × Nat)
def zz_T0 : List zz_M := [(⟨"FacetSieveLaw", "law", "([I)Z"⟩, code, 4, (some .boolean), 13, (10, 223), 1, true, false, (0, 0, 0, 0)),
  (⟨"FacetSieve", "<init>", "()V"⟩, prog_1_method_1_code, 1, none, 10, (4, 83), 0, false, true, (116, 115, 0, 95)),
  (⟨"FacetSieve$Everything", "<init>", "()V"⟩, prog_4_method_1_code, 1, none, 1, (3, 62), 0, false, true, (124, 123, 0, 96)),
  (⟨"FacetSieve$Tape", "<init>", "()V"⟩, prog_11_method_1_code, 1, none, 8, (1, 21), 0, false, true, (130, 129, 0, 97)),
  (⟨"FacetSieve$Stock", "<init>", "()V"⟩, prog_10_method_1_code, 1, none, 7, (2, 42), 0, false, true, (146, 145, 0, 98)),
  (⟨"FacetSieve$Plan", "<init>", "()V"⟩, prog_6_method_1_code, 1, none, 3, (1, 21), 0, false, true, (152, 151, 0, 99)),
  (⟨"FacetSieve$Sets", "<init>", "(I)V"⟩, prog_9_method_1_code, 2, none, 6, (1, 21), 1, false, true, (206, 205, 0, 100)),
  (⟨"java/util/Arrays", "fill", "([II)V"⟩, prog_18_method_103_code, 4, none, 15, (0, 0), 2, true, false, (220, 219, 0, 102)),
  (⟨"FacetSieve$Choice", "<init>", "()V"⟩, prog_3_method_1_code, 1, none, 0, (1, 21), 0, false, true, (249, 248, 0, 103)),
  (⟨"FacetSieve$Journal", "<init>", "()V"⟩, prog_5_method_1_code, 1, none, 2, (1, 21), 0, false, true, (312, 311, 0, 104)),
  (⟨"FacetSieve$Tokens", "<init>", "(LFacetSieve$Tape;)V"⟩, prog_12_method_1_code, 2, none, 9, (1, 21), 1, false, true, (338, 337, 0, 105)),
  (⟨"FacetSieve$SchemeReader", "<init>", "(LFacetSieve$Tokens;)V"⟩, prog_8_method_1_code, 2, none, 5, (3, 62), 1, false, true, (376, 375, 0, 106)),
  (⟨"FacetSieve$QuestionReader", "<init>", "(LFacetSieve$Tokens;LFacetSieve$Stock;)V"⟩, prog_7_method_1_code, 3, none, 4, (2, 42), 2, false, true, (392, 391, 0, 107)),
  (⟨"FacetSieve", "feed", "(IIIII)I"⟩, prog_1_method_2_code, 7, (some .int), 10, (2, 43), 5, false, false, (456, 454, 455, 95)),
  (⟨"FacetSieve$Tape", "hasRoom", "(I)Z"⟩, prog_11_method_2_code, 2, (some .boolean), 8, (0, 0), 1, false, false, (460, 458, 459, 97)),
  (⟨"FacetSieve$Tape", "takeNumber", "(I)V"⟩, prog_11_method_3_code, 3, none, 8, (1, 21), 1, false, false, (464, 462, 463, 97)),
  (⟨"FacetSieve", "end", "(I)I"⟩, prog_1_method_3_code, 2, (some .int), 10, (0, 0), 1, false, false, (469, 467, 468, 95)),
  (⟨"FacetSieve", "scheme", "()I"⟩, prog_1_method_4_code, 2, (some .int), 10, (7, 163), 0, false, false, (473, 471, 472, 95)),
  (⟨"FacetSieve$SchemeReader", "readScheme", "()Z"⟩, prog_8_method_2_code, 3, (some .boolean), 5, (6, 141), 0, false, false, (477, 475, 476, 106)),
  (⟨"FacetSieve$Stock", "clear", "()V"⟩, prog_10_method_2_code, 1, none, 7, (2, 43), 0, false, false, (481, 479, 480, 98)),
  (⟨"FacetSieve$Plan", "clear", "()V"⟩, prog_6_method_2_code, 1, none, 3, (0, 0), 0, false, false, (485, 483, 484, 99)),
  (⟨"FacetSieve$Sets", "clear", "()V"⟩, prog_9_method_7_code, 1, none, 6, (1, 23), 0, false, false, (489, 487, 488, 100)),
  (⟨"FacetSieve$Tokens", "start", "()V"⟩, prog_12_method_2_code, 1, none, 9, (3, 63), 0, false, false, (494, 492, 493, 105)),
  (⟨"FacetSieve$Tokens", "step", "()V"⟩, prog_12_method_4_code, 2, none, 9, (2, 42), 0, false, false, (498, 496, 497, 105)),
  (⟨"FacetSieve$Tape", "byteAt", "(I)I"⟩, prog_11_method_4_code, 2, (some .int), 8, (0, 0), 1, false, false, (502, 500, 501, 97)),
  (⟨"FacetSieve$Tokens", "isBlank", "(I)Z"⟩, prog_12_method_9_code, 1, (some .boolean), 9, (0, 0), 1, true, false, (505, 504, 0, 105)),
  (⟨"FacetSieve$Tokens", "isLetter", "(I)Z"⟩, prog_12_method_10_code, 1, (some .boolean), 9, (0, 0), 1, true, false, (508, 507, 0, 105)),
  (⟨"FacetSieve$Tokens", "readWord", "()V"⟩, prog_12_method_5_code, 2, none, 9, (1, 21), 0, false, false, (512, 511, 0, 105)),
  (⟨"FacetSieve$Tokens", "wordKind", "()I"⟩, prog_12_method_7_code, 1, (some .int), 9, (0, 0), 0, false, false, (516, 515, 1, 105)),
  (⟨"FacetSieve$Tokens", "isDigit", "(I)Z"⟩, prog_12_method_11_code, 1, (some .boolean), 9, (0, 0), 1, true, false, (529, 528, 0, 105)),
  (⟨"FacetSieve$Tokens", "readNumber", "()V"⟩, prog_12_method_6_code, 2, none, 9, (1, 21), 0, false, false, (533, 532, 2, 105)),
  (⟨"FacetSieve$Tokens", "signKind", "(I)I"⟩, prog_12_method_8_code, 1, (some .int), 9, (0, 0), 1, true, false, (536, 535, 0, 105))]
def zz_T1 : List zz_M := [(⟨"FacetSieve$SchemeReader", "readLine", "()Z"⟩, prog_8_method_3_code, 2, (some .boolean), 5, (5, 120), 0, false, false, (540, 539, 3, 106)),
  (⟨"FacetSieve$SchemeReader", "readHead", "()Z"⟩, prog_8_method_4_code, 3, (some .boolean), 5, (3, 66), 0, false, false, (544, 543, 4, 106)),
  (⟨"FacetSieve$Plan", "hasRoomForHead", "()Z"⟩, prog_6_method_6_code, 1, (some .boolean), 3, (0, 0), 0, false, false, (548, 546, 547, 99)),
  (⟨"FacetSieve$Tokens", "fail", "(I)Z"⟩, prog_12_method_3_code, 2, (some .boolean), 9, (0, 0), 1, false, false, (552, 550, 551, 105)),
  (⟨"FacetSieve$SchemeReader", "isNewName", "()Z"⟩, prog_8_method_6_code, 1, (some .boolean), 5, (2, 46), 0, false, false, (557, 556, 5, 106)),
  (⟨"FacetSieve$Plan", "isTaken", "(J)Z"⟩, prog_6_method_11_code, 4, (some .boolean), 3, (1, 23), 1, false, false, (561, 559, 560, 99)),
  (⟨"FacetSieve$Plan", "valueNamed", "(J)I"⟩, prog_6_method_10_code, 4, (some .int), 3, (0, 0), 1, false, false, (565, 563, 564, 99)),
  (⟨"FacetSieve$Plan", "addHead", "(JZ)V"⟩, prog_6_method_8_code, 4, none, 3, (1, 20), 2, false, false, (569, 567, 568, 99)),
  (⟨"FacetSieve$SchemeReader", "readValue", "()Z"⟩, prog_8_method_5_code, 4, (some .boolean), 5, (3, 66), 0, false, false, (574, 573, 6, 106)),
  (⟨"FacetSieve$Plan", "hasRoomForValue", "()Z"⟩, prog_6_method_7_code, 1, (some .boolean), 3, (0, 0), 0, false, false, (578, 576, 577, 99)),
  (⟨"FacetSieve$SchemeReader", "isValueOfLatestHead", "()Z"⟩, prog_8_method_7_code, 2, (some .boolean), 5, (1, 23), 0, false, false, (582, 581, 7, 106)),
  (⟨"FacetSieve$Plan", "addValue", "(JI)V"⟩, prog_6_method_9_code, 4, none, 3, (1, 21), 2, false, false, (587, 585, 586, 99)),
  (⟨"FacetSieve$Plan", "isValue", "(I)Z"⟩, prog_6_method_5_code, 2, (some .boolean), 3, (0, 0), 1, false, false, (592, 590, 591, 99)),
  (⟨"FacetSieve$SchemeReader", "readRecord", "()Z"⟩, prog_8_method_8_code, 3, (some .boolean), 5, (4, 98), 0, false, false, (596, 595, 8, 106)),
  (⟨"FacetSieve$SchemeReader", "isNumberUpTo", "(I)Z"⟩, prog_8_method_9_code, 2, (some .boolean), 5, (1, 21), 1, false, false, (600, 599, 9, 106)),
  (⟨"FacetSieve$Stock", "isThere", "(I)Z"⟩, prog_10_method_4_code, 2, (some .boolean), 7, (1, 20), 1, false, false, (604, 602, 603, 98)),
  (⟨"FacetSieve", "isRecord", "(I)Z"⟩, prog_1_method_32_code, 1, (some .boolean), 10, (0, 0), 1, true, false, (607, 606, 0, 95)),
  (⟨"FacetSieve$SchemeReader", "readTags", "(II)Z"⟩, prog_8_method_10_code, 6, (some .boolean), 5, (3, 73), 2, false, false, (611, 610, 10, 106)),
  (⟨"FacetSieve", "hasBit", "(II)Z"⟩, prog_1_method_34_code, 2, (some .boolean), 10, (0, 0), 2, true, false, (614, 613, 0, 95)),
  (⟨"FacetSieve$Plan", "holderAgainst", "(II)I"⟩, prog_6_method_12_code, 5, (some .int), 3, (1, 21), 2, false, false, (618, 616, 617, 99)),
  (⟨"FacetSieve$Stock", "put", "(III)V"⟩, prog_10_method_5_code, 6, none, 7, (2, 48), 3, false, false, (623, 621, 622, 98)),
  (⟨"FacetSieve$Sets", "setMember", "(IIZ)V"⟩, prog_9_method_6_code, 7, none, 6, (1, 22), 3, false, false, (627, 625, 626, 100)),
  (⟨"FacetSieve$Sets", "isInside", "(II)Z"⟩, prog_9_method_2_code, 3, (some .boolean), 6, (0, 0), 2, false, false, (631, 630, 11, 100)),
  (⟨"FacetSieve$Plan", "lineageOf", "(I)I"⟩, prog_6_method_13_code, 4, (some .int), 3, (1, 21), 1, false, false, (635, 633, 634, 99)),
  (⟨"FacetSieve", "takeTape", "()V"⟩, prog_1_method_36_code, 1, none, 10, (0, 0), 0, false, false, (640, 639, 12, 95)),
  (⟨"FacetSieve$Stock", "copyFrom", "(LFacetSieve$Stock;)V"⟩, prog_10_method_3_code, 2, none, 7, (2, 60), 1, false, false, (644, 642, 643, 98)),
  (⟨"FacetSieve$Plan", "copyFrom", "(LFacetSieve$Plan;)V"⟩, prog_6_method_3_code, 2, none, 3, (1, 39), 1, false, false, (648, 646, 647, 99)),
  (⟨"FacetSieve$Sets", "copyFrom", "(LFacetSieve$Sets;)V"⟩, prog_9_method_8_code, 2, none, 6, (1, 39), 1, false, false, (656, 654, 655, 100)),
  (⟨"FacetSieve$Choice", "clear", "()V"⟩, prog_3_method_2_code, 1, none, 0, (1, 23), 0, false, false, (664, 662, 663, 103)),
  (⟨"FacetSieve$Journal", "clear", "()V"⟩, prog_5_method_2_code, 1, none, 2, (0, 0), 0, false, false, (669, 667, 668, 104)),
  (⟨"FacetSieve$Sets", "amount", "(I)I"⟩, prog_9_method_10_code, 4, (some .int), 6, (2, 44), 1, false, false, (673, 671, 672, 100)),
  (⟨"FacetSieve$Sets", "bitsOf", "(II)I"⟩, prog_9_method_3_code, 3, (some .int), 6, (1, 22), 2, false, false, (677, 675, 676, 100))]
def zz_T2 : List zz_M := [(⟨"java/lang/Integer", "bitCount", "(I)I"⟩, prog_15_method_49_code, 1, (some .int), 14, (0, 0), 1, true, false, (680, 679, 0, 110)),
  (⟨"FacetSieve", "ask", "()I"⟩, prog_1_method_5_code, 2, (some .int), 10, (7, 151), 0, false, false, (687, 685, 686, 95)),
  (⟨"FacetSieve$QuestionReader", "readWhole", "()Z"⟩, prog_7_method_2_code, 3, (some .boolean), 4, (6, 129), 0, false, false, (691, 689, 690, 107)),
  (⟨"FacetSieve$QuestionReader", "startDepth", "(I)V"⟩, prog_7_method_3_code, 2, none, 4, (0, 0), 1, false, false, (695, 694, 13, 107)),
  (⟨"FacetSieve$QuestionReader", "readFact", "()Z"⟩, prog_7_method_4_code, 1, (some .boolean), 4, (4, 90), 0, false, false, (700, 699, 14, 107)),
  (⟨"FacetSieve$QuestionReader", "readSet", "(I)Z"⟩, prog_7_method_5_code, 2, (some .boolean), 4, (3, 69), 1, false, false, (705, 704, 15, 107)),
  (⟨"FacetSieve$Sets", "copyRow", "(ILFacetSieve$Sets;I)V"⟩, prog_9_method_9_code, 5, none, 6, (2, 45), 3, false, false, (710, 708, 709, 100)),
  (⟨"FacetSieve$Sets", "setBits", "(III)V"⟩, prog_9_method_4_code, 4, none, 6, (1, 22), 3, false, false, (714, 712, 713, 100)),
  (⟨"FacetSieve$QuestionReader", "joinFact", "()V"⟩, prog_7_method_7_code, 1, none, 4, (4, 89), 0, false, false, (743, 742, 19, 107)),
  (⟨"FacetSieve$QuestionReader", "joinTopTwo", "(I)V"⟩, prog_7_method_9_code, 5, none, 4, (3, 65), 1, false, false, (726, 725, 18, 107)),
  (⟨"FacetSieve$Boxes", "work", "(III)I"⟩, prog_2_method_6_code, 4, (some .int), 12, (2, 42), 3, true, false, (730, 729, 0, 111)),
  (⟨"FacetSieve$Boxes", "cost", "(I)I"⟩, prog_2_method_4_code, 2, (some .int), 12, (1, 21), 1, true, false, (733, 732, 0, 111)),
  (⟨"FacetSieve$Boxes", "joined", "(III)I"⟩, prog_2_method_5_code, 3, (some .int), 12, (0, 0), 3, true, false, (738, 737, 0, 111)),
  (⟨"FacetSieve$QuestionReader", "readJoin", "()Z"⟩, prog_7_method_6_code, 1, (some .boolean), 4, (5, 109), 0, false, false, (718, 717, 16, 107)),
  (⟨"FacetSieve$QuestionReader", "endPart", "()V"⟩, prog_7_method_8_code, 1, none, 4, (4, 89), 0, false, false, (722, 721, 17, 107)),
  (⟨"FacetSieve", "asked", "(I)I"⟩, prog_1_method_6_code, 2, (some .int), 10, (3, 70), 1, false, false, (749, 747, 748, 95)),
  (⟨"FacetSieve$Sets", "cost", "(I)I"⟩, prog_9_method_11_code, 4, (some .int), 6, (2, 44), 1, false, false, (753, 751, 752, 100)),
  (⟨"FacetSieve$Sets", "recordAt", "(II)I"⟩, prog_9_method_13_code, 7, (some .int), 6, (2, 44), 2, false, false, (758, 756, 757, 100)),
  (⟨"FacetSieve", "bitAt", "(II)I"⟩, prog_1_method_35_code, 4, (some .int), 10, (1, 21), 2, true, false, (761, 760, 0, 95)),
  (⟨"FacetSieve", "fault", "(I)I"⟩, prog_1_method_7_code, 2, (some .int), 10, (0, 0), 1, false, false, (767, 765, 766, 95)),
  (⟨"FacetSieve", "add", "(II)I"⟩, prog_1_method_8_code, 3, (some .int), 10, (4, 97), 2, false, false, (771, 769, 770, 95)),
  (⟨"FacetSieve", "isRank", "(I)Z"⟩, prog_1_method_33_code, 1, (some .boolean), 10, (0, 0), 1, true, false, (775, 774, 0, 95)),
  (⟨"FacetSieve", "refuse", "(I)I"⟩, prog_1_method_37_code, 2, (some .int), 10, (1, 22), 1, false, false, (779, 778, 20, 95)),
  (⟨"FacetSieve$Everything", "noteRefusal", "(II)I"⟩, prog_4_method_3_code, 3, (some .int), 1, (0, 0), 2, false, false, (783, 781, 782, 96)),
  (⟨"FacetSieve", "changeRecord", "(III)I"⟩, prog_1_method_39_code, 5, (some .int), 10, (3, 73), 3, false, false, (788, 787, 21, 95)),
  (⟨"FacetSieve$Journal", "note", "(IIII)V"⟩, prog_5_method_3_code, 5, none, 2, (1, 21), 4, false, false, (792, 790, 791, 104)),
  (⟨"FacetSieve", "accept", "()I"⟩, prog_1_method_38_code, 1, (some .int), 10, (1, 22), 0, false, false, (798, 797, 22, 95)),
  (⟨"FacetSieve", "drop", "(I)I"⟩, prog_1_method_9_code, 2, (some .int), 10, (4, 97), 1, false, false, (802, 800, 801, 95)),
  (⟨"FacetSieve", "tag", "(II)I"⟩, prog_1_method_10_code, 6, (some .int), 10, (4, 97), 2, false, false, (806, 804, 805, 95)),
  (⟨"FacetSieve", "untag", "(II)I"⟩, prog_1_method_11_code, 4, (some .int), 10, (4, 97), 2, false, false, (812, 810, 811, 95)),
  (⟨"FacetSieve", "rank", "(II)I"⟩, prog_1_method_12_code, 4, (some .int), 10, (4, 97), 2, false, false, (816, 814, 815, 95)),
  (⟨"FacetSieve", "choose", "(II)I"⟩, prog_1_method_13_code, 4, (some .int), 10, (2, 45), 2, false, false, (820, 818, 819, 95))]
def zz_T3 : List zz_M := [(⟨"FacetSieve", "go", "(IZ)I"⟩, prog_1_method_14_code, 5, (some .int), 10, (2, 45), 2, false, false, (824, 822, 823, 95)),
  (⟨"FacetSieve$Plan", "isHead", "(I)Z"⟩, prog_6_method_4_code, 2, (some .boolean), 3, (0, 0), 1, false, false, (828, 826, 827, 99)),
  (⟨"FacetSieve", "why", "(II)I"⟩, prog_1_method_15_code, 3, (some .int), 10, (0, 0), 2, false, false, (832, 830, 831, 95)),
  (⟨"FacetSieve", "undo", "()I"⟩, prog_1_method_16_code, 1, (some .int), 10, (4, 95), 0, false, false, (836, 834, 835, 95)),
  (⟨"FacetSieve$Journal", "takeBack", "(LFacetSieve$Everything;)V"⟩, prog_5_method_4_code, 3, none, 2, (3, 73), 1, false, false, (840, 838, 839, 104)),
  (⟨"FacetSieve", "count", "(I)I"⟩, prog_1_method_17_code, 3, (some .int), 10, (6, 148), 1, false, false, (846, 844, 845, 95)),
  (⟨"FacetSieve$Everything", "amountLeft", "(III)I"⟩, prog_4_method_5_code, 6, (some .int), 1, (4, 101), 3, false, false, (850, 848, 849, 96)),
  (⟨"FacetSieve$Everything", "leftIn", "(III)I"⟩, prog_4_method_4_code, 6, (some .int), 1, (3, 76), 3, false, false, (854, 852, 853, 96)),
  (⟨"FacetSieve$Choice", "passedBy", "(LFacetSieve$Stock;IIZI)I"⟩, prog_3_method_5_code, 13, (some .int), 0, (2, 44), 5, false, false, (859, 857, 858, 103)),
  (⟨"FacetSieve$Stock", "costOfAll", "()I"⟩, prog_10_method_6_code, 3, (some .int), 7, (3, 67), 0, false, false, (865, 863, 864, 98)),
  (⟨"FacetSieve$Stock", "boxesOfAll", "(I)I"⟩, prog_10_method_7_code, 4, (some .int), 7, (4, 88), 1, false, false, (870, 868, 869, 98)),
  (⟨"FacetSieve$Sets", "boxes", "(II)I"⟩, prog_9_method_12_code, 6, (some .int), 6, (3, 63), 2, false, false, (874, 872, 873, 100)),
  (⟨"FacetSieve$Boxes", "kind", "(I)I"⟩, prog_2_method_3_code, 2, (some .int), 12, (2, 42), 1, true, false, (877, 876, 0, 111)),
  (⟨"FacetSieve$Boxes", "runs", "(I)I"⟩, prog_2_method_2_code, 1, (some .int), 12, (1, 20), 1, true, false, (880, 879, 0, 111)),
  (⟨"FacetSieve$Stock", "allTags", "()I"⟩, prog_10_method_8_code, 3, (some .int), 7, (1, 20), 0, false, false, (884, 882, 883, 98)),
  (⟨"FacetSieve", "sureValues", "()I"⟩, prog_1_method_42_code, 4, (some .int), 10, (5, 122), 0, false, false, (889, 888, 23, 95)),
  (⟨"FacetSieve", "lookWhatIsLeft", "()V"⟩, prog_1_method_40_code, 2, none, 10, (4, 101), 0, false, false, (893, 892, 24, 95)),
  (⟨"FacetSieve", "amountLeftWith", "(I)I"⟩, prog_1_method_45_code, 4, (some .int), 10, (2, 44), 1, false, false, (899, 898, 25, 95)),
  (⟨"FacetSieve", "idleValues", "()I"⟩, prog_1_method_43_code, 3, (some .int), 10, (5, 126), 0, false, false, (904, 903, 26, 95)),
  (⟨"FacetSieve", "partingValue", "()I"⟩, prog_1_method_44_code, 7, (some .int), 10, (5, 122), 0, false, false, (908, 907, 27, 95)),
  (⟨"FacetSieve", "head", "(II)I"⟩, prog_1_method_18_code, 4, (some .int), 10, (2, 45), 2, false, false, (913, 911, 912, 95)),
  (⟨"FacetSieve$Choice", "wantedOf", "(LFacetSieve$Plan;I)I"⟩, prog_3_method_4_code, 5, (some .int), 0, (0, 0), 2, false, false, (917, 915, 916, 103)),
  (⟨"FacetSieve$Tokens", "letterAsked", "(JI)I"⟩, prog_12_method_13_code, 3, (some .int), 9, (1, 23), 2, true, false, (920, 919, 0, 105)),
  (⟨"FacetSieve$Tokens", "letterOf", "(JI)I"⟩, prog_12_method_12_code, 4, (some .int), 9, (0, 0), 2, true, false, (923, 922, 0, 105)),
  (⟨"FacetSieve", "value", "(II)I"⟩, prog_1_method_19_code, 5, (some .int), 10, (6, 149), 2, false, false, (927, 925, 926, 95)),
  (⟨"FacetSieve$Stock", "tagsOf", "(I)I"⟩, prog_10_method_9_code, 4, (some .int), 7, (1, 21), 1, false, false, (931, 929, 930, 98)),
  (⟨"FacetSieve", "amountBehind", "(I)I"⟩, prog_1_method_41_code, 4, (some .int), 10, (5, 126), 1, false, false, (936, 935, 28, 95)),
  (⟨"FacetSieve", "box", "(III)I"⟩, prog_1_method_20_code, 5, (some .int), 10, (3, 63), 3, false, false, (940, 938, 939, 95)),
  (⟨"FacetSieve", "record", "(II)I"⟩, prog_1_method_21_code, 4, (some .int), 10, (4, 101), 2, false, false, (947, 945, 946, 95)),
  (⟨"FacetSieve", "has", "(II)Z"⟩, prog_1_method_22_code, 3, (some .boolean), 10, (3, 66), 2, false, false, (952, 950, 951, 95)),
  (⟨"FacetSieve$Sets", "holds", "(II)Z"⟩, prog_9_method_5_code, 3, (some .boolean), 6, (2, 44), 2, false, false, (956, 954, 955, 100)),
  (⟨"FacetSieve", "left", "(IZ)I"⟩, prog_1_method_23_code, 3, (some .int), 10, (5, 122), 2, false, false, (961, 959, 960, 95))]
def zz_T4 : List zz_M := [(⟨"FacetSieve", "shownAt", "(I)I"⟩, prog_1_method_46_code, 4, (some .int), 10, (4, 90), 1, false, false, (965, 964, 29, 95)),
  (⟨"FacetSieve", "leftOfRankFrom", "(I)I"⟩, prog_1_method_47_code, 4, (some .int), 10, (3, 66), 1, false, false, (969, 968, 30, 95)),
  (⟨"FacetSieve", "leftOfRank", "(II)I"⟩, prog_1_method_48_code, 5, (some .int), 10, (3, 66), 2, false, false, (973, 972, 31, 95)),
  (⟨"FacetSieve", "told", "(IZ)I"⟩, prog_1_method_24_code, 3, (some .int), 10, (6, 148), 2, false, false, (977, 975, 976, 95)),
  (⟨"FacetSieve", "both", "(III)I"⟩, prog_1_method_25_code, 5, (some .int), 10, (4, 90), 3, false, false, (981, 979, 980, 95)),
  (⟨"FacetSieve$Sets", "amountJoined", "(III)I"⟩, prog_9_method_14_code, 6, (some .int), 6, (2, 44), 3, false, false, (985, 983, 984, 100)),
  (⟨"FacetSieve$Sets", "workOfJoin", "(III)I"⟩, prog_9_method_15_code, 6, (some .int), 6, (3, 65), 3, false, false, (990, 988, 989, 100)),
  (⟨"FacetSieve", "alike", "(I)I"⟩, prog_1_method_26_code, 2, (some .int), 10, (4, 96), 1, false, false, (995, 993, 994, 95)),
  (⟨"FacetSieve$Stock", "mostAlike", "(I)I"⟩, prog_10_method_12_code, 8, (some .int), 7, (3, 69), 1, false, false, (999, 997, 998, 98)),
  (⟨"FacetSieve", "named", "(II)I"⟩, prog_1_method_27_code, 5, (some .int), 10, (5, 116), 2, false, false, (1005, 1003, 1004, 95)),
  (⟨"FacetSieve$Stock", "namingValues", "(I)I"⟩, prog_10_method_13_code, 4, (some .int), 7, (4, 93), 1, false, false, (1009, 1007, 1008, 98)),
  (⟨"FacetSieve$Stock", "namingOne", "(I)I"⟩, prog_10_method_14_code, 3, (some .int), 7, (3, 69), 1, false, false, (1014, 1013, 32, 98)),
  (⟨"FacetSieve$Stock", "isAlone", "(III)Z"⟩, prog_10_method_17_code, 6, (some .boolean), 7, (2, 44), 3, false, false, (1018, 1017, 33, 98)),
  (⟨"FacetSieve$Stock", "namingTwo", "(I)I"⟩, prog_10_method_15_code, 4, (some .int), 7, (3, 69), 1, false, false, (1023, 1022, 34, 98)),
  (⟨"FacetSieve$Stock", "namingThree", "(I)I"⟩, prog_10_method_16_code, 5, (some .int), 7, (3, 69), 1, false, false, (1027, 1026, 35, 98)),
  (⟨"FacetSieve", "likes", "(I)I"⟩, prog_1_method_28_code, 2, (some .int), 10, (2, 41), 1, false, false, (1031, 1029, 1030, 95)),
  (⟨"FacetSieve$Stock", "amountWithTagsOf", "(I)I"⟩, prog_10_method_11_code, 5, (some .int), 7, (0, 0), 1, false, false, (1035, 1033, 1034, 98)),
  (⟨"FacetSieve", "spread", "(I)I"⟩, prog_1_method_29_code, 4, (some .int), 10, (5, 122), 1, false, false, (1039, 1037, 1038, 95)),
  (⟨"FacetSieve$Stock", "setsAround", "(I)I"⟩, prog_10_method_10_code, 2, (some .int), 7, (2, 44), 1, false, false, (1043, 1041, 1042, 98)),
  (⟨"FacetSieve", "image", "(I)Z"⟩, prog_1_method_30_code, 2, (some .boolean), 10, (4, 102), 1, false, false, (1047, 1045, 1046, 95)),
  (⟨"FacetSieve$Everything", "copyFrom", "(LFacetSieve$Everything;)V"⟩, prog_4_method_2_code, 2, none, 1, (3, 81), 1, false, false, (1051, 1049, 1050, 96)),
  (⟨"FacetSieve$Tape", "copyFrom", "(LFacetSieve$Tape;)V"⟩, prog_11_method_5_code, 2, none, 8, (1, 39), 1, false, false, (1055, 1053, 1054, 97)),
  (⟨"FacetSieve$Choice", "copyFrom", "(LFacetSieve$Choice;)V"⟩, prog_3_method_3_code, 2, none, 0, (1, 39), 1, false, false, (1061, 1059, 1060, 103)),
  (⟨"FacetSieve", "again", "(I)Z"⟩, prog_1_method_31_code, 2, (some .boolean), 10, (4, 102), 1, false, false, (1067, 1065, 1066, 95)),
  (⟨"FacetSieveModel", "<init>", "()V"⟩, prog_14_method_1_code, 1, none, 11, (1, 21), 0, false, true, (1072, 1071, 0, 108)),
  (⟨"FacetSieveModel", "count", "(I)I"⟩, prog_14_method_38_code, 2, (some .int), 11, (9, 202), 1, false, false, (1157, 1155, 1156, 108)),
  (⟨"FacetSieveModel", "isIn", "(III)Z"⟩, prog_14_method_2_code, 3, (some .boolean), 11, (0, 0), 3, true, false, (1160, 1159, 0, 108)),
  (⟨"FacetSieveModel", "summed", "(I)I"⟩, prog_14_method_36_code, 5, (some .int), 11, (4, 87), 1, false, false, (1164, 1163, 36, 108)),
  (⟨"FacetSieveModel", "laysSet", "([II)V"⟩, prog_14_method_17_code, 5, none, 11, (2, 43), 2, false, false, (1168, 1167, 37, 108)),
  (⟨"FacetSieveModel", "isUnder", "(II)Z"⟩, prog_14_method_16_code, 4, (some .boolean), 11, (1, 20), 2, false, false, (1172, 1171, 38, 108)),
  (⟨"FacetSieveModel", "valueAt", "(I)I"⟩, prog_14_method_5_code, 1, (some .int), 11, (0, 0), 1, true, false, (1175, 1174, 0, 108)),
  (⟨"FacetSieveModel", "tagsOf", "(I)I"⟩, prog_14_method_35_code, 4, (some .int), 11, (1, 22), 1, false, false, (1179, 1178, 39, 108))]
def zz_T5 : List zz_M := [(⟨"FacetSieveModel", "bitsOf", "(I)I"⟩, prog_14_method_12_code, 3, (some .int), 11, (0, 0), 1, true, false, (1182, 1181, 0, 108)),
  (⟨"FacetSieveModel", "size", "([I)I"⟩, prog_14_method_21_code, 3, (some .int), 11, (3, 65), 1, true, false, (1185, 1184, 0, 108)),
  (⟨"FacetSieveModel", "sizeOf", "(I)I"⟩, prog_14_method_19_code, 4, (some .int), 11, (2, 42), 1, true, false, (1188, 1187, 0, 108)),
  (⟨"FacetSieveModel", "rowsOf", "(I)I"⟩, prog_14_method_18_code, 1, (some .int), 11, (1, 22), 1, true, false, (1191, 1190, 0, 108)),
  (⟨"FacetSieveModel", "kindOf", "(I)I"⟩, prog_14_method_20_code, 1, (some .int), 11, (3, 65), 1, true, false, (1194, 1193, 0, 108)),
  (⟨"FacetSieveModel", "thereMany", "()I"⟩, prog_14_method_37_code, 3, (some .int), 11, (1, 22), 0, false, false, (1198, 1197, 40, 108)),
  (⟨"FacetSieveModel", "leftMany", "()I"⟩, prog_14_method_27_code, 1, (some .int), 11, (5, 115), 0, false, false, (1202, 1201, 41, 108)),
  (⟨"FacetSieveModel", "laysLeft", "(I)V"⟩, prog_14_method_25_code, 4, none, 11, (4, 92), 1, false, false, (1206, 1205, 42, 108)),
  (⟨"FacetSieveModel", "goesBy", "(I)V"⟩, prog_14_method_26_code, 6, none, 11, (3, 67), 1, false, false, (1210, 1209, 43, 108)),
  (⟨"FacetSieveModel", "headAt", "(I)I"⟩, prog_14_method_4_code, 1, (some .int), 11, (0, 0), 1, true, false, (1213, 1212, 0, 108)),
  (⟨"FacetSieveModel", "ofHead", "(I)I"⟩, prog_14_method_24_code, 2, (some .int), 11, (1, 20), 1, false, false, (1217, 1216, 44, 108)),
  (⟨"FacetSieveModel", "chosen", "(I)I"⟩, prog_14_method_23_code, 2, (some .int), 11, (1, 20), 1, false, false, (1221, 1220, 45, 108)),
  (⟨"FacetSieveModel", "many", "([I)I"⟩, prog_14_method_13_code, 3, (some .int), 11, (1, 22), 1, true, false, (1224, 1223, 0, 108)),
  (⟨"FacetSieveModel", "toldMany", "(Z)I"⟩, prog_14_method_33_code, 4, (some .int), 11, (8, 179), 1, false, false, (1228, 1227, 46, 108)),
  (⟨"FacetSieveModel", "isIdle", "(I)Z"⟩, prog_14_method_32_code, 2, (some .boolean), 11, (7, 158), 1, false, false, (1232, 1231, 47, 108)),
  (⟨"FacetSieveModel", "aheadOf", "(I)I"⟩, prog_14_method_30_code, 4, (some .int), 11, (6, 135), 1, false, false, (1236, 1235, 48, 108)),
  (⟨"FacetSieveModel", "isSure", "(I)Z"⟩, prog_14_method_31_code, 3, (some .boolean), 11, (6, 135), 1, false, false, (1240, 1239, 49, 108)),
  (⟨"FacetSieveModel", "inSet", "(I)I"⟩, prog_14_method_28_code, 3, (some .int), 11, (3, 67), 1, false, false, (1244, 1243, 50, 108)),
  (⟨"FacetSieveModel", "parting", "()I"⟩, prog_14_method_34_code, 7, (some .int), 11, (6, 135), 0, false, false, (1248, 1247, 51, 108)),
  (⟨"FacetSieveModel", "head", "(II)I"⟩, prog_14_method_40_code, 6, (some .int), 11, (2, 44), 2, false, false, (1252, 1250, 1251, 108)),
  (⟨"FacetSieveModel", "isHead", "(I)Z"⟩, prog_14_method_6_code, 2, (some .boolean), 11, (1, 22), 1, false, false, (1256, 1255, 52, 108)),
  (⟨"FacetSieveModel", "letter", "(II)I"⟩, prog_14_method_39_code, 3, (some .int), 11, (1, 22), 2, false, false, (1260, 1259, 53, 108)),
  (⟨"FacetSieveModel", "value", "(II)I"⟩, prog_14_method_41_code, 6, (some .int), 11, (7, 158), 2, false, false, (1264, 1262, 1263, 108)),
  (⟨"FacetSieveModel", "isValue", "(I)Z"⟩, prog_14_method_7_code, 2, (some .boolean), 11, (1, 22), 1, false, false, (1268, 1267, 54, 108)),
  (⟨"FacetSieveModel", "countOf", "(I)I"⟩, prog_14_method_29_code, 2, (some .int), 11, (5, 115), 1, false, false, (1272, 1271, 55, 108)),
  (⟨"FacetSieveModel", "box", "(III)I"⟩, prog_14_method_42_code, 5, (some .int), 11, (4, 85), 3, false, false, (1276, 1274, 1275, 108)),
  (⟨"FacetSieveModel", "record", "(II)I"⟩, prog_14_method_43_code, 5, (some .int), 11, (5, 115), 2, false, false, (1280, 1278, 1279, 108)),
  (⟨"FacetSieveModel", "isThere", "(I)Z"⟩, prog_14_method_11_code, 2, (some .boolean), 11, (2, 42), 1, false, false, (1284, 1283, 56, 108)),
  (⟨"FacetSieveModel", "isRecord", "(I)Z"⟩, prog_14_method_8_code, 1, (some .boolean), 11, (1, 22), 1, true, false, (1287, 1286, 0, 108)),
  (⟨"FacetSieveModel", "isBit", "(II)Z"⟩, prog_14_method_9_code, 3, (some .boolean), 11, (0, 0), 2, false, false, (1291, 1290, 57, 108)),
  (⟨"FacetSieveModel", "isInSet", "([II)Z"⟩, prog_14_method_14_code, 2, (some .boolean), 11, (0, 0), 2, true, false, (1294, 1293, 0, 108)),
  (⟨"FacetSieveModel", "has", "(II)Z"⟩, prog_14_method_44_code, 3, (some .boolean), 11, (3, 67), 2, false, false, (1298, 1296, 1297, 108))]
def zz_T6 : List zz_M := [(⟨"FacetSieveModel", "left", "(IZ)I"⟩, prog_14_method_45_code, 7, (some .int), 11, (5, 115), 2, false, false, (1302, 1300, 1301, 108)),
  (⟨"FacetSieveModel", "at", "([II)I"⟩, prog_14_method_15_code, 5, (some .int), 11, (1, 21), 2, false, false, (1306, 1305, 58, 108)),
  (⟨"FacetSieveModel", "told", "(IZ)I"⟩, prog_14_method_46_code, 5, (some .int), 11, (8, 179), 2, false, false, (1310, 1308, 1309, 108)),
  (⟨"FacetSieveModel", "both", "(III)I"⟩, prog_14_method_48_code, 5, (some .int), 11, (4, 90), 3, false, false, (1314, 1312, 1313, 108)),
  (⟨"FacetSieveModel", "inBoth", "()I"⟩, prog_14_method_47_code, 3, (some .int), 11, (1, 22), 0, false, false, (1318, 1317, 59, 108)),
  (⟨"FacetSieveModel", "work", "([I[II)I"⟩, prog_14_method_22_code, 6, (some .int), 11, (3, 65), 3, true, false, (1321, 1320, 0, 108)),
  (⟨"FacetSieveModel", "alike", "(I)I"⟩, prog_14_method_49_code, 8, (some .int), 11, (3, 67), 1, false, false, (1325, 1323, 1324, 108)),
  (⟨"FacetSieveModel", "named", "(II)I"⟩, prog_14_method_52_code, 5, (some .int), 11, (4, 91), 2, false, false, (1329, 1327, 1328, 108)),
  (⟨"FacetSieveModel", "doName", "(II)Z"⟩, prog_14_method_50_code, 5, (some .boolean), 11, (3, 67), 2, false, false, (1333, 1332, 60, 108)),
  (⟨"FacetSieveModel", "nextPick", "(I)Z"⟩, prog_14_method_51_code, 4, (some .boolean), 11, (0, 0), 1, false, false, (1337, 1336, 61, 108)),
  (⟨"FacetSieveModel", "likes", "(I)I"⟩, prog_14_method_53_code, 4, (some .int), 11, (3, 63), 1, false, false, (1341, 1339, 1340, 108)),
  (⟨"FacetSieveModel", "spread", "(I)I"⟩, prog_14_method_54_code, 4, (some .int), 11, (5, 115), 1, false, false, (1345, 1343, 1344, 108)),
  (⟨"FacetSieveModel", "add", "(II)I"⟩, prog_14_method_57_code, 4, (some .int), 11, (3, 66), 2, false, false, (1349, 1347, 1348, 108)),
  (⟨"FacetSieveModel", "refused", "(II)I"⟩, prog_14_method_56_code, 3, (some .int), 11, (2, 44), 2, false, false, (1353, 1352, 62, 108)),
  (⟨"FacetSieveModel", "keeps", "()V"⟩, prog_14_method_55_code, 1, none, 11, (1, 24), 0, false, false, (1357, 1356, 63, 108)),
  (⟨"FacetSieveModel", "copies", "(III)V"⟩, prog_14_method_3_code, 5, none, 11, (0, 0), 3, false, false, (1361, 1360, 64, 108)),
  (⟨"FacetSieveModel", "turns", "(II)V"⟩, prog_14_method_10_code, 3, none, 11, (0, 0), 2, false, false, (1365, 1364, 65, 108)),
  (⟨"FacetSieveModel", "drop", "(I)I"⟩, prog_14_method_58_code, 4, (some .int), 11, (3, 66), 1, false, false, (1369, 1367, 1368, 108)),
  (⟨"FacetSieveModel", "tag", "(II)I"⟩, prog_14_method_60_code, 7, (some .int), 11, (3, 66), 2, false, false, (1373, 1371, 1372, 108)),
  (⟨"FacetSieveModel", "held", "(III)I"⟩, prog_14_method_59_code, 6, (some .int), 11, (1, 22), 3, false, false, (1377, 1376, 66, 108)),
  (⟨"FacetSieveModel", "untag", "(II)I"⟩, prog_14_method_61_code, 5, (some .int), 11, (3, 66), 2, false, false, (1381, 1379, 1380, 108)),
  (⟨"FacetSieveModel", "rank", "(II)I"⟩, prog_14_method_62_code, 4, (some .int), 11, (3, 66), 2, false, false, (1385, 1383, 1384, 108)),
  (⟨"FacetSieveModel", "choose", "(II)I"⟩, prog_14_method_63_code, 4, (some .int), 11, (3, 66), 2, false, false, (1389, 1387, 1388, 108)),
  (⟨"FacetSieveModel", "go", "(IZ)I"⟩, prog_14_method_64_code, 5, (some .int), 11, (3, 66), 2, false, false, (1393, 1391, 1392, 108)),
  (⟨"FacetSieveModel", "why", "(II)I"⟩, prog_14_method_65_code, 3, (some .int), 11, (1, 22), 2, false, false, (1397, 1395, 1396, 108)),
  (⟨"FacetSieveModel", "undo", "()I"⟩, prog_14_method_66_code, 1, (some .int), 11, (1, 24), 0, false, false, (1401, 1399, 1400, 108)),
  (⟨"FacetSieveModel", "feed", "(IIIII)I"⟩, prog_14_method_67_code, 8, (some .int), 11, (0, 0), 5, false, false, (1405, 1403, 1404, 108)),
  (⟨"FacetSieveModel", "end", "(I)I"⟩, prog_14_method_68_code, 2, (some .int), 11, (1, 22), 1, false, false, (1409, 1407, 1408, 108)),
  (⟨"FacetSieveModel", "fault", "(I)I"⟩, prog_14_method_69_code, 2, (some .int), 11, (0, 0), 1, false, false, (1413, 1411, 1412, 108)),
  (⟨"FacetSieveModel", "scheme", "()I"⟩, prog_14_method_93_code, 2, (some .int), 11, (5, 114), 0, false, false, (1417, 1415, 1416, 108)),
  (⟨"FacetSieveModel", "begins", "()V"⟩, prog_14_method_76_code, 1, none, 11, (2, 42), 0, false, false, (1421, 1420, 67, 108)),
  (⟨"FacetSieveModel", "takes", "()V"⟩, prog_14_method_73_code, 2, none, 11, (1, 21), 0, false, false, (1425, 1424, 68, 108))]
def zz_T7 : List zz_M := [(⟨"FacetSieveModel", "byteAt", "(I)I"⟩, prog_14_method_70_code, 2, (some .int), 11, (0, 0), 1, false, false, (1429, 1428, 69, 108)),
  (⟨"FacetSieveModel", "isLetter", "(I)Z"⟩, prog_14_method_71_code, 1, (some .boolean), 11, (0, 0), 1, true, false, (1432, 1431, 0, 108)),
  (⟨"FacetSieveModel", "isDigit", "(I)Z"⟩, prog_14_method_72_code, 1, (some .boolean), 11, (0, 0), 1, true, false, (1437, 1436, 0, 108)),
  (⟨"FacetSieveModel", "isGood", "()Z"⟩, prog_14_method_75_code, 1, (some .boolean), 11, (0, 0), 0, false, false, (1443, 1442, 70, 108)),
  (⟨"FacetSieveModel", "readsLine", "()V"⟩, prog_14_method_92_code, 1, none, 11, (4, 94), 0, false, false, (1447, 1446, 71, 108)),
  (⟨"FacetSieveModel", "isWord", "(J)Z"⟩, prog_14_method_77_code, 3, (some .boolean), 11, (1, 20), 1, false, false, (1452, 1451, 72, 108)),
  (⟨"FacetSieveModel", "readsHead", "()V"⟩, prog_14_method_88_code, 4, none, 11, (3, 70), 0, false, false, (1456, 1455, 73, 108)),
  (⟨"FacetSieveModel", "fails", "(II)V"⟩, prog_14_method_74_code, 3, none, 11, (0, 0), 2, false, false, (1460, 1459, 74, 108)),
  (⟨"FacetSieveModel", "tells", "(I)V"⟩, prog_14_method_86_code, 3, none, 11, (2, 48), 1, false, false, (1464, 1463, 75, 108)),
  (⟨"FacetSieveModel", "isName", "()Z"⟩, prog_14_method_82_code, 1, (some .boolean), 11, (1, 21), 0, false, false, (1468, 1467, 76, 108)),
  (⟨"FacetSieveModel", "isKept", "(J)Z"⟩, prog_14_method_81_code, 2, (some .boolean), 11, (0, 0), 1, true, false, (1471, 1470, 0, 108)),
  (⟨"FacetSieveModel", "headBy", "(IJ)I"⟩, prog_14_method_84_code, 5, (some .int), 11, (1, 24), 2, false, false, (1484, 1483, 77, 108)),
  (⟨"FacetSieveModel", "nameOf", "(I)J"⟩, prog_14_method_83_code, 5, (some .long), 11, (0, 0), 1, false, false, (1488, 1487, 78, 108)),
  (⟨"FacetSieveModel", "valueBy", "(IJ)I"⟩, prog_14_method_85_code, 5, (some .int), 11, (1, 24), 2, false, false, (1492, 1491, 79, 108)),
  (⟨"FacetSieveModel", "readsValue", "()V"⟩, prog_14_method_89_code, 5, none, 11, (3, 70), 0, false, false, (1496, 1495, 80, 108)),
  (⟨"FacetSieveModel", "hasWord", "(J)Z"⟩, prog_14_method_78_code, 4, (some .boolean), 11, (2, 42), 1, false, false, (1500, 1499, 81, 108)),
  (⟨"FacetSieveModel", "readsRecord", "()V"⟩, prog_14_method_91_code, 3, none, 11, (3, 70), 0, false, false, (1504, 1503, 82, 108)),
  (⟨"FacetSieveModel", "numeral", "(II)I"⟩, prog_14_method_87_code, 3, (some .int), 11, (1, 22), 2, false, false, (1508, 1507, 83, 108)),
  (⟨"FacetSieveModel", "readsTag", "(I)V"⟩, prog_14_method_90_code, 3, none, 11, (2, 48), 1, false, false, (1512, 1511, 84, 108)),
  (⟨"FacetSieveModel", "hasSign", "(I)Z"⟩, prog_14_method_80_code, 3, (some .boolean), 11, (2, 42), 1, false, false, (1516, 1515, 85, 108)),
  (⟨"FacetSieveModel", "isSign", "(I)Z"⟩, prog_14_method_79_code, 2, (some .boolean), 11, (1, 20), 1, false, false, (1520, 1519, 86, 108)),
  (⟨"FacetSieveModel", "ask", "()I"⟩, prog_14_method_101_code, 3, (some .int), 11, (6, 135), 0, false, false, (1524, 1522, 1523, 108)),
  (⟨"FacetSieveModel", "opens", "()V"⟩, prog_14_method_94_code, 1, none, 11, (0, 0), 0, false, false, (1528, 1527, 87, 108)),
  (⟨"FacetSieveModel", "isFact", "()Z"⟩, prog_14_method_99_code, 4, (some .boolean), 11, (5, 112), 0, false, false, (1532, 1531, 88, 108)),
  (⟨"FacetSieveModel", "comes", "()V"⟩, prog_14_method_97_code, 3, none, 11, (4, 90), 0, false, false, (1536, 1535, 89, 108)),
  (⟨"FacetSieveModel", "laysLevel", "([I[I)V"⟩, prog_14_method_96_code, 4, none, 11, (0, 0), 2, false, false, (1540, 1539, 90, 108)),
  (⟨"FacetSieveModel", "takesLevel", "([I[I)V"⟩, prog_14_method_95_code, 4, none, 11, (0, 0), 2, false, false, (1544, 1543, 91, 108)),
  (⟨"FacetSieveModel", "goesOn", "()Z"⟩, prog_14_method_100_code, 1, (some .boolean), 11, (5, 112), 0, false, false, (1548, 1547, 92, 108)),
  (⟨"FacetSieveModel", "ends", "()V"⟩, prog_14_method_98_code, 2, none, 11, (4, 90), 0, false, false, (1552, 1551, 93, 108)),
  (⟨"FacetSieveModel", "asked", "(I)I"⟩, prog_14_method_102_code, 3, (some .int), 11, (4, 87), 1, false, false, (1556, 1554, 1555, 108)),
  (⟨"FacetSieveModel", "image", "(I)Z"⟩, prog_14_method_103_code, 4, (some .boolean), 11, (1, 24), 1, false, false, (1560, 1558, 1559, 108)),
  (⟨"FacetSieveModel", "again", "(I)Z"⟩, prog_14_method_104_code, 4, (some .boolean), 11, (1, 24), 1, false, false, (1564, 1562, 1563, 108))]
def zz_T : List zz_M := zz_T0 ++ (zz_T1 ++ (zz_T2 ++ (zz_T3 ++ (zz_T4 ++ (zz_T5 ++ (zz_T6 ++ (zz_T7)))))))
def zz_m0 : zz_M := (⟨"", "", ""⟩, ByteArray.empty, 0, none, 0, (0, 0), 0, true, false, (0, 0, 0, 0))
def zz_m (y : Nat) : zz_M := zz_T.getD y zz_m0
def zz_y (y : Nat) : MethodName := (zz_m y).1
def zz_c (y : Nat) : ByteArray := (zz_m y).2.1
def zz_ml (y : Nat) : Nat := (zz_m y).2.2.1
def zz_rt (y : Nat) : Option FieldType := (zz_m y).2.2.2.1
def zz_co (y : Nat) : Nat := (zz_m y).2.2.2.2.1
def zz_fr (y : Nat) : Nat := (zz_m y).2.2.2.2.2.1.1
def zz_lo (y : Nat) : Nat := (zz_m y).2.2.2.2.2.1.2
def zz_np (y : Nat) : Nat := (zz_m y).2.2.2.2.2.2.1
def zz_st (y : Nat) : Bool := (zz_m y).2.2.2.2.2.2.2.1
def zz_in (y : Nat) : Bool := (zz_m y).2.2.2.2.2.2.2.2.1
/-- method links: class, entry, kind, method, place of the word -/
def zz_ML : List (Nat × Nat × Nat × Nat × Nat) := [(13, 9, 2, 1, 114), (10, 3, 6, 0, 117), (10, 11, 5, 2, 122), (1, 3, 6, 0, 125), (1, 11, 5, 3, 128), (8, 3, 6, 0, 131), (1, 20, 2, 4, 144), (7, 3, 6, 0, 147), (7, 11, 5, 5, 150), (3, 3, 6, 0, 153), (7, 27, 2, 6, 204), (6, 3, 6, 0, 207), (6, 9, 8, 0, 208), (7, 34, 0, 7, 218), (1, 27, 5, 8, 247), (0, 3, 6, 0, 250), (1, 38, 2, 6, 263), (10, 22, 5, 9, 310), (2, 1, 6, 0, 313), (10, 33, 2, 10, 336), (9, 3, 6, 0, 339), (10, 42, 2, 11, 374), (5, 3, 6, 0, 377), (5, 11, 2, 4, 379), (10, 55, 2, 12, 390), (4, 5, 6, 0, 393), (4, 13, 2, 6, 395), (10, 64, 2, 6, 430), (13, 13, 1, 13, 453), (10, 71, 1, 14, 457), (10, 77, 1, 15, 461), (8, 19, 1, 14, 465), (13, 18, 1, 16, 466), (13, 23, 1, 17, 470), (10, 84, 1, 18, 474), (5, 22, 1, 19, 478), (7, 40, 1, 20, 482), (7, 43, 1, 21, 486), (6, 35, 0, 7, 490), (5, 25, 1, 22, 491), (9, 25, 1, 23, 495), (9, 36, 1, 24, 499), (9, 40, 0, 25, 503), (9, 47, 0, 26, 506), (9, 50, 1, 27, 509), (9, 66, 1, 28, 513), (9, 53, 0, 29, 527), (9, 56, 1, 30, 530), (9, 59, 0, 31, 534), (5, 34, 1, 32, 537), (5, 38, 1, 33, 541), (5, 58, 1, 34, 545), (5, 47, 1, 35, 549), (5, 51, 1, 23, 553), (5, 63, 1, 36, 554), (5, 88, 1, 37, 558), (3, 61, 1, 38, 562), (5, 70, 1, 39, 566), (3, 50, 1, 34, 570), (5, 41, 1, 40, 571), (5, 74, 1, 41, 575), (5, 77, 1, 42, 579), (5, 80, 1, 38, 583), (5, 84, 1, 43, 584), (3, 54, 1, 41, 588), (3, 57, 1, 44, 589), (5, 44, 1, 45, 593), (5, 99, 1, 46, 597), (5, 105, 1, 47, 601), (7, 57, 3, 48, 605), (5, 108, 1, 49, 608), (5, 112, 3, 50, 612), (5, 115, 1, 51, 615), (3, 65, 3, 50, 619), (5, 119, 1, 52, 620), (7, 61, 1, 53, 624), (6, 25, 1, 54, 628), (7, 65, 1, 55, 632), (7, 73, 3, 50, 636), (10, 88, 1, 56, 637), (10, 94, 1, 57, 641), (7, 44, 1, 58, 645), (3, 44, 7, 0, 649), (7, 48, 7, 0, 652), (7, 54, 1, 59, 653), (6, 41, 9, 0, 657), (6, 44, 7, 0, 660), (10, 104, 1, 60, 661), (0, 18, 0, 7, 665), (10, 109, 1, 61, 666), (10, 113, 1, 62, 670), (6, 29, 1, 63, 674), (6, 54, 0, 64, 678), (13, 28, 1, 65, 684), (10, 117, 1, 66, 688), (4, 45, 1, 67, 692), (4, 48, 1, 22, 696), (4, 60, 1, 68, 697), (4, 93, 1, 38, 701), (4, 99, 1, 69, 702), (4, 76, 1, 35, 706), (4, 105, 1, 70, 707), (6, 50, 1, 71, 711), (4, 64, 1, 77, 715), (4, 80, 1, 78, 719), (4, 111, 1, 73, 723), (4, 114, 1, 63, 727), (4, 118, 0, 74, 728), (12, 13, 0, 75, 731), (12, 7, 0, 64, 734), (12, 21, 9, 0, 735), (4, 121, 0, 76, 736), (4, 124, 1, 71, 739), (4, 67, 1, 72, 740), (4, 70, 1, 23, 744), (10, 136, 1, 70, 745), (13, 32, 1, 79, 746), (10, 140, 1, 80, 750), (6, 60, 0, 75, 754), (10, 143, 1, 81, 755), (6, 68, 3, 82, 759), (10, 245, 0, 64, 762), (10, 182, 0, 50, 763), (13, 36, 1, 83, 764), (13, 40, 1, 84, 768), (10, 153, 0, 48, 772), (10, 156, 0, 85, 773), (10, 159, 1, 86, 776), (10, 189, 1, 87, 780), (10, 162, 1, 47, 784), (10, 165, 1, 88, 785), (10, 198, 1, 89, 789), (2, 29, 9, 0, 793), (10, 344, 1, 52, 794), (10, 202, 1, 90, 795), (13, 45, 1, 91, 799), (13, 49, 1, 92, 803), (10, 173, 1, 44, 807), (10, 186, 1, 51, 808), (13, 53, 1, 93, 809), (13, 57, 1, 94, 813), (13, 61, 1, 95, 817), (13, 65, 1, 96, 821), (10, 206, 1, 97, 825), (13, 70, 1, 98, 829), (13, 74, 1, 99, 833), (10, 220, 1, 100, 837), (2, 35, 8, 0, 841), (2, 44, 1, 52, 842), (13, 78, 1, 101, 843), (10, 230, 1, 102, 847), (1, 94, 1, 103, 851), (1, 77, 1, 63, 855), (1, 90, 1, 104, 856), (0, 48, 1, 63, 860), (1, 98, 0, 64, 861), (10, 233, 1, 105, 862), (7, 77, 1, 80, 866), (10, 236, 1, 106, 867), (7, 80, 1, 107, 871), (6, 65, 0, 108, 875), (12, 18, 0, 109, 878), (10, 239, 1, 110, 881), (7, 84, 0, 64, 885), (10, 242, 1, 111, 886), (10, 316, 1, 112, 890), (10, 307, 1, 103, 894), (10, 348, 1, 71, 895), (10, 351, 1, 113, 896), (10, 295, 1, 63, 900), (10, 250, 1, 114, 901), (10, 253, 1, 115, 905), (10, 354, 8, 0, 909), (13, 82, 1, 116, 910), (10, 262, 1, 117, 914), (10, 270, 0, 118, 918), (9, 93, 0, 119, 921), (13, 86, 1, 120, 924), (10, 283, 1, 121, 928), (10, 286, 1, 107, 932), (10, 289, 1, 122, 933), (13, 90, 1, 123, 937), (10, 298, 0, 108, 941), (10, 303, 0, 75, 942), (10, 304, 0, 109, 943), (13, 95, 1, 124, 944), (10, 310, 0, 82, 948), (13, 99, 1, 125, 949), (10, 313, 1, 126, 953), (6, 32, 3, 50, 957), (13, 104, 1, 127, 958), (10, 319, 1, 128, 962), (10, 359, 1, 129, 966), (10, 362, 1, 130, 970), (13, 108, 1, 131, 974), (13, 112, 1, 132, 978), (10, 322, 1, 133, 982), (6, 71, 0, 76, 986), (10, 325, 1, 134, 987), (6, 75, 0, 74, 991), (13, 116, 1, 135, 992), (10, 328, 1, 136, 996), (7, 91, 1, 133, 1000), (7, 95, 8, 0, 1001), (13, 120, 1, 137, 1002), (10, 331, 1, 138, 1006), (7, 100, 1, 62, 1010), (7, 103, 1, 139, 1011), (7, 112, 1, 140, 1015), (7, 116, 1, 63, 1019), (7, 106, 1, 141, 1020), (7, 109, 1, 142, 1024), (13, 124, 1, 143, 1028), (10, 334, 1, 144, 1032), (13, 128, 1, 145, 1036), (10, 337, 1, 146, 1040), (13, 132, 1, 147, 1044), (10, 340, 1, 148, 1048), (1, 48, 1, 149, 1052), (8, 23, 7, 0, 1056), (1, 52, 1, 57, 1057), (1, 55, 1, 150, 1058), (0, 24, 7, 0, 1062), (1, 68, 1, 59, 1063), (13, 137, 1, 151, 1064), (13, 12, 2, 152, 1070), (11, 1, 6, 0, 1073), (13, 81, 1, 153, 1154), (11, 57, 0, 154, 1158), (11, 138, 1, 155, 1161), (11, 96, 1, 156, 1165), (11, 80, 1, 157, 1169), (11, 77, 0, 158, 1173), (11, 129, 1, 159, 1176), (11, 69, 0, 160, 1180), (11, 132, 0, 161, 1183), (11, 86, 0, 162, 1186), (11, 83, 0, 163, 1189), (11, 135, 0, 164, 1192), (11, 141, 1, 165, 1195), (11, 116, 1, 166, 1199), (11, 106, 1, 167, 1203), (11, 89, 1, 168, 1207), (11, 100, 0, 169, 1211), (11, 103, 1, 170, 1214), (11, 93, 1, 171, 1218), (11, 109, 0, 172, 1222), (11, 150, 1, 173, 1225), (11, 123, 1, 174, 1229), (11, 120, 1, 175, 1233), (11, 126, 1, 176, 1237), (11, 113, 1, 177, 1241), (11, 154, 1, 178, 1245), (13, 85, 1, 179, 1249), (11, 157, 1, 180, 1253), (11, 160, 1, 181, 1257), (13, 89, 1, 182, 1261), (11, 164, 1, 183, 1265), (11, 167, 1, 184, 1269), (13, 94, 1, 185, 1273), (13, 98, 1, 186, 1277), (11, 170, 1, 187, 1281), (11, 61, 0, 188, 1285), (11, 65, 1, 189, 1288), (11, 73, 0, 190, 1292), (13, 103, 1, 191, 1295), (13, 107, 1, 192, 1299), (11, 173, 1, 193, 1303), (13, 111, 1, 194, 1307), (13, 115, 1, 195, 1311), (11, 177, 1, 196, 1315), (11, 180, 0, 197, 1319), (13, 119, 1, 198, 1322), (13, 123, 1, 199, 1326), (11, 184, 1, 200, 1330), (11, 187, 1, 201, 1334), (13, 127, 1, 202, 1338), (13, 131, 1, 203, 1342), (13, 44, 1, 204, 1346), (11, 197, 1, 205, 1350), (11, 194, 1, 206, 1354), (11, 190, 1, 207, 1358), (11, 200, 1, 208, 1362), (13, 48, 1, 209, 1366), (13, 52, 1, 210, 1370), (11, 204, 1, 211, 1374), (13, 56, 1, 212, 1378), (13, 60, 1, 213, 1382), (13, 64, 1, 214, 1386), (13, 69, 1, 215, 1390), (13, 73, 1, 216, 1394), (13, 77, 1, 217, 1398), (13, 17, 1, 218, 1402), (13, 22, 1, 219, 1406), (13, 39, 1, 220, 1410), (13, 27, 1, 221, 1414), (11, 322, 1, 222, 1418), (11, 244, 1, 223, 1422), (11, 217, 1, 224, 1426), (11, 230, 0, 225, 1430), (11, 237, 0, 226, 1435), (11, 247, 1, 227, 1440), (11, 325, 1, 228, 1444), (11, 251, 1, 229, 1449), (11, 310, 1, 230, 1453), (11, 288, 1, 231, 1457), (11, 298, 1, 232, 1461), (11, 285, 1, 233, 1465), (11, 278, 0, 234, 1469), (11, 291, 1, 235, 1481), (11, 281, 1, 236, 1485), (11, 295, 1, 237, 1489), (11, 313, 1, 238, 1493), (11, 301, 1, 239, 1497), (11, 316, 1, 240, 1501), (11, 304, 1, 241, 1505), (11, 307, 1, 242, 1509), (11, 319, 1, 243, 1513), (11, 255, 1, 244, 1517), (13, 31, 1, 245, 1521), (11, 347, 1, 246, 1525), (11, 353, 1, 247, 1529), (11, 344, 1, 248, 1533), (11, 331, 1, 249, 1537), (11, 335, 1, 250, 1541), (11, 356, 1, 251, 1545), (11, 350, 1, 252, 1549), (13, 35, 1, 253, 1553), (13, 136, 1, 254, 1557), (13, 140, 1, 255, 1561)]
/-- field links: class, entry, class of the field, its place, place of the word -/
def zz_FL : List (Nat × Nat × Nat × Nat × Nat) := [(8, 9, 8, 0, 132), (8, 15, 8, 1, 133), (10, 80, 8, 1, 134), (9, 31, 8, 1, 135), (3, 37, 3, 0, 154), (1, 85, 3, 0, 155), (5, 96, 3, 0, 156), (10, 224, 3, 0, 157), (3, 9, 3, 1, 158), (10, 266, 3, 1, 159), (3, 15, 3, 2, 160), (10, 256, 3, 2, 161), (3, 19, 3, 3, 162), (0, 30, 3, 3, 163), (3, 22, 3, 4, 164), (0, 35, 3, 4, 165), (10, 259, 3, 4, 166), (3, 41, 3, 5, 167), (7, 69, 3, 5, 168), (10, 227, 3, 5, 169), (3, 25, 3, 6, 170), (10, 292, 3, 6, 171), (3, 28, 3, 7, 172), (5, 92, 3, 7, 173), (10, 274, 3, 7, 174), (3, 31, 3, 8, 175), (10, 277, 3, 8, 176), (3, 34, 3, 9, 177), (10, 280, 3, 9, 178), (6, 15, 6, 0, 211), (6, 21, 6, 1, 212), (7, 12, 7, 0, 221), (5, 54, 7, 0, 222), (1, 81, 7, 0, 223), (4, 83, 7, 0, 224), (0, 38, 7, 0, 225), (10, 169, 7, 0, 226), (7, 18, 7, 1, 227), (10, 192, 7, 1, 228), (7, 22, 7, 2, 229), (10, 178, 7, 2, 230), (7, 30, 7, 3, 231), (1, 74, 7, 3, 232), (10, 110, 7, 3, 233), (4, 102, 7, 3, 234), (0, 44, 7, 3, 235), (0, 9, 0, 0, 251), (2, 54, 0, 0, 252), (10, 195, 0, 0, 253), (0, 15, 0, 1, 254), (2, 59, 0, 1, 255), (10, 209, 0, 1, 256), (1, 12, 1, 0, 264), (10, 29, 1, 0, 265), (1, 21, 1, 1, 266), (10, 51, 1, 1, 267), (2, 38, 1, 1, 268), (1, 28, 1, 2, 269), (10, 100, 1, 2, 270), (2, 50, 1, 2, 271), (1, 58, 1, 3, 272), (10, 147, 1, 3, 273), (1, 32, 1, 4, 274), (10, 150, 1, 4, 275), (1, 61, 1, 5, 276), (10, 120, 1, 5, 277), (1, 65, 1, 6, 278), (10, 127, 1, 6, 279), (1, 41, 1, 7, 280), (10, 130, 1, 7, 281), (1, 71, 1, 8, 282), (10, 212, 1, 8, 283), (1, 45, 1, 9, 284), (10, 215, 1, 9, 285), (2, 9, 2, 0, 314), (2, 13, 2, 1, 315), (2, 16, 2, 2, 316), (2, 19, 2, 3, 317), (2, 22, 2, 4, 318), (2, 26, 2, 5, 319), (10, 218, 2, 5, 320), (9, 9, 9, 0, 340), (9, 15, 9, 1, 341), (5, 30, 9, 2, 342), (4, 53, 9, 2, 343), (9, 44, 9, 2, 344), (9, 28, 9, 3, 345), (9, 70, 9, 4, 346), (5, 102, 9, 4, 347), (5, 66, 9, 5, 348), (4, 89, 9, 5, 349), (9, 62, 9, 5, 350), (9, 19, 9, 6, 351), (10, 342, 9, 6, 352), (9, 22, 9, 7, 353), (10, 343, 9, 7, 354), (5, 18, 5, 0, 380), (5, 12, 5, 1, 381), (10, 91, 5, 1, 382), (4, 27, 4, 0, 396), (4, 31, 4, 1, 397), (4, 16, 4, 2, 398), (10, 133, 4, 2, 399), (4, 20, 4, 3, 400), (4, 24, 4, 4, 401), (4, 35, 4, 5, 402), (4, 73, 4, 6, 403), (4, 56, 4, 7, 404), (4, 39, 4, 8, 405), (4, 42, 4, 9, 406), (10, 124, 4, 9, 407), (10, 12, 10, 0, 431), (10, 16, 10, 1, 432), (10, 23, 10, 2, 433), (10, 45, 10, 3, 434), (10, 58, 10, 4, 435), (10, 36, 10, 5, 436), (10, 67, 10, 6, 437), (11, 7, 11, 0, 1074), (11, 13, 11, 1, 1075), (11, 16, 11, 2, 1076), (11, 147, 11, 3, 1077), (11, 208, 11, 4, 1078), (11, 20, 11, 5, 1079), (11, 144, 11, 6, 1080), (11, 24, 11, 7, 1081), (11, 27, 11, 8, 1082), (11, 30, 11, 9, 1083), (11, 33, 11, 10, 1084), (11, 36, 11, 11, 1085), (11, 39, 11, 12, 1086), (11, 211, 11, 13, 1087), (11, 214, 11, 14, 1088), (11, 227, 11, 15, 1089), (11, 220, 11, 16, 1090), (11, 223, 11, 17, 1091), (11, 42, 11, 18, 1092), (11, 45, 11, 19, 1093), (11, 48, 11, 20, 1094), (11, 51, 11, 21, 1095), (11, 54, 11, 22, 1096), (11, 328, 11, 23, 1097), (11, 341, 11, 24, 1098), (11, 338, 11, 25, 1099)]
/-- class links: class, entry, class, places of the words -/
def zz_NL : List (Nat × Nat × Nat × Nat × Nat × Nat) := [(13, 7, 10, 112, 113, 95), (10, 9, 1, 120, 121, 96), (1, 9, 8, 126, 127, 97), (1, 18, 7, 142, 143, 98), (7, 9, 3, 148, 149, 99), (7, 25, 6, 202, 203, 100), (1, 25, 0, 245, 246, 103), (1, 36, 6, 262, 203, 100), (10, 20, 2, 308, 309, 104), (10, 27, 9, 334, 335, 105), (10, 40, 5, 372, 373, 106), (5, 9, 7, 378, 143, 98), (10, 49, 4, 388, 389, 107), (4, 11, 6, 394, 203, 100), (10, 62, 6, 429, 203, 100), (13, 10, 11, 1068, 1069, 108)]
def zz_KL : List (Nat × Nat × Int32 × Nat) := [(14, 265, 1431655765, 681), (14, 266, 858993459, 682), (14, 267, 252645135, 683)]
def zz_JL : List (Nat × Nat × Int64 × Nat) := [(9, 73, 132264, 517), (9, 75, 180599091, 518), (9, 77, 833581, 519), (9, 79, 5943350, 520), (9, 81, 457, 521), (9, 83, 153586866, 522), (9, 85, 591, 523), (9, 87, 4545, 524), (9, 89, 642220, 525), (9, 91, 12673, 526), (11, 233, 27, 1433), (11, 235, 97, 1434), (11, 240, 10, 1438), (11, 242, 48, 1439), (11, 258, 161140, 1448), (11, 260, 277693196, 1472), (11, 262, 257011, 1473), (11, 264, 11720705, 1474), (11, 266, 257, 1475), (11, 268, 261008005, 1476), (11, 270, 423, 1477), (11, 272, 1111, 1478), (11, 274, 240373, 1479), (11, 276, 1065, 1480)]
