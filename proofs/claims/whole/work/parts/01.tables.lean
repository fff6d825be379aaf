-- ===== PART A: goes FIRST, ahead of the names: the tables' words, and 'selects' of the private methods out of them =====
/-- a private method of a class that the tables say can be made, by its rows of tables_1 -/
def lw_okq (q : MethodName × Nat) : Prop := (q.1.cls ≠ "java/lang/invoke/MethodHandle" ∧ q.1.cls ≠ "java/lang/invoke/VarHandle") ∧ Cond.instantiable q.1.cls q.2 ∈ tables_1 ∧ Cond.privateMethod q.1 ∈ tables_1 ∧ Cond.instanceMethod q.1 ∈ tables_1
theorem lw_p0 : lw_okq (⟨"FacetSieve$Tokens", "readWord", "()V"⟩, 8) := ⟨⟨by decide +kernel, by decide +kernel⟩, List.mem_of_getElem? (i := 247) (by decide +kernel), List.mem_of_getElem? (i := 423) (by decide +kernel), List.mem_of_getElem? (i := 424) (by decide +kernel)⟩
theorem lw_p1 : lw_okq (⟨"FacetSieve$Tokens", "wordKind", "()I"⟩, 8) := ⟨⟨by decide +kernel, by decide +kernel⟩, List.mem_of_getElem? (i := 247) (by decide +kernel), List.mem_of_getElem? (i := 427) (by decide +kernel), List.mem_of_getElem? (i := 428) (by decide +kernel)⟩
theorem lw_p2 : lw_okq (⟨"FacetSieve$Tokens", "readNumber", "()V"⟩, 8) := ⟨⟨by decide +kernel, by decide +kernel⟩, List.mem_of_getElem? (i := 247) (by decide +kernel), List.mem_of_getElem? (i := 444) (by decide +kernel), List.mem_of_getElem? (i := 445) (by decide +kernel)⟩
theorem lw_p3 : lw_okq (⟨"FacetSieve$SchemeReader", "readLine", "()Z"⟩, 2) := ⟨⟨by decide +kernel, by decide +kernel⟩, List.mem_of_getElem? (i := 241) (by decide +kernel), List.mem_of_getElem? (i := 451) (by decide +kernel), List.mem_of_getElem? (i := 452) (by decide +kernel)⟩
theorem lw_p4 : lw_okq (⟨"FacetSieve$SchemeReader", "readHead", "()Z"⟩, 2) := ⟨⟨by decide +kernel, by decide +kernel⟩, List.mem_of_getElem? (i := 241) (by decide +kernel), List.mem_of_getElem? (i := 455) (by decide +kernel), List.mem_of_getElem? (i := 456) (by decide +kernel)⟩
theorem lw_p5 : lw_okq (⟨"FacetSieve$SchemeReader", "isNewName", "()Z"⟩, 2) := ⟨⟨by decide +kernel, by decide +kernel⟩, List.mem_of_getElem? (i := 241) (by decide +kernel), List.mem_of_getElem? (i := 468) (by decide +kernel), List.mem_of_getElem? (i := 469) (by decide +kernel)⟩
theorem lw_p6 : lw_okq (⟨"FacetSieve$SchemeReader", "readValue", "()Z"⟩, 2) := ⟨⟨by decide +kernel, by decide +kernel⟩, List.mem_of_getElem? (i := 241) (by decide +kernel), List.mem_of_getElem? (i := 485) (by decide +kernel), List.mem_of_getElem? (i := 486) (by decide +kernel)⟩
theorem lw_p7 : lw_okq (⟨"FacetSieve$SchemeReader", "isValueOfLatestHead", "()Z"⟩, 2) := ⟨⟨by decide +kernel, by decide +kernel⟩, List.mem_of_getElem? (i := 241) (by decide +kernel), List.mem_of_getElem? (i := 493) (by decide +kernel), List.mem_of_getElem? (i := 494) (by decide +kernel)⟩
theorem lw_p8 : lw_okq (⟨"FacetSieve$SchemeReader", "readRecord", "()Z"⟩, 2) := ⟨⟨by decide +kernel, by decide +kernel⟩, List.mem_of_getElem? (i := 241) (by decide +kernel), List.mem_of_getElem? (i := 507) (by decide +kernel), List.mem_of_getElem? (i := 508) (by decide +kernel)⟩
theorem lw_p9 : lw_okq (⟨"FacetSieve$SchemeReader", "isNumberUpTo", "(I)Z"⟩, 2) := ⟨⟨by decide +kernel, by decide +kernel⟩, List.mem_of_getElem? (i := 241) (by decide +kernel), List.mem_of_getElem? (i := 511) (by decide +kernel), List.mem_of_getElem? (i := 512) (by decide +kernel)⟩
theorem lw_p10 : lw_okq (⟨"FacetSieve$SchemeReader", "readTags", "(II)Z"⟩, 2) := ⟨⟨by decide +kernel, by decide +kernel⟩, List.mem_of_getElem? (i := 241) (by decide +kernel), List.mem_of_getElem? (i := 522) (by decide +kernel), List.mem_of_getElem? (i := 523) (by decide +kernel)⟩
theorem lw_p11 : lw_okq (⟨"FacetSieve$Sets", "isInside", "(II)Z"⟩, 2) := ⟨⟨by decide +kernel, by decide +kernel⟩, List.mem_of_getElem? (i := 109) (by decide +kernel), List.mem_of_getElem? (i := 542) (by decide +kernel), List.mem_of_getElem? (i := 543) (by decide +kernel)⟩
theorem lw_p12 : lw_okq (⟨"FacetSieve$QuestionReader", "startDepth", "(I)V"⟩, 9) := ⟨⟨by decide +kernel, by decide +kernel⟩, List.mem_of_getElem? (i := 298) (by decide +kernel), List.mem_of_getElem? (i := 604) (by decide +kernel), List.mem_of_getElem? (i := 605) (by decide +kernel)⟩
theorem lw_p13 : lw_okq (⟨"FacetSieve$QuestionReader", "readFact", "(LFacetSieve$Stock;)Z"⟩, 9) := ⟨⟨by decide +kernel, by decide +kernel⟩, List.mem_of_getElem? (i := 298) (by decide +kernel), List.mem_of_getElem? (i := 609) (by decide +kernel), List.mem_of_getElem? (i := 610) (by decide +kernel)⟩
theorem lw_p14 : lw_okq (⟨"FacetSieve$QuestionReader", "readSet", "(LFacetSieve$Sets;I)Z"⟩, 9) := ⟨⟨by decide +kernel, by decide +kernel⟩, List.mem_of_getElem? (i := 298) (by decide +kernel), List.mem_of_getElem? (i := 614) (by decide +kernel), List.mem_of_getElem? (i := 615) (by decide +kernel)⟩
theorem lw_p15 : lw_okq (⟨"FacetSieve$QuestionReader", "readJoin", "()Z"⟩, 9) := ⟨⟨by decide +kernel, by decide +kernel⟩, List.mem_of_getElem? (i := 298) (by decide +kernel), List.mem_of_getElem? (i := 627) (by decide +kernel), List.mem_of_getElem? (i := 628) (by decide +kernel)⟩
def lw_privs_1 : List (MethodName × Nat) := [(⟨"FacetSieve$Tokens", "readWord", "()V"⟩, 8), (⟨"FacetSieve$Tokens", "wordKind", "()I"⟩, 8), (⟨"FacetSieve$Tokens", "readNumber", "()V"⟩, 8), (⟨"FacetSieve$SchemeReader", "readLine", "()Z"⟩, 2), (⟨"FacetSieve$SchemeReader", "readHead", "()Z"⟩, 2), (⟨"FacetSieve$SchemeReader", "isNewName", "()Z"⟩, 2), (⟨"FacetSieve$SchemeReader", "readValue", "()Z"⟩, 2), (⟨"FacetSieve$SchemeReader", "isValueOfLatestHead", "()Z"⟩, 2), (⟨"FacetSieve$SchemeReader", "readRecord", "()Z"⟩, 2), (⟨"FacetSieve$SchemeReader", "isNumberUpTo", "(I)Z"⟩, 2), (⟨"FacetSieve$SchemeReader", "readTags", "(II)Z"⟩, 2), (⟨"FacetSieve$Sets", "isInside", "(II)Z"⟩, 2), (⟨"FacetSieve$QuestionReader", "startDepth", "(I)V"⟩, 9), (⟨"FacetSieve$QuestionReader", "readFact", "(LFacetSieve$Stock;)Z"⟩, 9), (⟨"FacetSieve$QuestionReader", "readSet", "(LFacetSieve$Sets;I)Z"⟩, 9), (⟨"FacetSieve$QuestionReader", "readJoin", "()Z"⟩, 9)]
theorem lw_r1 : ∀ q ∈ lw_privs_1, lw_okq q := List.forall_mem_cons.mpr ⟨lw_p0, List.forall_mem_cons.mpr ⟨lw_p1, List.forall_mem_cons.mpr ⟨lw_p2, List.forall_mem_cons.mpr ⟨lw_p3, List.forall_mem_cons.mpr ⟨lw_p4, List.forall_mem_cons.mpr ⟨lw_p5, List.forall_mem_cons.mpr ⟨lw_p6, List.forall_mem_cons.mpr ⟨lw_p7, List.forall_mem_cons.mpr ⟨lw_p8, List.forall_mem_cons.mpr ⟨lw_p9, List.forall_mem_cons.mpr ⟨lw_p10, List.forall_mem_cons.mpr ⟨lw_p11, List.forall_mem_cons.mpr ⟨lw_p12, List.forall_mem_cons.mpr ⟨lw_p13, List.forall_mem_cons.mpr ⟨lw_p14, List.forall_mem_cons.mpr ⟨lw_p15, fun _ h => absurd h List.not_mem_nil⟩⟩⟩⟩⟩⟩⟩⟩⟩⟩⟩⟩⟩⟩⟩⟩
theorem lw_p16 : lw_okq (⟨"FacetSieve$QuestionReader", "endPart", "()V"⟩, 9) := ⟨⟨by decide +kernel, by decide +kernel⟩, List.mem_of_getElem? (i := 298) (by decide +kernel), List.mem_of_getElem? (i := 631) (by decide +kernel), List.mem_of_getElem? (i := 632) (by decide +kernel)⟩
theorem lw_p17 : lw_okq (⟨"FacetSieve$QuestionReader", "joinTopTwo", "(I)V"⟩, 9) := ⟨⟨by decide +kernel, by decide +kernel⟩, List.mem_of_getElem? (i := 298) (by decide +kernel), List.mem_of_getElem? (i := 635) (by decide +kernel), List.mem_of_getElem? (i := 636) (by decide +kernel)⟩
theorem lw_p18 : lw_okq (⟨"FacetSieve$QuestionReader", "joinFact", "()V"⟩, 9) := ⟨⟨by decide +kernel, by decide +kernel⟩, List.mem_of_getElem? (i := 298) (by decide +kernel), List.mem_of_getElem? (i := 652) (by decide +kernel), List.mem_of_getElem? (i := 653) (by decide +kernel)⟩
theorem lw_p19 : lw_okq (⟨"FacetSieve", "refuse", "(I)I"⟩, 6) := ⟨⟨by decide +kernel, by decide +kernel⟩, List.mem_of_getElem? (i := 19) (by decide +kernel), List.mem_of_getElem? (i := 688) (by decide +kernel), List.mem_of_getElem? (i := 689) (by decide +kernel)⟩
theorem lw_p20 : lw_okq (⟨"FacetSieve", "changeRecord", "(III)I"⟩, 6) := ⟨⟨by decide +kernel, by decide +kernel⟩, List.mem_of_getElem? (i := 19) (by decide +kernel), List.mem_of_getElem? (i := 697) (by decide +kernel), List.mem_of_getElem? (i := 698) (by decide +kernel)⟩
theorem lw_p21 : lw_okq (⟨"FacetSieve", "accept", "()I"⟩, 6) := ⟨⟨by decide +kernel, by decide +kernel⟩, List.mem_of_getElem? (i := 19) (by decide +kernel), List.mem_of_getElem? (i := 707) (by decide +kernel), List.mem_of_getElem? (i := 708) (by decide +kernel)⟩
theorem lw_p22 : lw_okq (⟨"FacetSieve", "sureValues", "()I"⟩, 6) := ⟨⟨by decide +kernel, by decide +kernel⟩, List.mem_of_getElem? (i := 19) (by decide +kernel), List.mem_of_getElem? (i := 798) (by decide +kernel), List.mem_of_getElem? (i := 799) (by decide +kernel)⟩
theorem lw_p23 : lw_okq (⟨"FacetSieve", "lookWhatIsLeft", "()V"⟩, 6) := ⟨⟨by decide +kernel, by decide +kernel⟩, List.mem_of_getElem? (i := 19) (by decide +kernel), List.mem_of_getElem? (i := 802) (by decide +kernel), List.mem_of_getElem? (i := 803) (by decide +kernel)⟩
theorem lw_p24 : lw_okq (⟨"FacetSieve", "amountLeftWith", "(I)I"⟩, 6) := ⟨⟨by decide +kernel, by decide +kernel⟩, List.mem_of_getElem? (i := 19) (by decide +kernel), List.mem_of_getElem? (i := 808) (by decide +kernel), List.mem_of_getElem? (i := 809) (by decide +kernel)⟩
theorem lw_p25 : lw_okq (⟨"FacetSieve", "idleValues", "()I"⟩, 6) := ⟨⟨by decide +kernel, by decide +kernel⟩, List.mem_of_getElem? (i := 19) (by decide +kernel), List.mem_of_getElem? (i := 813) (by decide +kernel), List.mem_of_getElem? (i := 814) (by decide +kernel)⟩
theorem lw_p26 : lw_okq (⟨"FacetSieve", "partingValue", "()I"⟩, 6) := ⟨⟨by decide +kernel, by decide +kernel⟩, List.mem_of_getElem? (i := 19) (by decide +kernel), List.mem_of_getElem? (i := 817) (by decide +kernel), List.mem_of_getElem? (i := 818) (by decide +kernel)⟩
theorem lw_p27 : lw_okq (⟨"FacetSieve", "amountBehind", "(I)I"⟩, 6) := ⟨⟨by decide +kernel, by decide +kernel⟩, List.mem_of_getElem? (i := 19) (by decide +kernel), List.mem_of_getElem? (i := 845) (by decide +kernel), List.mem_of_getElem? (i := 846) (by decide +kernel)⟩
theorem lw_p28 : lw_okq (⟨"FacetSieve", "shownAt", "(I)I"⟩, 6) := ⟨⟨by decide +kernel, by decide +kernel⟩, List.mem_of_getElem? (i := 19) (by decide +kernel), List.mem_of_getElem? (i := 874) (by decide +kernel), List.mem_of_getElem? (i := 875) (by decide +kernel)⟩
theorem lw_p29 : lw_okq (⟨"FacetSieve", "leftOfRankFrom", "(I)I"⟩, 6) := ⟨⟨by decide +kernel, by decide +kernel⟩, List.mem_of_getElem? (i := 19) (by decide +kernel), List.mem_of_getElem? (i := 878) (by decide +kernel), List.mem_of_getElem? (i := 879) (by decide +kernel)⟩
theorem lw_p30 : lw_okq (⟨"FacetSieve", "leftOfRank", "(II)I"⟩, 6) := ⟨⟨by decide +kernel, by decide +kernel⟩, List.mem_of_getElem? (i := 19) (by decide +kernel), List.mem_of_getElem? (i := 882) (by decide +kernel), List.mem_of_getElem? (i := 883) (by decide +kernel)⟩
theorem lw_p31 : lw_okq (⟨"FacetSieve$Stock", "namingOne", "(I)I"⟩, 4) := ⟨⟨by decide +kernel, by decide +kernel⟩, List.mem_of_getElem? (i := 49) (by decide +kernel), List.mem_of_getElem? (i := 923) (by decide +kernel), List.mem_of_getElem? (i := 924) (by decide +kernel)⟩
def lw_privs_2 : List (MethodName × Nat) := [(⟨"FacetSieve$QuestionReader", "endPart", "()V"⟩, 9), (⟨"FacetSieve$QuestionReader", "joinTopTwo", "(I)V"⟩, 9), (⟨"FacetSieve$QuestionReader", "joinFact", "()V"⟩, 9), (⟨"FacetSieve", "refuse", "(I)I"⟩, 6), (⟨"FacetSieve", "changeRecord", "(III)I"⟩, 6), (⟨"FacetSieve", "accept", "()I"⟩, 6), (⟨"FacetSieve", "sureValues", "()I"⟩, 6), (⟨"FacetSieve", "lookWhatIsLeft", "()V"⟩, 6), (⟨"FacetSieve", "amountLeftWith", "(I)I"⟩, 6), (⟨"FacetSieve", "idleValues", "()I"⟩, 6), (⟨"FacetSieve", "partingValue", "()I"⟩, 6), (⟨"FacetSieve", "amountBehind", "(I)I"⟩, 6), (⟨"FacetSieve", "shownAt", "(I)I"⟩, 6), (⟨"FacetSieve", "leftOfRankFrom", "(I)I"⟩, 6), (⟨"FacetSieve", "leftOfRank", "(II)I"⟩, 6), (⟨"FacetSieve$Stock", "namingOne", "(I)I"⟩, 4)]
theorem lw_r2 : ∀ q ∈ lw_privs_2, lw_okq q := List.forall_mem_cons.mpr ⟨lw_p16, List.forall_mem_cons.mpr ⟨lw_p17, List.forall_mem_cons.mpr ⟨lw_p18, List.forall_mem_cons.mpr ⟨lw_p19, List.forall_mem_cons.mpr ⟨lw_p20, List.forall_mem_cons.mpr ⟨lw_p21, List.forall_mem_cons.mpr ⟨lw_p22, List.forall_mem_cons.mpr ⟨lw_p23, List.forall_mem_cons.mpr ⟨lw_p24, List.forall_mem_cons.mpr ⟨lw_p25, List.forall_mem_cons.mpr ⟨lw_p26, List.forall_mem_cons.mpr ⟨lw_p27, List.forall_mem_cons.mpr ⟨lw_p28, List.forall_mem_cons.mpr ⟨lw_p29, List.forall_mem_cons.mpr ⟨lw_p30, List.forall_mem_cons.mpr ⟨lw_p31, fun _ h => absurd h List.not_mem_nil⟩⟩⟩⟩⟩⟩⟩⟩⟩⟩⟩⟩⟩⟩⟩⟩
theorem lw_p32 : lw_okq (⟨"FacetSieve$Stock", "isAlone", "(III)Z"⟩, 4) := ⟨⟨by decide +kernel, by decide +kernel⟩, List.mem_of_getElem? (i := 49) (by decide +kernel), List.mem_of_getElem? (i := 927) (by decide +kernel), List.mem_of_getElem? (i := 928) (by decide +kernel)⟩
theorem lw_p33 : lw_okq (⟨"FacetSieve$Stock", "namingTwo", "(I)I"⟩, 4) := ⟨⟨by decide +kernel, by decide +kernel⟩, List.mem_of_getElem? (i := 49) (by decide +kernel), List.mem_of_getElem? (i := 932) (by decide +kernel), List.mem_of_getElem? (i := 933) (by decide +kernel)⟩
theorem lw_p34 : lw_okq (⟨"FacetSieve$Stock", "namingThree", "(I)I"⟩, 4) := ⟨⟨by decide +kernel, by decide +kernel⟩, List.mem_of_getElem? (i := 49) (by decide +kernel), List.mem_of_getElem? (i := 936) (by decide +kernel), List.mem_of_getElem? (i := 937) (by decide +kernel)⟩
theorem lw_p35 : lw_okq (⟨"FacetSieveModel", "summed", "(I)I"⟩, 26) := ⟨⟨by decide +kernel, by decide +kernel⟩, List.mem_of_getElem? (i := 976) (by decide +kernel), List.mem_of_getElem? (i := 1069) (by decide +kernel), List.mem_of_getElem? (i := 1070) (by decide +kernel)⟩
theorem lw_p36 : lw_okq (⟨"FacetSieveModel", "laysSet", "([II)V"⟩, 26) := ⟨⟨by decide +kernel, by decide +kernel⟩, List.mem_of_getElem? (i := 976) (by decide +kernel), List.mem_of_getElem? (i := 1073) (by decide +kernel), List.mem_of_getElem? (i := 1074) (by decide +kernel)⟩
theorem lw_p37 : lw_okq (⟨"FacetSieveModel", "isUnder", "(II)Z"⟩, 26) := ⟨⟨by decide +kernel, by decide +kernel⟩, List.mem_of_getElem? (i := 976) (by decide +kernel), List.mem_of_getElem? (i := 1077) (by decide +kernel), List.mem_of_getElem? (i := 1078) (by decide +kernel)⟩
theorem lw_p38 : lw_okq (⟨"FacetSieveModel", "tagsOf", "(I)I"⟩, 26) := ⟨⟨by decide +kernel, by decide +kernel⟩, List.mem_of_getElem? (i := 976) (by decide +kernel), List.mem_of_getElem? (i := 1084) (by decide +kernel), List.mem_of_getElem? (i := 1085) (by decide +kernel)⟩
theorem lw_p39 : lw_okq (⟨"FacetSieveModel", "thereMany", "()I"⟩, 26) := ⟨⟨by decide +kernel, by decide +kernel⟩, List.mem_of_getElem? (i := 976) (by decide +kernel), List.mem_of_getElem? (i := 1103) (by decide +kernel), List.mem_of_getElem? (i := 1104) (by decide +kernel)⟩
theorem lw_p40 : lw_okq (⟨"FacetSieveModel", "leftMany", "()I"⟩, 26) := ⟨⟨by decide +kernel, by decide +kernel⟩, List.mem_of_getElem? (i := 976) (by decide +kernel), List.mem_of_getElem? (i := 1107) (by decide +kernel), List.mem_of_getElem? (i := 1108) (by decide +kernel)⟩
theorem lw_p41 : lw_okq (⟨"FacetSieveModel", "laysLeft", "(I)V"⟩, 26) := ⟨⟨by decide +kernel, by decide +kernel⟩, List.mem_of_getElem? (i := 976) (by decide +kernel), List.mem_of_getElem? (i := 1111) (by decide +kernel), List.mem_of_getElem? (i := 1112) (by decide +kernel)⟩
theorem lw_p42 : lw_okq (⟨"FacetSieveModel", "goesBy", "(I)V"⟩, 26) := ⟨⟨by decide +kernel, by decide +kernel⟩, List.mem_of_getElem? (i := 976) (by decide +kernel), List.mem_of_getElem? (i := 1115) (by decide +kernel), List.mem_of_getElem? (i := 1116) (by decide +kernel)⟩
theorem lw_p43 : lw_okq (⟨"FacetSieveModel", "ofHead", "(I)I"⟩, 26) := ⟨⟨by decide +kernel, by decide +kernel⟩, List.mem_of_getElem? (i := 976) (by decide +kernel), List.mem_of_getElem? (i := 1122) (by decide +kernel), List.mem_of_getElem? (i := 1123) (by decide +kernel)⟩
theorem lw_p44 : lw_okq (⟨"FacetSieveModel", "chosen", "(I)I"⟩, 26) := ⟨⟨by decide +kernel, by decide +kernel⟩, List.mem_of_getElem? (i := 976) (by decide +kernel), List.mem_of_getElem? (i := 1126) (by decide +kernel), List.mem_of_getElem? (i := 1127) (by decide +kernel)⟩
theorem lw_p45 : lw_okq (⟨"FacetSieveModel", "toldMany", "(Z)I"⟩, 26) := ⟨⟨by decide +kernel, by decide +kernel⟩, List.mem_of_getElem? (i := 976) (by decide +kernel), List.mem_of_getElem? (i := 1133) (by decide +kernel), List.mem_of_getElem? (i := 1134) (by decide +kernel)⟩
theorem lw_p46 : lw_okq (⟨"FacetSieveModel", "isIdle", "(I)Z"⟩, 26) := ⟨⟨by decide +kernel, by decide +kernel⟩, List.mem_of_getElem? (i := 976) (by decide +kernel), List.mem_of_getElem? (i := 1137) (by decide +kernel), List.mem_of_getElem? (i := 1138) (by decide +kernel)⟩
theorem lw_p47 : lw_okq (⟨"FacetSieveModel", "aheadOf", "(I)I"⟩, 26) := ⟨⟨by decide +kernel, by decide +kernel⟩, List.mem_of_getElem? (i := 976) (by decide +kernel), List.mem_of_getElem? (i := 1141) (by decide +kernel), List.mem_of_getElem? (i := 1142) (by decide +kernel)⟩
def lw_privs_3 : List (MethodName × Nat) := [(⟨"FacetSieve$Stock", "isAlone", "(III)Z"⟩, 4), (⟨"FacetSieve$Stock", "namingTwo", "(I)I"⟩, 4), (⟨"FacetSieve$Stock", "namingThree", "(I)I"⟩, 4), (⟨"FacetSieveModel", "summed", "(I)I"⟩, 26), (⟨"FacetSieveModel", "laysSet", "([II)V"⟩, 26), (⟨"FacetSieveModel", "isUnder", "(II)Z"⟩, 26), (⟨"FacetSieveModel", "tagsOf", "(I)I"⟩, 26), (⟨"FacetSieveModel", "thereMany", "()I"⟩, 26), (⟨"FacetSieveModel", "leftMany", "()I"⟩, 26), (⟨"FacetSieveModel", "laysLeft", "(I)V"⟩, 26), (⟨"FacetSieveModel", "goesBy", "(I)V"⟩, 26), (⟨"FacetSieveModel", "ofHead", "(I)I"⟩, 26), (⟨"FacetSieveModel", "chosen", "(I)I"⟩, 26), (⟨"FacetSieveModel", "toldMany", "(Z)I"⟩, 26), (⟨"FacetSieveModel", "isIdle", "(I)Z"⟩, 26), (⟨"FacetSieveModel", "aheadOf", "(I)I"⟩, 26)]
theorem lw_r3 : ∀ q ∈ lw_privs_3, lw_okq q := List.forall_mem_cons.mpr ⟨lw_p32, List.forall_mem_cons.mpr ⟨lw_p33, List.forall_mem_cons.mpr ⟨lw_p34, List.forall_mem_cons.mpr ⟨lw_p35, List.forall_mem_cons.mpr ⟨lw_p36, List.forall_mem_cons.mpr ⟨lw_p37, List.forall_mem_cons.mpr ⟨lw_p38, List.forall_mem_cons.mpr ⟨lw_p39, List.forall_mem_cons.mpr ⟨lw_p40, List.forall_mem_cons.mpr ⟨lw_p41, List.forall_mem_cons.mpr ⟨lw_p42, List.forall_mem_cons.mpr ⟨lw_p43, List.forall_mem_cons.mpr ⟨lw_p44, List.forall_mem_cons.mpr ⟨lw_p45, List.forall_mem_cons.mpr ⟨lw_p46, List.forall_mem_cons.mpr ⟨lw_p47, fun _ h => absurd h List.not_mem_nil⟩⟩⟩⟩⟩⟩⟩⟩⟩⟩⟩⟩⟩⟩⟩⟩
theorem lw_p48 : lw_okq (⟨"FacetSieveModel", "isSure", "(I)Z"⟩, 26) := ⟨⟨by decide +kernel, by decide +kernel⟩, List.mem_of_getElem? (i := 976) (by decide +kernel), List.mem_of_getElem? (i := 1145) (by decide +kernel), List.mem_of_getElem? (i := 1146) (by decide +kernel)⟩
theorem lw_p49 : lw_okq (⟨"FacetSieveModel", "inSet", "(I)I"⟩, 26) := ⟨⟨by decide +kernel, by decide +kernel⟩, List.mem_of_getElem? (i := 976) (by decide +kernel), List.mem_of_getElem? (i := 1149) (by decide +kernel), List.mem_of_getElem? (i := 1150) (by decide +kernel)⟩
theorem lw_p50 : lw_okq (⟨"FacetSieveModel", "parting", "()I"⟩, 26) := ⟨⟨by decide +kernel, by decide +kernel⟩, List.mem_of_getElem? (i := 976) (by decide +kernel), List.mem_of_getElem? (i := 1153) (by decide +kernel), List.mem_of_getElem? (i := 1154) (by decide +kernel)⟩
theorem lw_p51 : lw_okq (⟨"FacetSieveModel", "isHead", "(I)Z"⟩, 26) := ⟨⟨by decide +kernel, by decide +kernel⟩, List.mem_of_getElem? (i := 976) (by decide +kernel), List.mem_of_getElem? (i := 1161) (by decide +kernel), List.mem_of_getElem? (i := 1162) (by decide +kernel)⟩
theorem lw_p52 : lw_okq (⟨"FacetSieveModel", "letter", "(II)I"⟩, 26) := ⟨⟨by decide +kernel, by decide +kernel⟩, List.mem_of_getElem? (i := 976) (by decide +kernel), List.mem_of_getElem? (i := 1165) (by decide +kernel), List.mem_of_getElem? (i := 1166) (by decide +kernel)⟩
theorem lw_p53 : lw_okq (⟨"FacetSieveModel", "isValue", "(I)Z"⟩, 26) := ⟨⟨by decide +kernel, by decide +kernel⟩, List.mem_of_getElem? (i := 976) (by decide +kernel), List.mem_of_getElem? (i := 1173) (by decide +kernel), List.mem_of_getElem? (i := 1174) (by decide +kernel)⟩
theorem lw_p54 : lw_okq (⟨"FacetSieveModel", "countOf", "(I)I"⟩, 26) := ⟨⟨by decide +kernel, by decide +kernel⟩, List.mem_of_getElem? (i := 976) (by decide +kernel), List.mem_of_getElem? (i := 1177) (by decide +kernel), List.mem_of_getElem? (i := 1178) (by decide +kernel)⟩
theorem lw_p55 : lw_okq (⟨"FacetSieveModel", "isThere", "(I)Z"⟩, 26) := ⟨⟨by decide +kernel, by decide +kernel⟩, List.mem_of_getElem? (i := 976) (by decide +kernel), List.mem_of_getElem? (i := 1189) (by decide +kernel), List.mem_of_getElem? (i := 1190) (by decide +kernel)⟩
theorem lw_p56 : lw_okq (⟨"FacetSieveModel", "isBit", "(II)Z"⟩, 26) := ⟨⟨by decide +kernel, by decide +kernel⟩, List.mem_of_getElem? (i := 976) (by decide +kernel), List.mem_of_getElem? (i := 1196) (by decide +kernel), List.mem_of_getElem? (i := 1197) (by decide +kernel)⟩
theorem lw_p57 : lw_okq (⟨"FacetSieveModel", "at", "([II)I"⟩, 26) := ⟨⟨by decide +kernel, by decide +kernel⟩, List.mem_of_getElem? (i := 976) (by decide +kernel), List.mem_of_getElem? (i := 1211) (by decide +kernel), List.mem_of_getElem? (i := 1212) (by decide +kernel)⟩
theorem lw_p58 : lw_okq (⟨"FacetSieveModel", "inBoth", "()I"⟩, 26) := ⟨⟨by decide +kernel, by decide +kernel⟩, List.mem_of_getElem? (i := 976) (by decide +kernel), List.mem_of_getElem? (i := 1223) (by decide +kernel), List.mem_of_getElem? (i := 1224) (by decide +kernel)⟩
theorem lw_p59 : lw_okq (⟨"FacetSieveModel", "doName", "(II)Z"⟩, 26) := ⟨⟨by decide +kernel, by decide +kernel⟩, List.mem_of_getElem? (i := 976) (by decide +kernel), List.mem_of_getElem? (i := 1238) (by decide +kernel), List.mem_of_getElem? (i := 1239) (by decide +kernel)⟩
theorem lw_p60 : lw_okq (⟨"FacetSieveModel", "nextPick", "(I)Z"⟩, 26) := ⟨⟨by decide +kernel, by decide +kernel⟩, List.mem_of_getElem? (i := 976) (by decide +kernel), List.mem_of_getElem? (i := 1242) (by decide +kernel), List.mem_of_getElem? (i := 1243) (by decide +kernel)⟩
theorem lw_p61 : lw_okq (⟨"FacetSieveModel", "refused", "(II)I"⟩, 26) := ⟨⟨by decide +kernel, by decide +kernel⟩, List.mem_of_getElem? (i := 976) (by decide +kernel), List.mem_of_getElem? (i := 1258) (by decide +kernel), List.mem_of_getElem? (i := 1259) (by decide +kernel)⟩
theorem lw_p62 : lw_okq (⟨"FacetSieveModel", "keeps", "()V"⟩, 26) := ⟨⟨by decide +kernel, by decide +kernel⟩, List.mem_of_getElem? (i := 976) (by decide +kernel), List.mem_of_getElem? (i := 1262) (by decide +kernel), List.mem_of_getElem? (i := 1263) (by decide +kernel)⟩
theorem lw_p63 : lw_okq (⟨"FacetSieveModel", "copies", "(III)V"⟩, 26) := ⟨⟨by decide +kernel, by decide +kernel⟩, List.mem_of_getElem? (i := 976) (by decide +kernel), List.mem_of_getElem? (i := 1266) (by decide +kernel), List.mem_of_getElem? (i := 1267) (by decide +kernel)⟩
def lw_privs_4 : List (MethodName × Nat) := [(⟨"FacetSieveModel", "isSure", "(I)Z"⟩, 26), (⟨"FacetSieveModel", "inSet", "(I)I"⟩, 26), (⟨"FacetSieveModel", "parting", "()I"⟩, 26), (⟨"FacetSieveModel", "isHead", "(I)Z"⟩, 26), (⟨"FacetSieveModel", "letter", "(II)I"⟩, 26), (⟨"FacetSieveModel", "isValue", "(I)Z"⟩, 26), (⟨"FacetSieveModel", "countOf", "(I)I"⟩, 26), (⟨"FacetSieveModel", "isThere", "(I)Z"⟩, 26), (⟨"FacetSieveModel", "isBit", "(II)Z"⟩, 26), (⟨"FacetSieveModel", "at", "([II)I"⟩, 26), (⟨"FacetSieveModel", "inBoth", "()I"⟩, 26), (⟨"FacetSieveModel", "doName", "(II)Z"⟩, 26), (⟨"FacetSieveModel", "nextPick", "(I)Z"⟩, 26), (⟨"FacetSieveModel", "refused", "(II)I"⟩, 26), (⟨"FacetSieveModel", "keeps", "()V"⟩, 26), (⟨"FacetSieveModel", "copies", "(III)V"⟩, 26)]
theorem lw_r4 : ∀ q ∈ lw_privs_4, lw_okq q := List.forall_mem_cons.mpr ⟨lw_p48, List.forall_mem_cons.mpr ⟨lw_p49, List.forall_mem_cons.mpr ⟨lw_p50, List.forall_mem_cons.mpr ⟨lw_p51, List.forall_mem_cons.mpr ⟨lw_p52, List.forall_mem_cons.mpr ⟨lw_p53, List.forall_mem_cons.mpr ⟨lw_p54, List.forall_mem_cons.mpr ⟨lw_p55, List.forall_mem_cons.mpr ⟨lw_p56, List.forall_mem_cons.mpr ⟨lw_p57, List.forall_mem_cons.mpr ⟨lw_p58, List.forall_mem_cons.mpr ⟨lw_p59, List.forall_mem_cons.mpr ⟨lw_p60, List.forall_mem_cons.mpr ⟨lw_p61, List.forall_mem_cons.mpr ⟨lw_p62, List.forall_mem_cons.mpr ⟨lw_p63, fun _ h => absurd h List.not_mem_nil⟩⟩⟩⟩⟩⟩⟩⟩⟩⟩⟩⟩⟩⟩⟩⟩
theorem lw_p64 : lw_okq (⟨"FacetSieveModel", "turns", "(II)V"⟩, 26) := ⟨⟨by decide +kernel, by decide +kernel⟩, List.mem_of_getElem? (i := 976) (by decide +kernel), List.mem_of_getElem? (i := 1270) (by decide +kernel), List.mem_of_getElem? (i := 1271) (by decide +kernel)⟩
theorem lw_p65 : lw_okq (⟨"FacetSieveModel", "held", "(III)I"⟩, 26) := ⟨⟨by decide +kernel, by decide +kernel⟩, List.mem_of_getElem? (i := 976) (by decide +kernel), List.mem_of_getElem? (i := 1282) (by decide +kernel), List.mem_of_getElem? (i := 1283) (by decide +kernel)⟩
theorem lw_p66 : lw_okq (⟨"FacetSieveModel", "begins", "()V"⟩, 26) := ⟨⟨by decide +kernel, by decide +kernel⟩, List.mem_of_getElem? (i := 976) (by decide +kernel), List.mem_of_getElem? (i := 1326) (by decide +kernel), List.mem_of_getElem? (i := 1327) (by decide +kernel)⟩
theorem lw_p67 : lw_okq (⟨"FacetSieveModel", "takes", "()V"⟩, 26) := ⟨⟨by decide +kernel, by decide +kernel⟩, List.mem_of_getElem? (i := 976) (by decide +kernel), List.mem_of_getElem? (i := 1330) (by decide +kernel), List.mem_of_getElem? (i := 1331) (by decide +kernel)⟩
theorem lw_p68 : lw_okq (⟨"FacetSieveModel", "byteAt", "(I)I"⟩, 26) := ⟨⟨by decide +kernel, by decide +kernel⟩, List.mem_of_getElem? (i := 976) (by decide +kernel), List.mem_of_getElem? (i := 1334) (by decide +kernel), List.mem_of_getElem? (i := 1335) (by decide +kernel)⟩
theorem lw_p69 : lw_okq (⟨"FacetSieveModel", "isGood", "()Z"⟩, 26) := ⟨⟨by decide +kernel, by decide +kernel⟩, List.mem_of_getElem? (i := 976) (by decide +kernel), List.mem_of_getElem? (i := 1348) (by decide +kernel), List.mem_of_getElem? (i := 1349) (by decide +kernel)⟩
theorem lw_p70 : lw_okq (⟨"FacetSieveModel", "readsLine", "()V"⟩, 26) := ⟨⟨by decide +kernel, by decide +kernel⟩, List.mem_of_getElem? (i := 976) (by decide +kernel), List.mem_of_getElem? (i := 1352) (by decide +kernel), List.mem_of_getElem? (i := 1353) (by decide +kernel)⟩
theorem lw_p71 : lw_okq (⟨"FacetSieveModel", "isWord", "(J)Z"⟩, 26) := ⟨⟨by decide +kernel, by decide +kernel⟩, List.mem_of_getElem? (i := 976) (by decide +kernel), List.mem_of_getElem? (i := 1357) (by decide +kernel), List.mem_of_getElem? (i := 1358) (by decide +kernel)⟩
theorem lw_p72 : lw_okq (⟨"FacetSieveModel", "readsHead", "()V"⟩, 26) := ⟨⟨by decide +kernel, by decide +kernel⟩, List.mem_of_getElem? (i := 976) (by decide +kernel), List.mem_of_getElem? (i := 1361) (by decide +kernel), List.mem_of_getElem? (i := 1362) (by decide +kernel)⟩
theorem lw_p73 : lw_okq (⟨"FacetSieveModel", "fails", "(II)V"⟩, 26) := ⟨⟨by decide +kernel, by decide +kernel⟩, List.mem_of_getElem? (i := 976) (by decide +kernel), List.mem_of_getElem? (i := 1365) (by decide +kernel), List.mem_of_getElem? (i := 1366) (by decide +kernel)⟩
theorem lw_p74 : lw_okq (⟨"FacetSieveModel", "tells", "(I)V"⟩, 26) := ⟨⟨by decide +kernel, by decide +kernel⟩, List.mem_of_getElem? (i := 976) (by decide +kernel), List.mem_of_getElem? (i := 1369) (by decide +kernel), List.mem_of_getElem? (i := 1370) (by decide +kernel)⟩
theorem lw_p75 : lw_okq (⟨"FacetSieveModel", "isName", "()Z"⟩, 26) := ⟨⟨by decide +kernel, by decide +kernel⟩, List.mem_of_getElem? (i := 976) (by decide +kernel), List.mem_of_getElem? (i := 1373) (by decide +kernel), List.mem_of_getElem? (i := 1374) (by decide +kernel)⟩
theorem lw_p76 : lw_okq (⟨"FacetSieveModel", "headBy", "(IJ)I"⟩, 26) := ⟨⟨by decide +kernel, by decide +kernel⟩, List.mem_of_getElem? (i := 976) (by decide +kernel), List.mem_of_getElem? (i := 1389) (by decide +kernel), List.mem_of_getElem? (i := 1390) (by decide +kernel)⟩
theorem lw_p77 : lw_okq (⟨"FacetSieveModel", "nameOf", "(I)J"⟩, 26) := ⟨⟨by decide +kernel, by decide +kernel⟩, List.mem_of_getElem? (i := 976) (by decide +kernel), List.mem_of_getElem? (i := 1393) (by decide +kernel), List.mem_of_getElem? (i := 1394) (by decide +kernel)⟩
theorem lw_p78 : lw_okq (⟨"FacetSieveModel", "valueBy", "(IJ)I"⟩, 26) := ⟨⟨by decide +kernel, by decide +kernel⟩, List.mem_of_getElem? (i := 976) (by decide +kernel), List.mem_of_getElem? (i := 1397) (by decide +kernel), List.mem_of_getElem? (i := 1398) (by decide +kernel)⟩
theorem lw_p79 : lw_okq (⟨"FacetSieveModel", "readsValue", "()V"⟩, 26) := ⟨⟨by decide +kernel, by decide +kernel⟩, List.mem_of_getElem? (i := 976) (by decide +kernel), List.mem_of_getElem? (i := 1401) (by decide +kernel), List.mem_of_getElem? (i := 1402) (by decide +kernel)⟩
def lw_privs_5 : List (MethodName × Nat) := [(⟨"FacetSieveModel", "turns", "(II)V"⟩, 26), (⟨"FacetSieveModel", "held", "(III)I"⟩, 26), (⟨"FacetSieveModel", "begins", "()V"⟩, 26), (⟨"FacetSieveModel", "takes", "()V"⟩, 26), (⟨"FacetSieveModel", "byteAt", "(I)I"⟩, 26), (⟨"FacetSieveModel", "isGood", "()Z"⟩, 26), (⟨"FacetSieveModel", "readsLine", "()V"⟩, 26), (⟨"FacetSieveModel", "isWord", "(J)Z"⟩, 26), (⟨"FacetSieveModel", "readsHead", "()V"⟩, 26), (⟨"FacetSieveModel", "fails", "(II)V"⟩, 26), (⟨"FacetSieveModel", "tells", "(I)V"⟩, 26), (⟨"FacetSieveModel", "isName", "()Z"⟩, 26), (⟨"FacetSieveModel", "headBy", "(IJ)I"⟩, 26), (⟨"FacetSieveModel", "nameOf", "(I)J"⟩, 26), (⟨"FacetSieveModel", "valueBy", "(IJ)I"⟩, 26), (⟨"FacetSieveModel", "readsValue", "()V"⟩, 26)]
theorem lw_r5 : ∀ q ∈ lw_privs_5, lw_okq q := List.forall_mem_cons.mpr ⟨lw_p64, List.forall_mem_cons.mpr ⟨lw_p65, List.forall_mem_cons.mpr ⟨lw_p66, List.forall_mem_cons.mpr ⟨lw_p67, List.forall_mem_cons.mpr ⟨lw_p68, List.forall_mem_cons.mpr ⟨lw_p69, List.forall_mem_cons.mpr ⟨lw_p70, List.forall_mem_cons.mpr ⟨lw_p71, List.forall_mem_cons.mpr ⟨lw_p72, List.forall_mem_cons.mpr ⟨lw_p73, List.forall_mem_cons.mpr ⟨lw_p74, List.forall_mem_cons.mpr ⟨lw_p75, List.forall_mem_cons.mpr ⟨lw_p76, List.forall_mem_cons.mpr ⟨lw_p77, List.forall_mem_cons.mpr ⟨lw_p78, List.forall_mem_cons.mpr ⟨lw_p79, fun _ h => absurd h List.not_mem_nil⟩⟩⟩⟩⟩⟩⟩⟩⟩⟩⟩⟩⟩⟩⟩⟩
theorem lw_p80 : lw_okq (⟨"FacetSieveModel", "hasWord", "(J)Z"⟩, 26) := ⟨⟨by decide +kernel, by decide +kernel⟩, List.mem_of_getElem? (i := 976) (by decide +kernel), List.mem_of_getElem? (i := 1405) (by decide +kernel), List.mem_of_getElem? (i := 1406) (by decide +kernel)⟩
theorem lw_p81 : lw_okq (⟨"FacetSieveModel", "readsRecord", "()V"⟩, 26) := ⟨⟨by decide +kernel, by decide +kernel⟩, List.mem_of_getElem? (i := 976) (by decide +kernel), List.mem_of_getElem? (i := 1409) (by decide +kernel), List.mem_of_getElem? (i := 1410) (by decide +kernel)⟩
theorem lw_p82 : lw_okq (⟨"FacetSieveModel", "numeral", "(II)I"⟩, 26) := ⟨⟨by decide +kernel, by decide +kernel⟩, List.mem_of_getElem? (i := 976) (by decide +kernel), List.mem_of_getElem? (i := 1413) (by decide +kernel), List.mem_of_getElem? (i := 1414) (by decide +kernel)⟩
theorem lw_p83 : lw_okq (⟨"FacetSieveModel", "readsTag", "(I)V"⟩, 26) := ⟨⟨by decide +kernel, by decide +kernel⟩, List.mem_of_getElem? (i := 976) (by decide +kernel), List.mem_of_getElem? (i := 1417) (by decide +kernel), List.mem_of_getElem? (i := 1418) (by decide +kernel)⟩
theorem lw_p84 : lw_okq (⟨"FacetSieveModel", "hasSign", "(I)Z"⟩, 26) := ⟨⟨by decide +kernel, by decide +kernel⟩, List.mem_of_getElem? (i := 976) (by decide +kernel), List.mem_of_getElem? (i := 1421) (by decide +kernel), List.mem_of_getElem? (i := 1422) (by decide +kernel)⟩
theorem lw_p85 : lw_okq (⟨"FacetSieveModel", "isSign", "(I)Z"⟩, 26) := ⟨⟨by decide +kernel, by decide +kernel⟩, List.mem_of_getElem? (i := 976) (by decide +kernel), List.mem_of_getElem? (i := 1425) (by decide +kernel), List.mem_of_getElem? (i := 1426) (by decide +kernel)⟩
theorem lw_p86 : lw_okq (⟨"FacetSieveModel", "opens", "()V"⟩, 26) := ⟨⟨by decide +kernel, by decide +kernel⟩, List.mem_of_getElem? (i := 976) (by decide +kernel), List.mem_of_getElem? (i := 1433) (by decide +kernel), List.mem_of_getElem? (i := 1434) (by decide +kernel)⟩
theorem lw_p87 : lw_okq (⟨"FacetSieveModel", "isFact", "()Z"⟩, 26) := ⟨⟨by decide +kernel, by decide +kernel⟩, List.mem_of_getElem? (i := 976) (by decide +kernel), List.mem_of_getElem? (i := 1437) (by decide +kernel), List.mem_of_getElem? (i := 1438) (by decide +kernel)⟩
theorem lw_p88 : lw_okq (⟨"FacetSieveModel", "comes", "()V"⟩, 26) := ⟨⟨by decide +kernel, by decide +kernel⟩, List.mem_of_getElem? (i := 976) (by decide +kernel), List.mem_of_getElem? (i := 1441) (by decide +kernel), List.mem_of_getElem? (i := 1442) (by decide +kernel)⟩
theorem lw_p89 : lw_okq (⟨"FacetSieveModel", "laysLevel", "([I[I)V"⟩, 26) := ⟨⟨by decide +kernel, by decide +kernel⟩, List.mem_of_getElem? (i := 976) (by decide +kernel), List.mem_of_getElem? (i := 1445) (by decide +kernel), List.mem_of_getElem? (i := 1446) (by decide +kernel)⟩
theorem lw_p90 : lw_okq (⟨"FacetSieveModel", "takesLevel", "([I[I)V"⟩, 26) := ⟨⟨by decide +kernel, by decide +kernel⟩, List.mem_of_getElem? (i := 976) (by decide +kernel), List.mem_of_getElem? (i := 1449) (by decide +kernel), List.mem_of_getElem? (i := 1450) (by decide +kernel)⟩
theorem lw_p91 : lw_okq (⟨"FacetSieveModel", "goesOn", "()Z"⟩, 26) := ⟨⟨by decide +kernel, by decide +kernel⟩, List.mem_of_getElem? (i := 976) (by decide +kernel), List.mem_of_getElem? (i := 1453) (by decide +kernel), List.mem_of_getElem? (i := 1454) (by decide +kernel)⟩
theorem lw_p92 : lw_okq (⟨"FacetSieveModel", "ends", "()V"⟩, 26) := ⟨⟨by decide +kernel, by decide +kernel⟩, List.mem_of_getElem? (i := 976) (by decide +kernel), List.mem_of_getElem? (i := 1457) (by decide +kernel), List.mem_of_getElem? (i := 1458) (by decide +kernel)⟩
def lw_privs_6 : List (MethodName × Nat) := [(⟨"FacetSieveModel", "hasWord", "(J)Z"⟩, 26), (⟨"FacetSieveModel", "readsRecord", "()V"⟩, 26), (⟨"FacetSieveModel", "numeral", "(II)I"⟩, 26), (⟨"FacetSieveModel", "readsTag", "(I)V"⟩, 26), (⟨"FacetSieveModel", "hasSign", "(I)Z"⟩, 26), (⟨"FacetSieveModel", "isSign", "(I)Z"⟩, 26), (⟨"FacetSieveModel", "opens", "()V"⟩, 26), (⟨"FacetSieveModel", "isFact", "()Z"⟩, 26), (⟨"FacetSieveModel", "comes", "()V"⟩, 26), (⟨"FacetSieveModel", "laysLevel", "([I[I)V"⟩, 26), (⟨"FacetSieveModel", "takesLevel", "([I[I)V"⟩, 26), (⟨"FacetSieveModel", "goesOn", "()Z"⟩, 26), (⟨"FacetSieveModel", "ends", "()V"⟩, 26)]
theorem lw_r6 : ∀ q ∈ lw_privs_6, lw_okq q := List.forall_mem_cons.mpr ⟨lw_p80, List.forall_mem_cons.mpr ⟨lw_p81, List.forall_mem_cons.mpr ⟨lw_p82, List.forall_mem_cons.mpr ⟨lw_p83, List.forall_mem_cons.mpr ⟨lw_p84, List.forall_mem_cons.mpr ⟨lw_p85, List.forall_mem_cons.mpr ⟨lw_p86, List.forall_mem_cons.mpr ⟨lw_p87, List.forall_mem_cons.mpr ⟨lw_p88, List.forall_mem_cons.mpr ⟨lw_p89, List.forall_mem_cons.mpr ⟨lw_p90, List.forall_mem_cons.mpr ⟨lw_p91, List.forall_mem_cons.mpr ⟨lw_p92, fun _ h => absurd h List.not_mem_nil⟩⟩⟩⟩⟩⟩⟩⟩⟩⟩⟩⟩⟩
def lw_privs : List (MethodName × Nat) := lw_privs_1 ++ (lw_privs_2 ++ (lw_privs_3 ++ (lw_privs_4 ++ (lw_privs_5 ++ (lw_privs_6)))))
def lw_tbl : List Cond := k2_sels lw_privs ++ tables_1
theorem lw_privs_ok : ∀ q ∈ lw_privs, lw_okq q := by
  show ∀ q ∈ lw_privs_1 ++ (lw_privs_2 ++ (lw_privs_3 ++ (lw_privs_4 ++ (lw_privs_5 ++ (lw_privs_6))))), lw_okq q
  exact List.forall_mem_append.mpr ⟨lw_r1, List.forall_mem_append.mpr ⟨lw_r2, List.forall_mem_append.mpr ⟨lw_r3, List.forall_mem_append.mpr ⟨lw_r4, List.forall_mem_append.mpr ⟨lw_r5, lw_r6⟩⟩⟩⟩⟩

def RX0 : String := "FacetSieve$Boxes"
def TX0 : u_T := fun k => match k with
  | _ => ("", "", "", false)
def tyX0 : Nat → FieldType := fun k => match k with
  | _ => .int
theorem nmX0 : ∀ a, a < 0 → ∀ b, b < 0 → a ≠ b → (TX0 a).2.1 ≠ (TX0 b).2.1 := by decide +kernel
theorem tyX0_ok : ∀ k, k < 0 → parseFieldDescriptor (TX0 k).2.2.1 = some (tyX0 k) := by decide +kernel
def RX1 : String := "FacetSieve$Choice"
def TX1 : u_T := fun k => match k with
  | 0 => ("FacetSieve$Choice", "chosen", "[I", true)
  | _ => ("FacetSieve$Choice", "byAll", "[I", true)
def tyX1 : Nat → FieldType := fun k => match k with
  | 0 => .array .int
  | _ => .array .int
theorem nmX1 : ∀ a, a < 2 → ∀ b, b < 2 → a ≠ b → (TX1 a).2.1 ≠ (TX1 b).2.1 := by decide +kernel
theorem tyX1_ok : ∀ k, k < 2 → parseFieldDescriptor (TX1 k).2.2.1 = some (tyX1 k) := by decide +kernel
def RX2 : String := "FacetSieve$Everything"
def TX2 : u_T := fun k => match k with
  | 0 => ("FacetSieve$Everything", "tape", "LFacetSieve$Tape;", true)
  | 1 => ("FacetSieve$Everything", "stock", "LFacetSieve$Stock;", true)
  | 2 => ("FacetSieve$Everything", "choice", "LFacetSieve$Choice;", true)
  | 3 => ("FacetSieve$Everything", "faultKind", "I", false)
  | 4 => ("FacetSieve$Everything", "faultPlace", "I", false)
  | 5 => ("FacetSieve$Everything", "answered", "Z", false)
  | 6 => ("FacetSieve$Everything", "answerWork", "I", false)
  | 7 => ("FacetSieve$Everything", "answer", "LFacetSieve$Sets;", true)
  | 8 => ("FacetSieve$Everything", "reason", "I", false)
  | _ => ("FacetSieve$Everything", "holder", "I", false)
def tyX2 : Nat → FieldType := fun k => match k with
  | 0 => .object "FacetSieve$Tape"
  | 1 => .object "FacetSieve$Stock"
  | 2 => .object "FacetSieve$Choice"
  | 3 => .int
  | 4 => .int
  | 5 => .boolean
  | 6 => .int
  | 7 => .object "FacetSieve$Sets"
  | 8 => .int
  | _ => .int
theorem nmX2 : ∀ a, a < 10 → ∀ b, b < 10 → a ≠ b → (TX2 a).2.1 ≠ (TX2 b).2.1 := by decide +kernel
theorem tyX2_ok : ∀ k, k < 10 → parseFieldDescriptor (TX2 k).2.2.1 = some (tyX2 k) := by decide +kernel
def RX3 : String := "FacetSieve$Journal"
def TX3 : u_T := fun k => match k with
  | 0 => ("FacetSieve$Journal", "kinds", "[I", true)
  | 1 => ("FacetSieve$Journal", "places", "[I", true)
  | 2 => ("FacetSieve$Journal", "befores", "[I", true)
  | 3 => ("FacetSieve$Journal", "tagsBefore", "[I", true)
  | 4 => ("FacetSieve$Journal", "next", "I", false)
  | _ => ("FacetSieve$Journal", "amount", "I", false)
def tyX3 : Nat → FieldType := fun k => match k with
  | 0 => .array .int
  | 1 => .array .int
  | 2 => .array .int
  | 3 => .array .int
  | 4 => .int
  | _ => .int
theorem nmX3 : ∀ a, a < 6 → ∀ b, b < 6 → a ≠ b → (TX3 a).2.1 ≠ (TX3 b).2.1 := by decide +kernel
theorem tyX3_ok : ∀ k, k < 6 → parseFieldDescriptor (TX3 k).2.2.1 = some (tyX3 k) := by decide +kernel
def RX4 : String := "FacetSieve$Plan"
def TX4 : u_T := fun k => match k with
  | 0 => ("FacetSieve$Plan", "heads", "I", false)
  | 1 => ("FacetSieve$Plan", "headNames", "[J", true)
  | 2 => ("FacetSieve$Plan", "manys", "[I", true)
  | 3 => ("FacetSieve$Plan", "firsts", "[I", true)
  | 4 => ("FacetSieve$Plan", "sizes", "[I", true)
  | 5 => ("FacetSieve$Plan", "values", "I", false)
  | 6 => ("FacetSieve$Plan", "valueNames", "[J", true)
  | 7 => ("FacetSieve$Plan", "headsOf", "[I", true)
  | 8 => ("FacetSieve$Plan", "parents", "[I", true)
  | _ => ("FacetSieve$Plan", "lineages", "[I", true)
def tyX4 : Nat → FieldType := fun k => match k with
  | 0 => .int
  | 1 => .array .long
  | 2 => .array .int
  | 3 => .array .int
  | 4 => .array .int
  | 5 => .int
  | 6 => .array .long
  | 7 => .array .int
  | 8 => .array .int
  | _ => .array .int
theorem nmX4 : ∀ a, a < 10 → ∀ b, b < 10 → a ≠ b → (TX4 a).2.1 ≠ (TX4 b).2.1 := by decide +kernel
theorem tyX4_ok : ∀ k, k < 10 → parseFieldDescriptor (TX4 k).2.2.1 = some (tyX4 k) := by decide +kernel
def RX5 : String := "FacetSieve$QuestionReader"
def TX5 : u_T := fun k => match k with
  | 0 => ("FacetSieve$QuestionReader", "tokens", "LFacetSieve$Tokens;", true)
  | 1 => ("FacetSieve$QuestionReader", "stack", "LFacetSieve$Sets;", true)
  | 2 => ("FacetSieve$QuestionReader", "joins", "[I", true)
  | 3 => ("FacetSieve$QuestionReader", "waiting", "[I", true)
  | 4 => ("FacetSieve$QuestionReader", "height", "I", false)
  | 5 => ("FacetSieve$QuestionReader", "depth", "I", false)
  | 6 => ("FacetSieve$QuestionReader", "factDue", "Z", false)
  | 7 => ("FacetSieve$QuestionReader", "facts", "I", false)
  | _ => ("FacetSieve$QuestionReader", "work", "I", false)
def tyX5 : Nat → FieldType := fun k => match k with
  | 0 => .object "FacetSieve$Tokens"
  | 1 => .object "FacetSieve$Sets"
  | 2 => .array .int
  | 3 => .array .int
  | 4 => .int
  | 5 => .int
  | 6 => .boolean
  | 7 => .int
  | _ => .int
theorem nmX5 : ∀ a, a < 9 → ∀ b, b < 9 → a ≠ b → (TX5 a).2.1 ≠ (TX5 b).2.1 := by decide +kernel
theorem tyX5_ok : ∀ k, k < 9 → parseFieldDescriptor (TX5 k).2.2.1 = some (tyX5 k) := by decide +kernel
def RX6 : String := "FacetSieve$SchemeReader"
def TX6 : u_T := fun k => match k with
  | 0 => ("FacetSieve$SchemeReader", "tokens", "LFacetSieve$Tokens;", true)
  | _ => ("FacetSieve$SchemeReader", "draft", "LFacetSieve$Stock;", true)
def tyX6 : Nat → FieldType := fun k => match k with
  | 0 => .object "FacetSieve$Tokens"
  | _ => .object "FacetSieve$Stock"
theorem nmX6 : ∀ a, a < 2 → ∀ b, b < 2 → a ≠ b → (TX6 a).2.1 ≠ (TX6 b).2.1 := by decide +kernel
theorem tyX6_ok : ∀ k, k < 2 → parseFieldDescriptor (TX6 k).2.2.1 = some (tyX6 k) := by decide +kernel
def RX7 : String := "FacetSieve$Sets"
def TX7 : u_T := fun k => match k with
  | 0 => ("FacetSieve$Sets", "rows", "I", true)
  | _ => ("FacetSieve$Sets", "bits", "[I", true)
def tyX7 : Nat → FieldType := fun k => match k with
  | 0 => .int
  | _ => .array .int
theorem nmX7 : ∀ a, a < 2 → ∀ b, b < 2 → a ≠ b → (TX7 a).2.1 ≠ (TX7 b).2.1 := by decide +kernel
theorem tyX7_ok : ∀ k, k < 2 → parseFieldDescriptor (TX7 k).2.2.1 = some (tyX7 k) := by decide +kernel
def RX8 : String := "FacetSieve$Stock"
def TX8 : u_T := fun k => match k with
  | 0 => ("FacetSieve$Stock", "plan", "LFacetSieve$Plan;", true)
  | 1 => ("FacetSieve$Stock", "ranks", "[I", true)
  | 2 => ("FacetSieve$Stock", "tags", "[I", true)
  | _ => ("FacetSieve$Stock", "sets", "LFacetSieve$Sets;", true)
def tyX8 : Nat → FieldType := fun k => match k with
  | 0 => .object "FacetSieve$Plan"
  | 1 => .array .int
  | 2 => .array .int
  | _ => .object "FacetSieve$Sets"
theorem nmX8 : ∀ a, a < 4 → ∀ b, b < 4 → a ≠ b → (TX8 a).2.1 ≠ (TX8 b).2.1 := by decide +kernel
theorem tyX8_ok : ∀ k, k < 4 → parseFieldDescriptor (TX8 k).2.2.1 = some (tyX8 k) := by decide +kernel
def RX9 : String := "FacetSieve$Tape"
def TX9 : u_T := fun k => match k with
  | 0 => ("FacetSieve$Tape", "bytes", "[B", true)
  | _ => ("FacetSieve$Tape", "length", "I", false)
def tyX9 : Nat → FieldType := fun k => match k with
  | 0 => .array .byte
  | _ => .int
theorem nmX9 : ∀ a, a < 2 → ∀ b, b < 2 → a ≠ b → (TX9 a).2.1 ≠ (TX9 b).2.1 := by decide +kernel
theorem tyX9_ok : ∀ k, k < 2 → parseFieldDescriptor (TX9 k).2.2.1 = some (tyX9 k) := by decide +kernel
def RX10 : String := "FacetSieve$Tokens"
def TX10 : u_T := fun k => match k with
  | 0 => ("FacetSieve$Tokens", "tape", "LFacetSieve$Tape;", true)
  | 1 => ("FacetSieve$Tokens", "next", "I", false)
  | 2 => ("FacetSieve$Tokens", "kind", "I", false)
  | 3 => ("FacetSieve$Tokens", "place", "I", false)
  | 4 => ("FacetSieve$Tokens", "number", "I", false)
  | 5 => ("FacetSieve$Tokens", "word", "J", false)
  | 6 => ("FacetSieve$Tokens", "faultKind", "I", false)
  | _ => ("FacetSieve$Tokens", "faultPlace", "I", false)
def tyX10 : Nat → FieldType := fun k => match k with
  | 0 => .object "FacetSieve$Tape"
  | 1 => .int
  | 2 => .int
  | 3 => .int
  | 4 => .int
  | 5 => .long
  | 6 => .int
  | _ => .int
theorem nmX10 : ∀ a, a < 8 → ∀ b, b < 8 → a ≠ b → (TX10 a).2.1 ≠ (TX10 b).2.1 := by decide +kernel
theorem tyX10_ok : ∀ k, k < 8 → parseFieldDescriptor (TX10 k).2.2.1 = some (tyX10 k) := by decide +kernel
def RX11 : String := "FacetSieve"
def TX11 : u_T := fun k => match k with
  | 0 => ("FacetSieve", "now", "LFacetSieve$Everything;", true)
  | 1 => ("FacetSieve", "images", "[LFacetSieve$Everything;", true)
  | 2 => ("FacetSieve", "journal", "LFacetSieve$Journal;", true)
  | 3 => ("FacetSieve", "schemes", "LFacetSieve$SchemeReader;", true)
  | 4 => ("FacetSieve", "questions", "LFacetSieve$QuestionReader;", true)
  | _ => ("FacetSieve", "leftRow", "LFacetSieve$Sets;", true)
def tyX11 : Nat → FieldType := fun k => match k with
  | 0 => .object "FacetSieve$Everything"
  | 1 => .array (.object "FacetSieve$Everything")
  | 2 => .object "FacetSieve$Journal"
  | 3 => .object "FacetSieve$SchemeReader"
  | 4 => .object "FacetSieve$QuestionReader"
  | _ => .object "FacetSieve$Sets"
theorem nmX11 : ∀ a, a < 6 → ∀ b, b < 6 → a ≠ b → (TX11 a).2.1 ≠ (TX11 b).2.1 := by decide +kernel
theorem tyX11_ok : ∀ k, k < 6 → parseFieldDescriptor (TX11 k).2.2.1 = some (tyX11 k) := by decide +kernel
def RX12 : String := "FacetSieveModel"
def TX12 : u_T := fun k => match k with
  | 0 => ("FacetSieveModel", "all", "[I", true)
  | 1 => ("FacetSieveModel", "tape", "[I", true)
  | 2 => ("FacetSieveModel", "isImage", "[Z", true)
  | 3 => ("FacetSieveModel", "taped", "I", false)
  | 4 => ("FacetSieveModel", "faultKind", "I", false)
  | 5 => ("FacetSieveModel", "faultPlace", "I", false)
  | 6 => ("FacetSieveModel", "undos", "I", false)
  | 7 => ("FacetSieveModel", "one", "[I", true)
  | 8 => ("FacetSieveModel", "two", "[I", true)
  | 9 => ("FacetSieveModel", "rest", "[I", true)
  | 10 => ("FacetSieveModel", "asking", "[I", true)
  | 11 => ("FacetSieveModel", "picked", "[I", true)
  | 12 => ("FacetSieveModel", "inSets", "[I", true)
  | 13 => ("FacetSieveModel", "size0", "I", false)
  | 14 => ("FacetSieveModel", "next", "I", false)
  | 15 => ("FacetSieveModel", "token", "I", false)
  | 16 => ("FacetSieveModel", "place", "I", false)
  | 17 => ("FacetSieveModel", "value0", "J", false)
  | 18 => ("FacetSieveModel", "ors", "[I", true)
  | 19 => ("FacetSieveModel", "parts", "[I", true)
  | 20 => ("FacetSieveModel", "goes", "[I", true)
  | 21 => ("FacetSieveModel", "hasOr", "[Z", true)
  | 22 => ("FacetSieveModel", "hasPart", "[Z", true)
  | 23 => ("FacetSieveModel", "level", "I", false)
  | 24 => ("FacetSieveModel", "facts", "I", false)
  | _ => ("FacetSieveModel", "worked", "I", false)
def tyX12 : Nat → FieldType := fun k => match k with
  | 0 => .array .int
  | 1 => .array .int
  | 2 => .array .boolean
  | 3 => .int
  | 4 => .int
  | 5 => .int
  | 6 => .int
  | 7 => .array .int
  | 8 => .array .int
  | 9 => .array .int
  | 10 => .array .int
  | 11 => .array .int
  | 12 => .array .int
  | 13 => .int
  | 14 => .int
  | 15 => .int
  | 16 => .int
  | 17 => .long
  | 18 => .array .int
  | 19 => .array .int
  | 20 => .array .int
  | 21 => .array .boolean
  | 22 => .array .boolean
  | 23 => .int
  | 24 => .int
  | _ => .int
theorem nmX12 : ∀ a, a < 26 → ∀ b, b < 26 → a ≠ b → (TX12 a).2.1 ≠ (TX12 b).2.1 := by decide +kernel
theorem tyX12_ok : ∀ k, k < 26 → parseFieldDescriptor (TX12 k).2.2.1 = some (tyX12 k) := by decide +kernel
/-- the classes whose objects the heap holds -/
abbrev zz_cls : List vw_C := [(RX1, TX1, 2), (RX2, TX2, 10), (RX3, TX3, 6), (RX4, TX4, 10), (RX5, TX5, 9), (RX6, TX6, 2), (RX7, TX7, 2), (RX8, TX8, 4), (RX9, TX9, 2), (RX10, TX10, 8), (RX11, TX11, 6), (RX12, TX12, 26)]
def zz_cnl : List String := ["FacetSieve$Choice", "FacetSieve$Everything", "FacetSieve$Journal", "FacetSieve$Plan", "FacetSieve$QuestionReader", "FacetSieve$SchemeReader", "FacetSieve$Sets", "FacetSieve$Stock", "FacetSieve$Tape", "FacetSieve$Tokens", "FacetSieve", "FacetSieveModel", "FacetSieve$Boxes", "FacetSieveLaw", "java/lang/Integer", "java/util/Arrays"]
def zz_cn (o : Nat) : String := zz_cnl.getD o ""
def zz_ty (ci k : Nat) : FieldType := match ci with
  | 0 => tyX1 k
  | 1 => tyX2 k
  | 2 => tyX3 k
  | 3 => tyX4 k
  | 4 => tyX5 k
  | 5 => tyX6 k
  | 6 => tyX7 k
  | 7 => tyX8 k
  | 8 => tyX9 k
  | 9 => tyX10 k
  | 10 => tyX11 k
  | 11 => tyX12 k
  | _ => .int
abbrev zz_M : Type := MethodName × ByteArray × Nat × Option FieldType × Nat × (Nat × Nat) × Nat × Bool × Bool × (Nat × Nat × Nat × Nat)
def zz_T0 : List zz_M := [(⟨"FacetSieveLaw", "law", "([I)Z"⟩, code, 4, (some .boolean), 13, (10, 223), 1, true, false, (0, 0, 0, 0)),
  (⟨"FacetSieve", "<init>", "()V"⟩, prog_1_method_1_code, 1, none, 10, (4, 82), 0, false, true, (115, 114, 0, 94)),
  (⟨"FacetSieve$Everything", "<init>", "()V"⟩, prog_4_method_1_code, 1, none, 1, (3, 62), 0, false, true, (123, 122, 0, 95)),
  (⟨"FacetSieve$Tape", "<init>", "()V"⟩, prog_11_method_1_code, 1, none, 8, (1, 21), 0, false, true, (129, 128, 0, 96)),
  (⟨"FacetSieve$Stock", "<init>", "()V"⟩, prog_10_method_1_code, 1, none, 7, (2, 42), 0, false, true, (145, 144, 0, 97)),
  (⟨"FacetSieve$Plan", "<init>", "()V"⟩, prog_6_method_1_code, 1, none, 3, (1, 21), 0, false, true, (151, 150, 0, 98)),
  (⟨"FacetSieve$Sets", "<init>", "(I)V"⟩, prog_9_method_1_code, 2, none, 6, (1, 21), 1, false, true, (205, 204, 0, 99)),
  (⟨"java/util/Arrays", "fill", "([II)V"⟩, prog_18_method_103_code, 4, none, 15, (0, 0), 2, true, false, (219, 218, 0, 101)),
  (⟨"FacetSieve$Choice", "<init>", "()V"⟩, prog_3_method_1_code, 1, none, 0, (1, 21), 0, false, true, (248, 247, 0, 102)),
  (⟨"FacetSieve$Journal", "<init>", "()V"⟩, prog_5_method_1_code, 1, none, 2, (1, 21), 0, false, true, (311, 310, 0, 103)),
  (⟨"FacetSieve$Tokens", "<init>", "()V"⟩, prog_12_method_1_code, 1, none, 9, (2, 41), 0, false, true, (343, 342, 0, 105)),
  (⟨"FacetSieve$SchemeReader", "<init>", "()V"⟩, prog_8_method_1_code, 1, none, 5, (3, 62), 0, false, true, (337, 336, 0, 104)),
  (⟨"FacetSieve$QuestionReader", "<init>", "()V"⟩, prog_7_method_1_code, 1, none, 4, (3, 61), 0, false, true, (394, 393, 0, 106)),
  (⟨"FacetSieve", "feed", "(IIIII)I"⟩, prog_1_method_2_code, 7, (some .int), 10, (2, 43), 5, false, false, (455, 453, 454, 94)),
  (⟨"FacetSieve$Tape", "hasRoom", "(I)Z"⟩, prog_11_method_2_code, 2, (some .boolean), 8, (0, 0), 1, false, false, (459, 457, 458, 96)),
  (⟨"FacetSieve$Tape", "takeNumber", "(I)V"⟩, prog_11_method_3_code, 3, none, 8, (1, 21), 1, false, false, (463, 461, 462, 96)),
  (⟨"FacetSieve", "end", "(I)I"⟩, prog_1_method_3_code, 2, (some .int), 10, (0, 0), 1, false, false, (468, 466, 467, 94)),
  (⟨"FacetSieve", "scheme", "()I"⟩, prog_1_method_4_code, 2, (some .int), 10, (7, 164), 0, false, false, (472, 470, 471, 94)),
  (⟨"FacetSieve$SchemeReader", "readScheme", "(LFacetSieve$Tape;)Z"⟩, prog_8_method_2_code, 4, (some .boolean), 5, (6, 141), 1, false, false, (476, 474, 475, 104)),
  (⟨"FacetSieve$Stock", "clear", "()V"⟩, prog_10_method_2_code, 1, none, 7, (2, 43), 0, false, false, (480, 478, 479, 97)),
  (⟨"FacetSieve$Plan", "clear", "()V"⟩, prog_6_method_2_code, 1, none, 3, (0, 0), 0, false, false, (484, 482, 483, 98)),
  (⟨"FacetSieve$Sets", "clear", "()V"⟩, prog_9_method_7_code, 1, none, 6, (1, 23), 0, false, false, (488, 486, 487, 99)),
  (⟨"FacetSieve$Tokens", "take", "(LFacetSieve$Tape;)V"⟩, prog_12_method_2_code, 2, none, 9, (3, 63), 1, false, false, (493, 491, 492, 105)),
  (⟨"FacetSieve$Tokens", "step", "()V"⟩, prog_12_method_4_code, 2, none, 9, (2, 42), 0, false, false, (504, 502, 503, 105)),
  (⟨"FacetSieve$Tape", "byteAt", "(I)I"⟩, prog_11_method_4_code, 2, (some .int), 8, (0, 0), 1, false, false, (508, 506, 507, 96)),
  (⟨"FacetSieve$Tokens", "isBlank", "(I)Z"⟩, prog_12_method_9_code, 1, (some .boolean), 9, (0, 0), 1, true, false, (511, 510, 0, 105)),
  (⟨"FacetSieve$Tokens", "isLetter", "(I)Z"⟩, prog_12_method_10_code, 1, (some .boolean), 9, (0, 0), 1, true, false, (514, 513, 0, 105)),
  (⟨"FacetSieve$Tokens", "readWord", "()V"⟩, prog_12_method_5_code, 2, none, 9, (1, 21), 0, false, false, (518, 517, 0, 105)),
  (⟨"FacetSieve$Tokens", "wordKind", "()I"⟩, prog_12_method_7_code, 1, (some .int), 9, (0, 0), 0, false, false, (522, 521, 1, 105)),
  (⟨"FacetSieve$Tokens", "isDigit", "(I)Z"⟩, prog_12_method_11_code, 1, (some .boolean), 9, (0, 0), 1, true, false, (535, 534, 0, 105)),
  (⟨"FacetSieve$Tokens", "readNumber", "()V"⟩, prog_12_method_6_code, 2, none, 9, (1, 21), 0, false, false, (539, 538, 2, 105)),
  (⟨"FacetSieve$Tokens", "signKind", "(I)I"⟩, prog_12_method_8_code, 1, (some .int), 9, (0, 0), 1, true, false, (542, 541, 0, 105))]
def zz_T1 : List zz_M := [(⟨"FacetSieve$SchemeReader", "readLine", "()Z"⟩, prog_8_method_3_code, 2, (some .boolean), 5, (5, 120), 0, false, false, (546, 545, 3, 104)),
  (⟨"FacetSieve$SchemeReader", "readHead", "()Z"⟩, prog_8_method_4_code, 3, (some .boolean), 5, (3, 66), 0, false, false, (550, 549, 4, 104)),
  (⟨"FacetSieve$Plan", "hasRoomForHead", "()Z"⟩, prog_6_method_6_code, 1, (some .boolean), 3, (0, 0), 0, false, false, (554, 552, 553, 98)),
  (⟨"FacetSieve$Tokens", "fail", "(I)Z"⟩, prog_12_method_3_code, 2, (some .boolean), 9, (0, 0), 1, false, false, (558, 556, 557, 105)),
  (⟨"FacetSieve$SchemeReader", "isNewName", "()Z"⟩, prog_8_method_6_code, 1, (some .boolean), 5, (2, 46), 0, false, false, (563, 562, 5, 104)),
  (⟨"FacetSieve$Plan", "isTaken", "(J)Z"⟩, prog_6_method_11_code, 4, (some .boolean), 3, (1, 23), 1, false, false, (567, 565, 566, 98)),
  (⟨"FacetSieve$Plan", "valueNamed", "(J)I"⟩, prog_6_method_10_code, 4, (some .int), 3, (0, 0), 1, false, false, (571, 569, 570, 98)),
  (⟨"FacetSieve$Plan", "addHead", "(JZ)V"⟩, prog_6_method_8_code, 4, none, 3, (1, 20), 2, false, false, (575, 573, 574, 98)),
  (⟨"FacetSieve$SchemeReader", "readValue", "()Z"⟩, prog_8_method_5_code, 4, (some .boolean), 5, (3, 66), 0, false, false, (580, 579, 6, 104)),
  (⟨"FacetSieve$Plan", "hasRoomForValue", "()Z"⟩, prog_6_method_7_code, 1, (some .boolean), 3, (0, 0), 0, false, false, (584, 582, 583, 98)),
  (⟨"FacetSieve$SchemeReader", "isValueOfLatestHead", "()Z"⟩, prog_8_method_7_code, 2, (some .boolean), 5, (1, 23), 0, false, false, (588, 587, 7, 104)),
  (⟨"FacetSieve$Plan", "addValue", "(JI)V"⟩, prog_6_method_9_code, 4, none, 3, (1, 21), 2, false, false, (593, 591, 592, 98)),
  (⟨"FacetSieve$Plan", "isValue", "(I)Z"⟩, prog_6_method_5_code, 2, (some .boolean), 3, (0, 0), 1, false, false, (598, 596, 597, 98)),
  (⟨"FacetSieve$SchemeReader", "readRecord", "()Z"⟩, prog_8_method_8_code, 3, (some .boolean), 5, (4, 98), 0, false, false, (602, 601, 8, 104)),
  (⟨"FacetSieve$SchemeReader", "isNumberUpTo", "(I)Z"⟩, prog_8_method_9_code, 2, (some .boolean), 5, (1, 21), 1, false, false, (606, 605, 9, 104)),
  (⟨"FacetSieve$Stock", "isThere", "(I)Z"⟩, prog_10_method_4_code, 2, (some .boolean), 7, (1, 20), 1, false, false, (610, 608, 609, 97)),
  (⟨"FacetSieve", "isRecord", "(I)Z"⟩, prog_1_method_32_code, 1, (some .boolean), 10, (0, 0), 1, true, false, (613, 612, 0, 94)),
  (⟨"FacetSieve$SchemeReader", "readTags", "(II)Z"⟩, prog_8_method_10_code, 6, (some .boolean), 5, (3, 73), 2, false, false, (617, 616, 10, 104)),
  (⟨"FacetSieve", "hasBit", "(II)Z"⟩, prog_1_method_34_code, 2, (some .boolean), 10, (0, 0), 2, true, false, (620, 619, 0, 94)),
  (⟨"FacetSieve$Plan", "holderAgainst", "(II)I"⟩, prog_6_method_12_code, 5, (some .int), 3, (1, 21), 2, false, false, (624, 622, 623, 98)),
  (⟨"FacetSieve$Stock", "put", "(III)V"⟩, prog_10_method_5_code, 6, none, 7, (2, 48), 3, false, false, (629, 627, 628, 97)),
  (⟨"FacetSieve$Sets", "setMember", "(IIZ)V"⟩, prog_9_method_6_code, 7, none, 6, (1, 22), 3, false, false, (633, 631, 632, 99)),
  (⟨"FacetSieve$Sets", "isInside", "(II)Z"⟩, prog_9_method_2_code, 3, (some .boolean), 6, (0, 0), 2, false, false, (637, 636, 11, 99)),
  (⟨"FacetSieve$Plan", "lineageOf", "(I)I"⟩, prog_6_method_13_code, 4, (some .int), 3, (1, 21), 1, false, false, (641, 639, 640, 98)),
  (⟨"FacetSieve$Everything", "noteFault", "(LFacetSieve$Tokens;)V"⟩, prog_4_method_3_code, 2, none, 1, (0, 0), 1, false, false, (646, 644, 645, 95)),
  (⟨"FacetSieve$Stock", "copyFrom", "(LFacetSieve$Stock;)V"⟩, prog_10_method_3_code, 2, none, 7, (2, 60), 1, false, false, (650, 648, 649, 97)),
  (⟨"FacetSieve$Plan", "copyFrom", "(LFacetSieve$Plan;)V"⟩, prog_6_method_3_code, 2, none, 3, (1, 39), 1, false, false, (654, 652, 653, 98)),
  (⟨"FacetSieve$Sets", "copyFrom", "(LFacetSieve$Sets;)V"⟩, prog_9_method_8_code, 2, none, 6, (1, 39), 1, false, false, (660, 658, 659, 99)),
  (⟨"FacetSieve$Choice", "clear", "()V"⟩, prog_3_method_2_code, 1, none, 0, (1, 23), 0, false, false, (668, 666, 667, 102)),
  (⟨"FacetSieve$Journal", "clear", "()V"⟩, prog_5_method_2_code, 1, none, 2, (0, 0), 0, false, false, (673, 671, 672, 103)),
  (⟨"FacetSieve$Sets", "amount", "(I)I"⟩, prog_9_method_10_code, 4, (some .int), 6, (2, 44), 1, false, false, (677, 675, 676, 99)),
  (⟨"FacetSieve$Sets", "bitsOf", "(II)I"⟩, prog_9_method_3_code, 3, (some .int), 6, (1, 22), 2, false, false, (681, 679, 680, 99))]
def zz_T2 : List zz_M := [(⟨"java/lang/Integer", "bitCount", "(I)I"⟩, prog_15_method_49_code, 1, (some .int), 14, (0, 0), 1, true, false, (684, 683, 0, 109)),
  (⟨"FacetSieve", "ask", "()I"⟩, prog_1_method_5_code, 2, (some .int), 10, (7, 153), 0, false, false, (691, 689, 690, 94)),
  (⟨"FacetSieve$QuestionReader", "readWhole", "(LFacetSieve$Tape;LFacetSieve$Stock;)Z"⟩, prog_7_method_2_code, 5, (some .boolean), 4, (6, 129), 2, false, false, (695, 693, 694, 106)),
  (⟨"FacetSieve$QuestionReader", "startDepth", "(I)V"⟩, prog_7_method_3_code, 2, none, 4, (0, 0), 1, false, false, (699, 698, 12, 106)),
  (⟨"FacetSieve$QuestionReader", "readFact", "(LFacetSieve$Stock;)Z"⟩, prog_7_method_4_code, 2, (some .boolean), 4, (4, 91), 1, false, false, (704, 703, 13, 106)),
  (⟨"FacetSieve$QuestionReader", "readSet", "(LFacetSieve$Sets;I)Z"⟩, prog_7_method_5_code, 3, (some .boolean), 4, (3, 69), 2, false, false, (709, 708, 14, 106)),
  (⟨"FacetSieve$Sets", "copyRow", "(ILFacetSieve$Sets;I)V"⟩, prog_9_method_9_code, 5, none, 6, (2, 45), 3, false, false, (714, 712, 713, 99)),
  (⟨"FacetSieve$Sets", "setBits", "(III)V"⟩, prog_9_method_4_code, 4, none, 6, (1, 22), 3, false, false, (718, 716, 717, 99)),
  (⟨"FacetSieve$QuestionReader", "joinFact", "()V"⟩, prog_7_method_7_code, 1, none, 4, (4, 89), 0, false, false, (747, 746, 18, 106)),
  (⟨"FacetSieve$QuestionReader", "joinTopTwo", "(I)V"⟩, prog_7_method_9_code, 5, none, 4, (3, 65), 1, false, false, (730, 729, 17, 106)),
  (⟨"FacetSieve$Boxes", "work", "(III)I"⟩, prog_2_method_6_code, 4, (some .int), 12, (2, 42), 3, true, false, (734, 733, 0, 110)),
  (⟨"FacetSieve$Boxes", "cost", "(I)I"⟩, prog_2_method_4_code, 2, (some .int), 12, (1, 21), 1, true, false, (737, 736, 0, 110)),
  (⟨"FacetSieve$Boxes", "joined", "(III)I"⟩, prog_2_method_5_code, 3, (some .int), 12, (0, 0), 3, true, false, (742, 741, 0, 110)),
  (⟨"FacetSieve$QuestionReader", "readJoin", "()Z"⟩, prog_7_method_6_code, 1, (some .boolean), 4, (5, 109), 0, false, false, (722, 721, 15, 106)),
  (⟨"FacetSieve$QuestionReader", "endPart", "()V"⟩, prog_7_method_8_code, 1, none, 4, (4, 89), 0, false, false, (726, 725, 16, 106)),
  (⟨"FacetSieve", "asked", "(I)I"⟩, prog_1_method_6_code, 2, (some .int), 10, (3, 70), 1, false, false, (753, 751, 752, 94)),
  (⟨"FacetSieve$Sets", "cost", "(I)I"⟩, prog_9_method_11_code, 4, (some .int), 6, (2, 44), 1, false, false, (757, 755, 756, 99)),
  (⟨"FacetSieve$Sets", "recordAt", "(II)I"⟩, prog_9_method_13_code, 7, (some .int), 6, (2, 44), 2, false, false, (762, 760, 761, 99)),
  (⟨"FacetSieve", "bitAt", "(II)I"⟩, prog_1_method_35_code, 4, (some .int), 10, (1, 21), 2, true, false, (765, 764, 0, 94)),
  (⟨"FacetSieve", "fault", "(I)I"⟩, prog_1_method_7_code, 2, (some .int), 10, (0, 0), 1, false, false, (771, 769, 770, 94)),
  (⟨"FacetSieve", "add", "(II)I"⟩, prog_1_method_8_code, 3, (some .int), 10, (4, 97), 2, false, false, (775, 773, 774, 94)),
  (⟨"FacetSieve", "isRank", "(I)Z"⟩, prog_1_method_33_code, 1, (some .boolean), 10, (0, 0), 1, true, false, (779, 778, 0, 94)),
  (⟨"FacetSieve", "refuse", "(I)I"⟩, prog_1_method_36_code, 2, (some .int), 10, (1, 22), 1, false, false, (783, 782, 19, 94)),
  (⟨"FacetSieve$Everything", "noteRefusal", "(II)I"⟩, prog_4_method_4_code, 3, (some .int), 1, (0, 0), 2, false, false, (787, 785, 786, 95)),
  (⟨"FacetSieve", "changeRecord", "(III)I"⟩, prog_1_method_38_code, 5, (some .int), 10, (3, 73), 3, false, false, (792, 791, 20, 94)),
  (⟨"FacetSieve$Journal", "note", "(IIII)V"⟩, prog_5_method_3_code, 5, none, 2, (1, 21), 4, false, false, (796, 794, 795, 103)),
  (⟨"FacetSieve", "accept", "()I"⟩, prog_1_method_37_code, 1, (some .int), 10, (1, 22), 0, false, false, (802, 801, 21, 94)),
  (⟨"FacetSieve", "drop", "(I)I"⟩, prog_1_method_9_code, 2, (some .int), 10, (4, 97), 1, false, false, (806, 804, 805, 94)),
  (⟨"FacetSieve", "tag", "(II)I"⟩, prog_1_method_10_code, 6, (some .int), 10, (4, 97), 2, false, false, (810, 808, 809, 94)),
  (⟨"FacetSieve", "untag", "(II)I"⟩, prog_1_method_11_code, 4, (some .int), 10, (4, 97), 2, false, false, (816, 814, 815, 94)),
  (⟨"FacetSieve", "rank", "(II)I"⟩, prog_1_method_12_code, 4, (some .int), 10, (4, 97), 2, false, false, (820, 818, 819, 94)),
  (⟨"FacetSieve", "choose", "(II)I"⟩, prog_1_method_13_code, 4, (some .int), 10, (2, 45), 2, false, false, (824, 822, 823, 94))]
def zz_T3 : List zz_M := [(⟨"FacetSieve", "go", "(IZ)I"⟩, prog_1_method_14_code, 5, (some .int), 10, (2, 45), 2, false, false, (828, 826, 827, 94)),
  (⟨"FacetSieve$Plan", "isHead", "(I)Z"⟩, prog_6_method_4_code, 2, (some .boolean), 3, (0, 0), 1, false, false, (832, 830, 831, 98)),
  (⟨"FacetSieve", "why", "(II)I"⟩, prog_1_method_15_code, 3, (some .int), 10, (0, 0), 2, false, false, (836, 834, 835, 94)),
  (⟨"FacetSieve", "undo", "()I"⟩, prog_1_method_16_code, 1, (some .int), 10, (4, 95), 0, false, false, (840, 838, 839, 94)),
  (⟨"FacetSieve$Journal", "takeBack", "(LFacetSieve$Everything;)V"⟩, prog_5_method_4_code, 3, none, 2, (3, 73), 1, false, false, (844, 842, 843, 103)),
  (⟨"FacetSieve", "count", "(I)I"⟩, prog_1_method_17_code, 3, (some .int), 10, (6, 148), 1, false, false, (850, 848, 849, 94)),
  (⟨"FacetSieve$Everything", "amountLeft", "(III)I"⟩, prog_4_method_6_code, 6, (some .int), 1, (4, 101), 3, false, false, (854, 852, 853, 95)),
  (⟨"FacetSieve$Everything", "leftIn", "(III)I"⟩, prog_4_method_5_code, 6, (some .int), 1, (3, 76), 3, false, false, (858, 856, 857, 95)),
  (⟨"FacetSieve$Choice", "passedBy", "(LFacetSieve$Stock;IIZI)I"⟩, prog_3_method_5_code, 13, (some .int), 0, (2, 44), 5, false, false, (863, 861, 862, 102)),
  (⟨"FacetSieve$Stock", "costOfAll", "()I"⟩, prog_10_method_6_code, 3, (some .int), 7, (3, 67), 0, false, false, (869, 867, 868, 97)),
  (⟨"FacetSieve$Stock", "boxesOfAll", "(I)I"⟩, prog_10_method_7_code, 4, (some .int), 7, (4, 88), 1, false, false, (874, 872, 873, 97)),
  (⟨"FacetSieve$Sets", "boxes", "(II)I"⟩, prog_9_method_12_code, 6, (some .int), 6, (3, 63), 2, false, false, (878, 876, 877, 99)),
  (⟨"FacetSieve$Boxes", "kind", "(I)I"⟩, prog_2_method_3_code, 2, (some .int), 12, (2, 42), 1, true, false, (881, 880, 0, 110)),
  (⟨"FacetSieve$Boxes", "runs", "(I)I"⟩, prog_2_method_2_code, 1, (some .int), 12, (1, 20), 1, true, false, (884, 883, 0, 110)),
  (⟨"FacetSieve$Stock", "allTags", "()I"⟩, prog_10_method_8_code, 3, (some .int), 7, (1, 20), 0, false, false, (888, 886, 887, 97)),
  (⟨"FacetSieve", "sureValues", "()I"⟩, prog_1_method_41_code, 4, (some .int), 10, (5, 122), 0, false, false, (893, 892, 22, 94)),
  (⟨"FacetSieve", "lookWhatIsLeft", "()V"⟩, prog_1_method_39_code, 2, none, 10, (4, 101), 0, false, false, (897, 896, 23, 94)),
  (⟨"FacetSieve", "amountLeftWith", "(I)I"⟩, prog_1_method_44_code, 4, (some .int), 10, (2, 44), 1, false, false, (903, 902, 24, 94)),
  (⟨"FacetSieve", "idleValues", "()I"⟩, prog_1_method_42_code, 3, (some .int), 10, (5, 126), 0, false, false, (908, 907, 25, 94)),
  (⟨"FacetSieve", "partingValue", "()I"⟩, prog_1_method_43_code, 7, (some .int), 10, (5, 122), 0, false, false, (912, 911, 26, 94)),
  (⟨"FacetSieve", "head", "(II)I"⟩, prog_1_method_18_code, 4, (some .int), 10, (2, 45), 2, false, false, (917, 915, 916, 94)),
  (⟨"FacetSieve$Choice", "wantedOf", "(LFacetSieve$Plan;I)I"⟩, prog_3_method_4_code, 5, (some .int), 0, (0, 0), 2, false, false, (921, 919, 920, 102)),
  (⟨"FacetSieve$Tokens", "letterAsked", "(JI)I"⟩, prog_12_method_13_code, 3, (some .int), 9, (1, 23), 2, true, false, (924, 923, 0, 105)),
  (⟨"FacetSieve$Tokens", "letterOf", "(JI)I"⟩, prog_12_method_12_code, 4, (some .int), 9, (0, 0), 2, true, false, (927, 926, 0, 105)),
  (⟨"FacetSieve", "value", "(II)I"⟩, prog_1_method_19_code, 5, (some .int), 10, (6, 149), 2, false, false, (931, 929, 930, 94)),
  (⟨"FacetSieve$Stock", "tagsOf", "(I)I"⟩, prog_10_method_9_code, 4, (some .int), 7, (1, 21), 1, false, false, (935, 933, 934, 97)),
  (⟨"FacetSieve", "amountBehind", "(I)I"⟩, prog_1_method_40_code, 4, (some .int), 10, (5, 126), 1, false, false, (940, 939, 27, 94)),
  (⟨"FacetSieve", "box", "(III)I"⟩, prog_1_method_20_code, 5, (some .int), 10, (3, 63), 3, false, false, (944, 942, 943, 94)),
  (⟨"FacetSieve", "record", "(II)I"⟩, prog_1_method_21_code, 4, (some .int), 10, (4, 101), 2, false, false, (951, 949, 950, 94)),
  (⟨"FacetSieve", "has", "(II)Z"⟩, prog_1_method_22_code, 3, (some .boolean), 10, (3, 66), 2, false, false, (956, 954, 955, 94)),
  (⟨"FacetSieve$Sets", "holds", "(II)Z"⟩, prog_9_method_5_code, 3, (some .boolean), 6, (2, 44), 2, false, false, (960, 958, 959, 99)),
  (⟨"FacetSieve", "left", "(IZ)I"⟩, prog_1_method_23_code, 3, (some .int), 10, (5, 122), 2, false, false, (965, 963, 964, 94))]
def zz_T4 : List zz_M := [(⟨"FacetSieve", "shownAt", "(I)I"⟩, prog_1_method_45_code, 4, (some .int), 10, (4, 90), 1, false, false, (969, 968, 28, 94)),
  (⟨"FacetSieve", "leftOfRankFrom", "(I)I"⟩, prog_1_method_46_code, 4, (some .int), 10, (3, 66), 1, false, false, (973, 972, 29, 94)),
  (⟨"FacetSieve", "leftOfRank", "(II)I"⟩, prog_1_method_47_code, 5, (some .int), 10, (3, 66), 2, false, false, (977, 976, 30, 94)),
  (⟨"FacetSieve", "told", "(IZ)I"⟩, prog_1_method_24_code, 3, (some .int), 10, (6, 148), 2, false, false, (981, 979, 980, 94)),
  (⟨"FacetSieve", "both", "(III)I"⟩, prog_1_method_25_code, 5, (some .int), 10, (4, 90), 3, false, false, (985, 983, 984, 94)),
  (⟨"FacetSieve$Sets", "amountJoined", "(III)I"⟩, prog_9_method_14_code, 6, (some .int), 6, (2, 44), 3, false, false, (989, 987, 988, 99)),
  (⟨"FacetSieve$Sets", "workOfJoin", "(III)I"⟩, prog_9_method_15_code, 6, (some .int), 6, (3, 65), 3, false, false, (994, 992, 993, 99)),
  (⟨"FacetSieve", "alike", "(I)I"⟩, prog_1_method_26_code, 2, (some .int), 10, (4, 96), 1, false, false, (999, 997, 998, 94)),
  (⟨"FacetSieve$Stock", "mostAlike", "(I)I"⟩, prog_10_method_12_code, 8, (some .int), 7, (3, 69), 1, false, false, (1003, 1001, 1002, 97)),
  (⟨"FacetSieve", "named", "(II)I"⟩, prog_1_method_27_code, 5, (some .int), 10, (5, 116), 2, false, false, (1009, 1007, 1008, 94)),
  (⟨"FacetSieve$Stock", "namingValues", "(I)I"⟩, prog_10_method_13_code, 4, (some .int), 7, (4, 93), 1, false, false, (1013, 1011, 1012, 97)),
  (⟨"FacetSieve$Stock", "namingOne", "(I)I"⟩, prog_10_method_14_code, 3, (some .int), 7, (3, 69), 1, false, false, (1018, 1017, 31, 97)),
  (⟨"FacetSieve$Stock", "isAlone", "(III)Z"⟩, prog_10_method_17_code, 6, (some .boolean), 7, (2, 44), 3, false, false, (1022, 1021, 32, 97)),
  (⟨"FacetSieve$Stock", "namingTwo", "(I)I"⟩, prog_10_method_15_code, 4, (some .int), 7, (3, 69), 1, false, false, (1027, 1026, 33, 97)),
  (⟨"FacetSieve$Stock", "namingThree", "(I)I"⟩, prog_10_method_16_code, 5, (some .int), 7, (3, 69), 1, false, false, (1031, 1030, 34, 97)),
  (⟨"FacetSieve", "likes", "(I)I"⟩, prog_1_method_28_code, 2, (some .int), 10, (2, 41), 1, false, false, (1035, 1033, 1034, 94)),
  (⟨"FacetSieve$Stock", "amountWithTagsOf", "(I)I"⟩, prog_10_method_11_code, 5, (some .int), 7, (0, 0), 1, false, false, (1039, 1037, 1038, 97)),
  (⟨"FacetSieve", "spread", "(I)I"⟩, prog_1_method_29_code, 4, (some .int), 10, (5, 122), 1, false, false, (1043, 1041, 1042, 94)),
  (⟨"FacetSieve$Stock", "setsAround", "(I)I"⟩, prog_10_method_10_code, 2, (some .int), 7, (2, 44), 1, false, false, (1047, 1045, 1046, 97)),
  (⟨"FacetSieve", "image", "(I)Z"⟩, prog_1_method_30_code, 2, (some .boolean), 10, (4, 102), 1, false, false, (1051, 1049, 1050, 94)),
  (⟨"FacetSieve$Everything", "copyFrom", "(LFacetSieve$Everything;)V"⟩, prog_4_method_2_code, 2, none, 1, (3, 81), 1, false, false, (1055, 1053, 1054, 95)),
  (⟨"FacetSieve$Tape", "copyFrom", "(LFacetSieve$Tape;)V"⟩, prog_11_method_5_code, 2, none, 8, (1, 39), 1, false, false, (497, 495, 496, 96)),
  (⟨"FacetSieve$Choice", "copyFrom", "(LFacetSieve$Choice;)V"⟩, prog_3_method_3_code, 2, none, 0, (1, 39), 1, false, false, (1061, 1059, 1060, 102)),
  (⟨"FacetSieve", "again", "(I)Z"⟩, prog_1_method_31_code, 2, (some .boolean), 10, (4, 102), 1, false, false, (1067, 1065, 1066, 94)),
  (⟨"FacetSieveModel", "<init>", "()V"⟩, prog_14_method_1_code, 1, none, 11, (1, 21), 0, false, true, (1072, 1071, 0, 107)),
  (⟨"FacetSieveModel", "count", "(I)I"⟩, prog_14_method_38_code, 2, (some .int), 11, (9, 202), 1, false, false, (1157, 1155, 1156, 107)),
  (⟨"FacetSieveModel", "isIn", "(III)Z"⟩, prog_14_method_2_code, 3, (some .boolean), 11, (0, 0), 3, true, false, (1160, 1159, 0, 107)),
  (⟨"FacetSieveModel", "summed", "(I)I"⟩, prog_14_method_36_code, 5, (some .int), 11, (4, 87), 1, false, false, (1164, 1163, 35, 107)),
  (⟨"FacetSieveModel", "laysSet", "([II)V"⟩, prog_14_method_17_code, 5, none, 11, (2, 43), 2, false, false, (1168, 1167, 36, 107)),
  (⟨"FacetSieveModel", "isUnder", "(II)Z"⟩, prog_14_method_16_code, 4, (some .boolean), 11, (1, 20), 2, false, false, (1172, 1171, 37, 107)),
  (⟨"FacetSieveModel", "valueAt", "(I)I"⟩, prog_14_method_5_code, 1, (some .int), 11, (0, 0), 1, true, false, (1175, 1174, 0, 107)),
  (⟨"FacetSieveModel", "tagsOf", "(I)I"⟩, prog_14_method_35_code, 4, (some .int), 11, (1, 22), 1, false, false, (1179, 1178, 38, 107))]
def zz_T5 : List zz_M := [(⟨"FacetSieveModel", "bitsOf", "(I)I"⟩, prog_14_method_12_code, 3, (some .int), 11, (0, 0), 1, true, false, (1182, 1181, 0, 107)),
  (⟨"FacetSieveModel", "size", "([I)I"⟩, prog_14_method_21_code, 3, (some .int), 11, (3, 65), 1, true, false, (1185, 1184, 0, 107)),
  (⟨"FacetSieveModel", "sizeOf", "(I)I"⟩, prog_14_method_19_code, 4, (some .int), 11, (2, 42), 1, true, false, (1188, 1187, 0, 107)),
  (⟨"FacetSieveModel", "rowsOf", "(I)I"⟩, prog_14_method_18_code, 1, (some .int), 11, (1, 22), 1, true, false, (1191, 1190, 0, 107)),
  (⟨"FacetSieveModel", "kindOf", "(I)I"⟩, prog_14_method_20_code, 1, (some .int), 11, (3, 65), 1, true, false, (1194, 1193, 0, 107)),
  (⟨"FacetSieveModel", "thereMany", "()I"⟩, prog_14_method_37_code, 3, (some .int), 11, (1, 22), 0, false, false, (1198, 1197, 39, 107)),
  (⟨"FacetSieveModel", "leftMany", "()I"⟩, prog_14_method_27_code, 1, (some .int), 11, (5, 115), 0, false, false, (1202, 1201, 40, 107)),
  (⟨"FacetSieveModel", "laysLeft", "(I)V"⟩, prog_14_method_25_code, 4, none, 11, (4, 92), 1, false, false, (1206, 1205, 41, 107)),
  (⟨"FacetSieveModel", "goesBy", "(I)V"⟩, prog_14_method_26_code, 6, none, 11, (3, 67), 1, false, false, (1210, 1209, 42, 107)),
  (⟨"FacetSieveModel", "headAt", "(I)I"⟩, prog_14_method_4_code, 1, (some .int), 11, (0, 0), 1, true, false, (1213, 1212, 0, 107)),
  (⟨"FacetSieveModel", "ofHead", "(I)I"⟩, prog_14_method_24_code, 2, (some .int), 11, (1, 20), 1, false, false, (1217, 1216, 43, 107)),
  (⟨"FacetSieveModel", "chosen", "(I)I"⟩, prog_14_method_23_code, 2, (some .int), 11, (1, 20), 1, false, false, (1221, 1220, 44, 107)),
  (⟨"FacetSieveModel", "many", "([I)I"⟩, prog_14_method_13_code, 3, (some .int), 11, (1, 22), 1, true, false, (1224, 1223, 0, 107)),
  (⟨"FacetSieveModel", "toldMany", "(Z)I"⟩, prog_14_method_33_code, 4, (some .int), 11, (8, 179), 1, false, false, (1228, 1227, 45, 107)),
  (⟨"FacetSieveModel", "isIdle", "(I)Z"⟩, prog_14_method_32_code, 2, (some .boolean), 11, (7, 158), 1, false, false, (1232, 1231, 46, 107)),
  (⟨"FacetSieveModel", "aheadOf", "(I)I"⟩, prog_14_method_30_code, 4, (some .int), 11, (6, 135), 1, false, false, (1236, 1235, 47, 107)),
  (⟨"FacetSieveModel", "isSure", "(I)Z"⟩, prog_14_method_31_code, 3, (some .boolean), 11, (6, 135), 1, false, false, (1240, 1239, 48, 107)),
  (⟨"FacetSieveModel", "inSet", "(I)I"⟩, prog_14_method_28_code, 3, (some .int), 11, (3, 67), 1, false, false, (1244, 1243, 49, 107)),
  (⟨"FacetSieveModel", "parting", "()I"⟩, prog_14_method_34_code, 7, (some .int), 11, (6, 135), 0, false, false, (1248, 1247, 50, 107)),
  (⟨"FacetSieveModel", "head", "(II)I"⟩, prog_14_method_40_code, 6, (some .int), 11, (2, 44), 2, false, false, (1252, 1250, 1251, 107)),
  (⟨"FacetSieveModel", "isHead", "(I)Z"⟩, prog_14_method_6_code, 2, (some .boolean), 11, (1, 22), 1, false, false, (1256, 1255, 51, 107)),
  (⟨"FacetSieveModel", "letter", "(II)I"⟩, prog_14_method_39_code, 3, (some .int), 11, (1, 22), 2, false, false, (1260, 1259, 52, 107)),
  (⟨"FacetSieveModel", "value", "(II)I"⟩, prog_14_method_41_code, 6, (some .int), 11, (7, 158), 2, false, false, (1264, 1262, 1263, 107)),
  (⟨"FacetSieveModel", "isValue", "(I)Z"⟩, prog_14_method_7_code, 2, (some .boolean), 11, (1, 22), 1, false, false, (1268, 1267, 53, 107)),
  (⟨"FacetSieveModel", "countOf", "(I)I"⟩, prog_14_method_29_code, 2, (some .int), 11, (5, 115), 1, false, false, (1272, 1271, 54, 107)),
  (⟨"FacetSieveModel", "box", "(III)I"⟩, prog_14_method_42_code, 5, (some .int), 11, (4, 85), 3, false, false, (1276, 1274, 1275, 107)),
  (⟨"FacetSieveModel", "record", "(II)I"⟩, prog_14_method_43_code, 5, (some .int), 11, (5, 115), 2, false, false, (1280, 1278, 1279, 107)),
  (⟨"FacetSieveModel", "isThere", "(I)Z"⟩, prog_14_method_11_code, 2, (some .boolean), 11, (2, 42), 1, false, false, (1284, 1283, 55, 107)),
  (⟨"FacetSieveModel", "isRecord", "(I)Z"⟩, prog_14_method_8_code, 1, (some .boolean), 11, (1, 22), 1, true, false, (1287, 1286, 0, 107)),
  (⟨"FacetSieveModel", "isBit", "(II)Z"⟩, prog_14_method_9_code, 3, (some .boolean), 11, (0, 0), 2, false, false, (1291, 1290, 56, 107)),
  (⟨"FacetSieveModel", "isInSet", "([II)Z"⟩, prog_14_method_14_code, 2, (some .boolean), 11, (0, 0), 2, true, false, (1294, 1293, 0, 107)),
  (⟨"FacetSieveModel", "has", "(II)Z"⟩, prog_14_method_44_code, 3, (some .boolean), 11, (3, 67), 2, false, false, (1298, 1296, 1297, 107))]
def zz_T6 : List zz_M := [(⟨"FacetSieveModel", "left", "(IZ)I"⟩, prog_14_method_45_code, 7, (some .int), 11, (5, 115), 2, false, false, (1302, 1300, 1301, 107)),
  (⟨"FacetSieveModel", "at", "([II)I"⟩, prog_14_method_15_code, 5, (some .int), 11, (1, 21), 2, false, false, (1306, 1305, 57, 107)),
  (⟨"FacetSieveModel", "told", "(IZ)I"⟩, prog_14_method_46_code, 5, (some .int), 11, (8, 179), 2, false, false, (1310, 1308, 1309, 107)),
  (⟨"FacetSieveModel", "both", "(III)I"⟩, prog_14_method_48_code, 5, (some .int), 11, (4, 90), 3, false, false, (1314, 1312, 1313, 107)),
  (⟨"FacetSieveModel", "inBoth", "()I"⟩, prog_14_method_47_code, 3, (some .int), 11, (1, 22), 0, false, false, (1318, 1317, 58, 107)),
  (⟨"FacetSieveModel", "work", "([I[II)I"⟩, prog_14_method_22_code, 6, (some .int), 11, (3, 65), 3, true, false, (1321, 1320, 0, 107)),
  (⟨"FacetSieveModel", "alike", "(I)I"⟩, prog_14_method_49_code, 8, (some .int), 11, (3, 67), 1, false, false, (1325, 1323, 1324, 107)),
  (⟨"FacetSieveModel", "named", "(II)I"⟩, prog_14_method_52_code, 5, (some .int), 11, (4, 91), 2, false, false, (1329, 1327, 1328, 107)),
  (⟨"FacetSieveModel", "doName", "(II)Z"⟩, prog_14_method_50_code, 5, (some .boolean), 11, (3, 67), 2, false, false, (1333, 1332, 59, 107)),
  (⟨"FacetSieveModel", "nextPick", "(I)Z"⟩, prog_14_method_51_code, 4, (some .boolean), 11, (0, 0), 1, false, false, (1337, 1336, 60, 107)),
  (⟨"FacetSieveModel", "likes", "(I)I"⟩, prog_14_method_53_code, 4, (some .int), 11, (3, 63), 1, false, false, (1341, 1339, 1340, 107)),
  (⟨"FacetSieveModel", "spread", "(I)I"⟩, prog_14_method_54_code, 4, (some .int), 11, (5, 115), 1, false, false, (1345, 1343, 1344, 107)),
  (⟨"FacetSieveModel", "add", "(II)I"⟩, prog_14_method_57_code, 4, (some .int), 11, (3, 66), 2, false, false, (1349, 1347, 1348, 107)),
  (⟨"FacetSieveModel", "refused", "(II)I"⟩, prog_14_method_56_code, 3, (some .int), 11, (2, 44), 2, false, false, (1353, 1352, 61, 107)),
  (⟨"FacetSieveModel", "keeps", "()V"⟩, prog_14_method_55_code, 1, none, 11, (1, 24), 0, false, false, (1357, 1356, 62, 107)),
  (⟨"FacetSieveModel", "copies", "(III)V"⟩, prog_14_method_3_code, 5, none, 11, (0, 0), 3, false, false, (1361, 1360, 63, 107)),
  (⟨"FacetSieveModel", "turns", "(II)V"⟩, prog_14_method_10_code, 3, none, 11, (0, 0), 2, false, false, (1365, 1364, 64, 107)),
  (⟨"FacetSieveModel", "drop", "(I)I"⟩, prog_14_method_58_code, 4, (some .int), 11, (3, 66), 1, false, false, (1369, 1367, 1368, 107)),
  (⟨"FacetSieveModel", "tag", "(II)I"⟩, prog_14_method_60_code, 7, (some .int), 11, (3, 66), 2, false, false, (1373, 1371, 1372, 107)),
  (⟨"FacetSieveModel", "held", "(III)I"⟩, prog_14_method_59_code, 6, (some .int), 11, (1, 22), 3, false, false, (1377, 1376, 65, 107)),
  (⟨"FacetSieveModel", "untag", "(II)I"⟩, prog_14_method_61_code, 5, (some .int), 11, (3, 66), 2, false, false, (1381, 1379, 1380, 107)),
  (⟨"FacetSieveModel", "rank", "(II)I"⟩, prog_14_method_62_code, 4, (some .int), 11, (3, 66), 2, false, false, (1385, 1383, 1384, 107)),
  (⟨"FacetSieveModel", "choose", "(II)I"⟩, prog_14_method_63_code, 4, (some .int), 11, (3, 66), 2, false, false, (1389, 1387, 1388, 107)),
  (⟨"FacetSieveModel", "go", "(IZ)I"⟩, prog_14_method_64_code, 5, (some .int), 11, (3, 66), 2, false, false, (1393, 1391, 1392, 107)),
  (⟨"FacetSieveModel", "why", "(II)I"⟩, prog_14_method_65_code, 3, (some .int), 11, (1, 22), 2, false, false, (1397, 1395, 1396, 107)),
  (⟨"FacetSieveModel", "undo", "()I"⟩, prog_14_method_66_code, 1, (some .int), 11, (1, 24), 0, false, false, (1401, 1399, 1400, 107)),
  (⟨"FacetSieveModel", "feed", "(IIIII)I"⟩, prog_14_method_67_code, 8, (some .int), 11, (0, 0), 5, false, false, (1405, 1403, 1404, 107)),
  (⟨"FacetSieveModel", "end", "(I)I"⟩, prog_14_method_68_code, 2, (some .int), 11, (1, 22), 1, false, false, (1409, 1407, 1408, 107)),
  (⟨"FacetSieveModel", "fault", "(I)I"⟩, prog_14_method_69_code, 2, (some .int), 11, (0, 0), 1, false, false, (1413, 1411, 1412, 107)),
  (⟨"FacetSieveModel", "scheme", "()I"⟩, prog_14_method_93_code, 2, (some .int), 11, (5, 114), 0, false, false, (1417, 1415, 1416, 107)),
  (⟨"FacetSieveModel", "begins", "()V"⟩, prog_14_method_76_code, 1, none, 11, (2, 42), 0, false, false, (1421, 1420, 66, 107)),
  (⟨"FacetSieveModel", "takes", "()V"⟩, prog_14_method_73_code, 2, none, 11, (1, 21), 0, false, false, (1425, 1424, 67, 107))]
def zz_T7 : List zz_M := [(⟨"FacetSieveModel", "byteAt", "(I)I"⟩, prog_14_method_70_code, 2, (some .int), 11, (0, 0), 1, false, false, (1429, 1428, 68, 107)),
  (⟨"FacetSieveModel", "isLetter", "(I)Z"⟩, prog_14_method_71_code, 1, (some .boolean), 11, (0, 0), 1, true, false, (1432, 1431, 0, 107)),
  (⟨"FacetSieveModel", "isDigit", "(I)Z"⟩, prog_14_method_72_code, 1, (some .boolean), 11, (0, 0), 1, true, false, (1437, 1436, 0, 107)),
  (⟨"FacetSieveModel", "isGood", "()Z"⟩, prog_14_method_75_code, 1, (some .boolean), 11, (0, 0), 0, false, false, (1443, 1442, 69, 107)),
  (⟨"FacetSieveModel", "readsLine", "()V"⟩, prog_14_method_92_code, 1, none, 11, (4, 94), 0, false, false, (1447, 1446, 70, 107)),
  (⟨"FacetSieveModel", "isWord", "(J)Z"⟩, prog_14_method_77_code, 3, (some .boolean), 11, (1, 20), 1, false, false, (1452, 1451, 71, 107)),
  (⟨"FacetSieveModel", "readsHead", "()V"⟩, prog_14_method_88_code, 4, none, 11, (3, 70), 0, false, false, (1456, 1455, 72, 107)),
  (⟨"FacetSieveModel", "fails", "(II)V"⟩, prog_14_method_74_code, 3, none, 11, (0, 0), 2, false, false, (1460, 1459, 73, 107)),
  (⟨"FacetSieveModel", "tells", "(I)V"⟩, prog_14_method_86_code, 3, none, 11, (2, 48), 1, false, false, (1464, 1463, 74, 107)),
  (⟨"FacetSieveModel", "isName", "()Z"⟩, prog_14_method_82_code, 1, (some .boolean), 11, (1, 21), 0, false, false, (1468, 1467, 75, 107)),
  (⟨"FacetSieveModel", "isKept", "(J)Z"⟩, prog_14_method_81_code, 2, (some .boolean), 11, (0, 0), 1, true, false, (1471, 1470, 0, 107)),
  (⟨"FacetSieveModel", "headBy", "(IJ)I"⟩, prog_14_method_84_code, 5, (some .int), 11, (1, 24), 2, false, false, (1484, 1483, 76, 107)),
  (⟨"FacetSieveModel", "nameOf", "(I)J"⟩, prog_14_method_83_code, 5, (some .long), 11, (0, 0), 1, false, false, (1488, 1487, 77, 107)),
  (⟨"FacetSieveModel", "valueBy", "(IJ)I"⟩, prog_14_method_85_code, 5, (some .int), 11, (1, 24), 2, false, false, (1492, 1491, 78, 107)),
  (⟨"FacetSieveModel", "readsValue", "()V"⟩, prog_14_method_89_code, 5, none, 11, (3, 70), 0, false, false, (1496, 1495, 79, 107)),
  (⟨"FacetSieveModel", "hasWord", "(J)Z"⟩, prog_14_method_78_code, 4, (some .boolean), 11, (2, 42), 1, false, false, (1500, 1499, 80, 107)),
  (⟨"FacetSieveModel", "readsRecord", "()V"⟩, prog_14_method_91_code, 3, none, 11, (3, 70), 0, false, false, (1504, 1503, 81, 107)),
  (⟨"FacetSieveModel", "numeral", "(II)I"⟩, prog_14_method_87_code, 3, (some .int), 11, (1, 22), 2, false, false, (1508, 1507, 82, 107)),
  (⟨"FacetSieveModel", "readsTag", "(I)V"⟩, prog_14_method_90_code, 3, none, 11, (2, 48), 1, false, false, (1512, 1511, 83, 107)),
  (⟨"FacetSieveModel", "hasSign", "(I)Z"⟩, prog_14_method_80_code, 3, (some .boolean), 11, (2, 42), 1, false, false, (1516, 1515, 84, 107)),
  (⟨"FacetSieveModel", "isSign", "(I)Z"⟩, prog_14_method_79_code, 2, (some .boolean), 11, (1, 20), 1, false, false, (1520, 1519, 85, 107)),
  (⟨"FacetSieveModel", "ask", "()I"⟩, prog_14_method_101_code, 3, (some .int), 11, (6, 135), 0, false, false, (1524, 1522, 1523, 107)),
  (⟨"FacetSieveModel", "opens", "()V"⟩, prog_14_method_94_code, 1, none, 11, (0, 0), 0, false, false, (1528, 1527, 86, 107)),
  (⟨"FacetSieveModel", "isFact", "()Z"⟩, prog_14_method_99_code, 4, (some .boolean), 11, (5, 112), 0, false, false, (1532, 1531, 87, 107)),
  (⟨"FacetSieveModel", "comes", "()V"⟩, prog_14_method_97_code, 3, none, 11, (4, 90), 0, false, false, (1536, 1535, 88, 107)),
  (⟨"FacetSieveModel", "laysLevel", "([I[I)V"⟩, prog_14_method_96_code, 4, none, 11, (0, 0), 2, false, false, (1540, 1539, 89, 107)),
  (⟨"FacetSieveModel", "takesLevel", "([I[I)V"⟩, prog_14_method_95_code, 4, none, 11, (0, 0), 2, false, false, (1544, 1543, 90, 107)),
  (⟨"FacetSieveModel", "goesOn", "()Z"⟩, prog_14_method_100_code, 1, (some .boolean), 11, (5, 112), 0, false, false, (1548, 1547, 91, 107)),
  (⟨"FacetSieveModel", "ends", "()V"⟩, prog_14_method_98_code, 2, none, 11, (4, 90), 0, false, false, (1552, 1551, 92, 107)),
  (⟨"FacetSieveModel", "asked", "(I)I"⟩, prog_14_method_102_code, 3, (some .int), 11, (4, 87), 1, false, false, (1556, 1554, 1555, 107)),
  (⟨"FacetSieveModel", "image", "(I)Z"⟩, prog_14_method_103_code, 4, (some .boolean), 11, (1, 24), 1, false, false, (1560, 1558, 1559, 107)),
  (⟨"FacetSieveModel", "again", "(I)Z"⟩, prog_14_method_104_code, 4, (some .boolean), 11, (1, 24), 1, false, false, (1564, 1562, 1563, 107))]
def zz_T : List zz_M := zz_T0 ++ (zz_T1 ++ (zz_T2 ++ (zz_T3 ++ (zz_T4 ++ (zz_T5 ++ (zz_T6 ++ (zz_T7)))))))
def zz_m0 : zz_M := (⟨"", "", ""⟩, ByteArray.empty, 0, none, 0, (0, 0), 0, true, false, (0, 0, 0, 0))
def zz_m (y : Nat) : zz_M := zz_T.getD y zz_m0
def zz_y (y : Nat) : MethodName := (zz_m y).1
def zz_c (y : Nat) : ByteArray := (zz_m y).2.1
def zz_ml (y : Nat) : Nat := (zz_m y).2.2.1
def zz_rt (y : Nat) : Option FieldType := (zz_m y).2.2.2.1
def zz_co (y : Nat) : Nat := (zz_m y).2.2.2.2.1
def zz_fr (y : Nat) : Nat := (zz_m y).2.2.2.2.2.1.1
def zz_lo (y : Nat) : Nat := (zz_m y).2.2.2.2.2.1.2
def zz_np (y : Nat) : Nat := (zz_m y).2.2.2.2.2.2.1
def zz_st (y : Nat) : Bool := (zz_m y).2.2.2.2.2.2.2.1
def zz_in (y : Nat) : Bool := (zz_m y).2.2.2.2.2.2.2.2.1
/-- method links: class, entry, kind, method, place of the word -/
def zz_ML : List (Nat × Nat × Nat × Nat × Nat) := [(13, 9, 2, 1, 113), (10, 3, 6, 0, 116), (10, 11, 5, 2, 121), (1, 3, 6, 0, 124), (1, 11, 5, 3, 127), (8, 3, 6, 0, 130), (1, 20, 2, 4, 143), (7, 3, 6, 0, 146), (7, 11, 5, 5, 149), (3, 3, 6, 0, 152), (7, 27, 2, 6, 203), (6, 3, 6, 0, 206), (6, 9, 8, 0, 207), (7, 34, 0, 7, 217), (1, 27, 5, 8, 246), (0, 3, 6, 0, 249), (1, 38, 2, 6, 262), (10, 22, 5, 9, 309), (2, 1, 6, 0, 312), (10, 29, 5, 11, 335), (5, 3, 6, 0, 338), (5, 11, 5, 10, 341), (9, 3, 6, 0, 344), (9, 11, 5, 3, 346), (5, 20, 2, 4, 380), (10, 36, 5, 12, 392), (4, 5, 6, 0, 395), (4, 13, 5, 10, 397), (4, 20, 2, 6, 399), (10, 43, 2, 6, 432), (13, 13, 1, 13, 452), (10, 54, 1, 14, 456), (10, 60, 1, 15, 460), (8, 19, 1, 14, 464), (13, 18, 1, 16, 465), (13, 23, 1, 17, 469), (10, 67, 1, 18, 473), (5, 25, 1, 19, 477), (7, 40, 1, 20, 481), (7, 43, 1, 21, 485), (6, 35, 0, 7, 489), (5, 28, 1, 22, 490), (9, 18, 1, 149, 494), (8, 23, 7, 0, 498), (9, 35, 1, 23, 501), (9, 41, 1, 24, 505), (9, 45, 0, 25, 509), (9, 52, 0, 26, 512), (9, 55, 1, 27, 515), (9, 71, 1, 28, 519), (9, 58, 0, 29, 533), (9, 61, 1, 30, 536), (9, 64, 0, 31, 540), (5, 36, 1, 32, 543), (5, 40, 1, 33, 547), (5, 60, 1, 34, 551), (5, 49, 1, 35, 555), (5, 53, 1, 23, 559), (5, 65, 1, 36, 560), (5, 90, 1, 37, 564), (3, 61, 1, 38, 568), (5, 72, 1, 39, 572), (3, 50, 1, 34, 576), (5, 43, 1, 40, 577), (5, 76, 1, 41, 581), (5, 79, 1, 42, 585), (5, 82, 1, 38, 589), (5, 86, 1, 43, 590), (3, 54, 1, 41, 594), (3, 57, 1, 44, 595), (5, 46, 1, 45, 599), (5, 101, 1, 46, 603), (5, 107, 1, 47, 607), (7, 57, 3, 48, 611), (5, 110, 1, 49, 614), (5, 114, 3, 50, 618), (5, 117, 1, 51, 621), (3, 65, 3, 50, 625), (5, 121, 1, 52, 626), (7, 61, 1, 53, 630), (6, 25, 1, 54, 634), (7, 65, 1, 55, 638), (7, 73, 3, 50, 642), (10, 75, 1, 56, 643), (10, 86, 1, 57, 647), (7, 44, 1, 58, 651), (3, 44, 7, 0, 655), (7, 48, 7, 0, 656), (7, 54, 1, 59, 657), (6, 41, 9, 0, 661), (6, 44, 7, 0, 664), (10, 96, 1, 60, 665), (0, 18, 0, 7, 669), (10, 101, 1, 61, 670), (10, 105, 1, 62, 674), (6, 29, 1, 63, 678), (6, 54, 0, 64, 682), (13, 28, 1, 65, 688), (10, 109, 1, 66, 692), (4, 44, 1, 67, 696), (4, 47, 1, 22, 700), (4, 58, 1, 68, 701), (4, 95, 1, 38, 705), (4, 101, 1, 69, 706), (4, 75, 1, 35, 710), (4, 105, 1, 70, 711), (6, 50, 1, 71, 715), (4, 62, 1, 77, 719), (4, 79, 1, 78, 723), (4, 111, 1, 73, 727), (4, 114, 1, 63, 731), (4, 118, 0, 74, 732), (12, 13, 0, 75, 735), (12, 7, 0, 64, 738), (12, 21, 9, 0, 739), (4, 121, 0, 76, 740), (4, 124, 1, 71, 743), (4, 66, 1, 72, 744), (4, 69, 1, 23, 748), (10, 130, 1, 70, 749), (13, 32, 1, 79, 750), (10, 134, 1, 80, 754), (6, 60, 0, 75, 758), (10, 137, 1, 81, 759), (6, 68, 3, 82, 763), (10, 239, 0, 64, 766), (10, 176, 0, 50, 767), (13, 36, 1, 83, 768), (13, 40, 1, 84, 772), (10, 147, 0, 48, 776), (10, 150, 0, 85, 777), (10, 153, 1, 86, 780), (10, 183, 1, 87, 784), (10, 156, 1, 47, 788), (10, 159, 1, 88, 789), (10, 192, 1, 89, 793), (2, 29, 9, 0, 797), (10, 338, 1, 52, 798), (10, 196, 1, 90, 799), (13, 45, 1, 91, 803), (13, 49, 1, 92, 807), (10, 167, 1, 44, 811), (10, 180, 1, 51, 812), (13, 53, 1, 93, 813), (13, 57, 1, 94, 817), (13, 61, 1, 95, 821), (13, 65, 1, 96, 825), (10, 200, 1, 97, 829), (13, 70, 1, 98, 833), (13, 74, 1, 99, 837), (10, 214, 1, 100, 841), (2, 35, 8, 0, 845), (2, 44, 1, 52, 846), (13, 78, 1, 101, 847), (10, 224, 1, 102, 851), (1, 98, 1, 103, 855), (1, 81, 1, 63, 859), (1, 94, 1, 104, 860), (0, 48, 1, 63, 864), (1, 102, 0, 64, 865), (10, 227, 1, 105, 866), (7, 77, 1, 80, 870), (10, 230, 1, 106, 871), (7, 80, 1, 107, 875), (6, 65, 0, 108, 879), (12, 18, 0, 109, 882), (10, 233, 1, 110, 885), (7, 84, 0, 64, 889), (10, 236, 1, 111, 890), (10, 312, 1, 112, 894), (10, 303, 1, 103, 898), (10, 342, 1, 71, 899), (10, 345, 1, 113, 900), (10, 291, 1, 63, 904), (10, 244, 1, 114, 905), (10, 247, 1, 115, 909), (10, 348, 8, 0, 913), (13, 82, 1, 116, 914), (10, 256, 1, 117, 918), (10, 264, 0, 118, 922), (9, 98, 0, 119, 925), (13, 86, 1, 120, 928), (10, 279, 1, 121, 932), (10, 282, 1, 107, 936), (10, 285, 1, 122, 937), (13, 90, 1, 123, 941), (10, 294, 0, 108, 945), (10, 299, 0, 75, 946), (10, 300, 0, 109, 947), (13, 95, 1, 124, 948), (10, 306, 0, 82, 952), (13, 99, 1, 125, 953), (10, 309, 1, 126, 957), (6, 32, 3, 50, 961), (13, 104, 1, 127, 962), (10, 315, 1, 128, 966), (10, 353, 1, 129, 970), (10, 356, 1, 130, 974), (13, 108, 1, 131, 978), (13, 112, 1, 132, 982), (10, 318, 1, 133, 986), (6, 71, 0, 76, 990), (10, 321, 1, 134, 991), (6, 75, 0, 74, 995), (13, 116, 1, 135, 996), (10, 324, 1, 136, 1000), (7, 91, 1, 133, 1004), (7, 95, 8, 0, 1005), (13, 120, 1, 137, 1006), (10, 327, 1, 138, 1010), (7, 100, 1, 62, 1014), (7, 103, 1, 139, 1015), (7, 112, 1, 140, 1019), (7, 116, 1, 63, 1023), (7, 106, 1, 141, 1024), (7, 109, 1, 142, 1028), (13, 124, 1, 143, 1032), (10, 330, 1, 144, 1036), (13, 128, 1, 145, 1040), (10, 333, 1, 146, 1044), (13, 132, 1, 147, 1048), (10, 336, 1, 148, 1052), (1, 48, 1, 149, 1056), (1, 52, 1, 57, 1057), (1, 55, 1, 150, 1058), (0, 24, 7, 0, 1062), (1, 68, 1, 59, 1063), (13, 137, 1, 151, 1064), (13, 12, 2, 152, 1070), (11, 1, 6, 0, 1073), (13, 81, 1, 153, 1154), (11, 57, 0, 154, 1158), (11, 138, 1, 155, 1161), (11, 96, 1, 156, 1165), (11, 80, 1, 157, 1169), (11, 77, 0, 158, 1173), (11, 129, 1, 159, 1176), (11, 69, 0, 160, 1180), (11, 132, 0, 161, 1183), (11, 86, 0, 162, 1186), (11, 83, 0, 163, 1189), (11, 135, 0, 164, 1192), (11, 141, 1, 165, 1195), (11, 116, 1, 166, 1199), (11, 106, 1, 167, 1203), (11, 89, 1, 168, 1207), (11, 100, 0, 169, 1211), (11, 103, 1, 170, 1214), (11, 93, 1, 171, 1218), (11, 109, 0, 172, 1222), (11, 150, 1, 173, 1225), (11, 123, 1, 174, 1229), (11, 120, 1, 175, 1233), (11, 126, 1, 176, 1237), (11, 113, 1, 177, 1241), (11, 154, 1, 178, 1245), (13, 85, 1, 179, 1249), (11, 157, 1, 180, 1253), (11, 160, 1, 181, 1257), (13, 89, 1, 182, 1261), (11, 164, 1, 183, 1265), (11, 167, 1, 184, 1269), (13, 94, 1, 185, 1273), (13, 98, 1, 186, 1277), (11, 170, 1, 187, 1281), (11, 61, 0, 188, 1285), (11, 65, 1, 189, 1288), (11, 73, 0, 190, 1292), (13, 103, 1, 191, 1295), (13, 107, 1, 192, 1299), (11, 173, 1, 193, 1303), (13, 111, 1, 194, 1307), (13, 115, 1, 195, 1311), (11, 177, 1, 196, 1315), (11, 180, 0, 197, 1319), (13, 119, 1, 198, 1322), (13, 123, 1, 199, 1326), (11, 184, 1, 200, 1330), (11, 187, 1, 201, 1334), (13, 127, 1, 202, 1338), (13, 131, 1, 203, 1342), (13, 44, 1, 204, 1346), (11, 197, 1, 205, 1350), (11, 194, 1, 206, 1354), (11, 190, 1, 207, 1358), (11, 200, 1, 208, 1362), (13, 48, 1, 209, 1366), (13, 52, 1, 210, 1370), (11, 204, 1, 211, 1374), (13, 56, 1, 212, 1378), (13, 60, 1, 213, 1382), (13, 64, 1, 214, 1386), (13, 69, 1, 215, 1390), (13, 73, 1, 216, 1394), (13, 77, 1, 217, 1398), (13, 17, 1, 218, 1402), (13, 22, 1, 219, 1406), (13, 39, 1, 220, 1410), (13, 27, 1, 221, 1414), (11, 322, 1, 222, 1418), (11, 244, 1, 223, 1422), (11, 217, 1, 224, 1426), (11, 230, 0, 225, 1430), (11, 237, 0, 226, 1435), (11, 247, 1, 227, 1440), (11, 325, 1, 228, 1444), (11, 251, 1, 229, 1449), (11, 310, 1, 230, 1453), (11, 288, 1, 231, 1457), (11, 298, 1, 232, 1461), (11, 285, 1, 233, 1465), (11, 278, 0, 234, 1469), (11, 291, 1, 235, 1481), (11, 281, 1, 236, 1485), (11, 295, 1, 237, 1489), (11, 313, 1, 238, 1493), (11, 301, 1, 239, 1497), (11, 316, 1, 240, 1501), (11, 304, 1, 241, 1505), (11, 307, 1, 242, 1509), (11, 319, 1, 243, 1513), (11, 255, 1, 244, 1517), (13, 31, 1, 245, 1521), (11, 347, 1, 246, 1525), (11, 353, 1, 247, 1529), (11, 344, 1, 248, 1533), (11, 331, 1, 249, 1537), (11, 335, 1, 250, 1541), (11, 356, 1, 251, 1545), (11, 350, 1, 252, 1549), (13, 35, 1, 253, 1553), (13, 136, 1, 254, 1557), (13, 140, 1, 255, 1561)]
/-- field links: class, entry, class of the field, its place, place of the word -/
def zz_FL : List (Nat × Nat × Nat × Nat × Nat) := [(8, 9, 8, 0, 131), (8, 15, 8, 1, 132), (9, 22, 8, 1, 133), (10, 63, 8, 1, 134), (3, 37, 3, 0, 153), (1, 89, 3, 0, 154), (5, 98, 3, 0, 155), (10, 218, 3, 0, 156), (3, 9, 3, 1, 157), (10, 260, 3, 1, 158), (3, 15, 3, 2, 159), (10, 250, 3, 2, 160), (3, 19, 3, 3, 161), (0, 30, 3, 3, 162), (3, 22, 3, 4, 163), (0, 35, 3, 4, 164), (10, 253, 3, 4, 165), (3, 41, 3, 5, 166), (7, 69, 3, 5, 167), (10, 221, 3, 5, 168), (3, 25, 3, 6, 169), (10, 288, 3, 6, 170), (3, 28, 3, 7, 171), (5, 94, 3, 7, 172), (10, 270, 3, 7, 173), (3, 31, 3, 8, 174), (10, 273, 3, 8, 175), (3, 34, 3, 9, 176), (10, 276, 3, 9, 177), (6, 15, 6, 0, 210), (6, 21, 6, 1, 211), (7, 12, 7, 0, 220), (5, 56, 7, 0, 221), (4, 87, 7, 0, 222), (0, 38, 7, 0, 223), (1, 85, 7, 0, 224), (10, 163, 7, 0, 225), (7, 18, 7, 1, 226), (10, 186, 7, 1, 227), (7, 22, 7, 2, 228), (10, 172, 7, 2, 229), (7, 30, 7, 3, 230), (4, 82, 7, 3, 231), (10, 102, 7, 3, 232), (1, 78, 7, 3, 233), (0, 44, 7, 3, 234), (0, 9, 0, 0, 250), (2, 54, 0, 0, 251), (10, 189, 0, 0, 252), (0, 15, 0, 1, 253), (2, 59, 0, 1, 254), (10, 203, 0, 1, 255), (1, 12, 1, 0, 263), (10, 50, 1, 0, 264), (1, 21, 1, 1, 265), (10, 79, 1, 1, 266), (2, 38, 1, 1, 267), (1, 28, 1, 2, 268), (10, 92, 1, 2, 269), (2, 50, 1, 2, 270), (1, 58, 1, 3, 271), (10, 141, 1, 3, 272), (1, 32, 1, 4, 273), (10, 144, 1, 4, 274), (1, 61, 1, 5, 275), (10, 114, 1, 5, 276), (1, 65, 1, 6, 277), (10, 121, 1, 6, 278), (1, 41, 1, 7, 279), (10, 124, 1, 7, 280), (1, 71, 1, 8, 281), (10, 206, 1, 8, 282), (1, 45, 1, 9, 283), (10, 209, 1, 9, 284), (2, 9, 2, 0, 313), (2, 13, 2, 1, 314), (2, 16, 2, 2, 315), (2, 19, 2, 3, 316), (2, 22, 2, 4, 317), (2, 26, 2, 5, 318), (10, 212, 2, 5, 319), (9, 12, 9, 0, 347), (9, 26, 9, 1, 348), (5, 32, 9, 2, 349), (4, 51, 9, 2, 350), (9, 49, 9, 2, 351), (9, 38, 9, 3, 352), (9, 75, 9, 4, 353), (5, 104, 9, 4, 354), (5, 68, 9, 5, 355), (4, 91, 9, 5, 356), (9, 67, 9, 5, 357), (9, 29, 9, 6, 358), (1, 74, 9, 6, 359), (9, 32, 9, 7, 360), (1, 77, 9, 7, 361), (5, 12, 5, 0, 381), (10, 71, 5, 0, 382), (5, 21, 5, 1, 383), (10, 83, 5, 1, 384), (4, 14, 4, 0, 400), (10, 113, 4, 0, 401), (4, 23, 4, 1, 402), (10, 127, 4, 1, 403), (4, 27, 4, 2, 404), (4, 31, 4, 3, 405), (4, 34, 4, 4, 406), (4, 72, 4, 5, 407), (4, 54, 4, 6, 408), (4, 38, 4, 7, 409), (4, 41, 4, 8, 410), (10, 118, 4, 8, 411), (10, 12, 10, 0, 433), (10, 16, 10, 1, 434), (10, 23, 10, 2, 435), (10, 30, 10, 3, 436), (10, 37, 10, 4, 437), (10, 46, 10, 5, 438), (11, 7, 11, 0, 1074), (11, 13, 11, 1, 1075), (11, 16, 11, 2, 1076), (11, 147, 11, 3, 1077), (11, 208, 11, 4, 1078), (11, 20, 11, 5, 1079), (11, 144, 11, 6, 1080), (11, 24, 11, 7, 1081), (11, 27, 11, 8, 1082), (11, 30, 11, 9, 1083), (11, 33, 11, 10, 1084), (11, 36, 11, 11, 1085), (11, 39, 11, 12, 1086), (11, 211, 11, 13, 1087), (11, 214, 11, 14, 1088), (11, 227, 11, 15, 1089), (11, 220, 11, 16, 1090), (11, 223, 11, 17, 1091), (11, 42, 11, 18, 1092), (11, 45, 11, 19, 1093), (11, 48, 11, 20, 1094), (11, 51, 11, 21, 1095), (11, 54, 11, 22, 1096), (11, 328, 11, 23, 1097), (11, 341, 11, 24, 1098), (11, 338, 11, 25, 1099)]
/-- class links: class, entry, class, places of the words -/
def zz_NL : List (Nat × Nat × Nat × Nat × Nat × Nat) := [(13, 7, 10, 111, 112, 94), (10, 9, 1, 119, 120, 95), (1, 9, 8, 125, 126, 96), (1, 18, 7, 141, 142, 97), (7, 9, 3, 147, 148, 98), (7, 25, 6, 201, 202, 99), (1, 25, 0, 244, 245, 102), (1, 36, 6, 261, 202, 99), (10, 20, 2, 307, 308, 103), (10, 27, 5, 333, 334, 104), (5, 9, 9, 339, 340, 105), (9, 9, 8, 345, 126, 96), (5, 18, 7, 379, 142, 97), (10, 34, 4, 390, 391, 106), (4, 11, 9, 396, 340, 105), (4, 18, 6, 398, 202, 99), (10, 41, 6, 431, 202, 99), (13, 10, 11, 1068, 1069, 107)]
def zz_KL : List (Nat × Nat × Int32 × Nat) := [(14, 265, 1431655765, 685), (14, 266, 858993459, 686), (14, 267, 252645135, 687)]
def zz_JL : List (Nat × Nat × Int64 × Nat) := [(9, 78, 132264, 523), (9, 80, 180599091, 524), (9, 82, 833581, 525), (9, 84, 5943350, 526), (9, 86, 457, 527), (9, 88, 153586866, 528), (9, 90, 591, 529), (9, 92, 4545, 530), (9, 94, 642220, 531), (9, 96, 12673, 532), (11, 233, 27, 1433), (11, 235, 97, 1434), (11, 240, 10, 1438), (11, 242, 48, 1439), (11, 258, 161140, 1448), (11, 260, 277693196, 1472), (11, 262, 257011, 1473), (11, 264, 11720705, 1474), (11, 266, 257, 1475), (11, 268, 261008005, 1476), (11, 270, 423, 1477), (11, 272, 1111, 1478), (11, 274, 240373, 1479), (11, 276, 1065, 1480)]
