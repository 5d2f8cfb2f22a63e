section
-- ===== PART A: goes FIRST, ahead of the names: the tables' words, and 'selects' of the private methods out of them =====
/-- a private method of a class that the tables say can be made, by its rows of tables_1 -/
def lw_okq (q : MethodName × Nat) : Prop := (q.1.cls ≠ "java/lang/invoke/MethodHandle" ∧ q.1.cls ≠ "java/lang/invoke/VarHandle") ∧ Cond.instantiable q.1.cls q.2 ∈ tables_1 ∧ Cond.privateMethod q.1 ∈ tables_1 ∧ Cond.instanceMethod q.1 ∈ tables_1
theorem lw_p0 : lw_okq (⟨"BoardNotation$Tree", "occupy", "(IIII)I"⟩, 9) := ⟨⟨by decide +kernel, by decide +kernel⟩, List.mem_of_getElem? (i := 78) (by decide +kernel), List.mem_of_getElem? (i := 84) (by decide +kernel), List.mem_of_getElem? (i := 85) (by decide +kernel)⟩
theorem lw_p1 : lw_okq (⟨"BoardNotation", "judge", "(II)I"⟩, 16) := ⟨⟨by decide +kernel, by decide +kernel⟩, List.mem_of_getElem? (i := 23) (by decide +kernel), List.mem_of_getElem? (i := 228) (by decide +kernel), List.mem_of_getElem? (i := 229) (by decide +kernel)⟩
theorem lw_p2 : lw_okq (⟨"BoardNotation$ShortForm", "forget", "()V"⟩, 8) := ⟨⟨by decide +kernel, by decide +kernel⟩, List.mem_of_getElem? (i := 116) (by decide +kernel), List.mem_of_getElem? (i := 236) (by decide +kernel), List.mem_of_getElem? (i := 237) (by decide +kernel)⟩
theorem lw_p3 : lw_okq (⟨"BoardNotation$ShortForm", "keep", "(I)V"⟩, 8) := ⟨⟨by decide +kernel, by decide +kernel⟩, List.mem_of_getElem? (i := 116) (by decide +kernel), List.mem_of_getElem? (i := 259) (by decide +kernel), List.mem_of_getElem? (i := 260) (by decide +kernel)⟩
theorem lw_p4 : lw_okq (⟨"BoardNotation", "turn", "()I"⟩, 16) := ⟨⟨by decide +kernel, by decide +kernel⟩, List.mem_of_getElem? (i := 23) (by decide +kernel), List.mem_of_getElem? (i := 271) (by decide +kernel), List.mem_of_getElem? (i := 272) (by decide +kernel)⟩
theorem lw_p5 : lw_okq (⟨"BoardNotation$Board", "reachedFrom", "(I)J"⟩, 2) := ⟨⟨by decide +kernel, by decide +kernel⟩, List.mem_of_getElem? (i := 62) (by decide +kernel), List.mem_of_getElem? (i := 302) (by decide +kernel), List.mem_of_getElem? (i := 303) (by decide +kernel)⟩
theorem lw_p6 : lw_okq (⟨"BoardNotation$Board", "royalsOf", "(I)J"⟩, 2) := ⟨⟨by decide +kernel, by decide +kernel⟩, List.mem_of_getElem? (i := 62) (by decide +kernel), List.mem_of_getElem? (i := 319) (by decide +kernel), List.mem_of_getElem? (i := 320) (by decide +kernel)⟩
theorem lw_p7 : lw_okq (⟨"BoardNotation", "beginAnew", "()V"⟩, 16) := ⟨⟨by decide +kernel, by decide +kernel⟩, List.mem_of_getElem? (i := 23) (by decide +kernel), List.mem_of_getElem? (i := 356) (by decide +kernel), List.mem_of_getElem? (i := 357) (by decide +kernel)⟩
theorem lw_p8 : lw_okq (⟨"BoardNotation", "visit", "(I)V"⟩, 16) := ⟨⟨by decide +kernel, by decide +kernel⟩, List.mem_of_getElem? (i := 23) (by decide +kernel), List.mem_of_getElem? (i := 360) (by decide +kernel), List.mem_of_getElem? (i := 361) (by decide +kernel)⟩
theorem lw_p9 : lw_okq (⟨"BoardNotation", "stepUp", "()V"⟩, 16) := ⟨⟨by decide +kernel, by decide +kernel⟩, List.mem_of_getElem? (i := 23) (by decide +kernel), List.mem_of_getElem? (i := 364) (by decide +kernel), List.mem_of_getElem? (i := 365) (by decide +kernel)⟩
theorem lw_p10 : lw_okq (⟨"BoardNotation", "stepDown", "(I)V"⟩, 16) := ⟨⟨by decide +kernel, by decide +kernel⟩, List.mem_of_getElem? (i := 23) (by decide +kernel), List.mem_of_getElem? (i := 388) (by decide +kernel), List.mem_of_getElem? (i := 389) (by decide +kernel)⟩
theorem lw_p11 : lw_okq (⟨"BoardNotation", "openVariation", "()I"⟩, 16) := ⟨⟨by decide +kernel, by decide +kernel⟩, List.mem_of_getElem? (i := 23) (by decide +kernel), List.mem_of_getElem? (i := 402) (by decide +kernel), List.mem_of_getElem? (i := 403) (by decide +kernel)⟩
theorem lw_p12 : lw_okq (⟨"BoardNotation", "closeVariation", "()I"⟩, 16) := ⟨⟨by decide +kernel, by decide +kernel⟩, List.mem_of_getElem? (i := 23) (by decide +kernel), List.mem_of_getElem? (i := 406) (by decide +kernel), List.mem_of_getElem? (i := 407) (by decide +kernel)⟩
theorem lw_p13 : lw_okq (⟨"BoardNotation$Text", "isOfWord", "(I)Z"⟩, 3) := ⟨⟨by decide +kernel, by decide +kernel⟩, List.mem_of_getElem? (i := 147) (by decide +kernel), List.mem_of_getElem? (i := 414) (by decide +kernel), List.mem_of_getElem? (i := 415) (by decide +kernel)⟩
theorem lw_p14 : lw_okq (⟨"BoardNotation", "follow", "(II)Z"⟩, 16) := ⟨⟨by decide +kernel, by decide +kernel⟩, List.mem_of_getElem? (i := 23) (by decide +kernel), List.mem_of_getElem? (i := 423) (by decide +kernel), List.mem_of_getElem? (i := 424) (by decide +kernel)⟩
theorem lw_p15 : lw_okq (⟨"java/lang/Throwable", "fillInStackTrace", "(I)Ljava/lang/Throwable;"⟩, 6) := ⟨⟨by decide +kernel, by decide +kernel⟩, List.mem_of_getElem? (i := 510) (by decide +kernel), List.mem_of_getElem? (i := 508) (by decide +kernel), List.mem_of_getElem? (i := 509) (by decide +kernel)⟩
def lw_privs_1 : List (MethodName × Nat) := [(⟨"BoardNotation$Tree", "occupy", "(IIII)I"⟩, 9), (⟨"BoardNotation", "judge", "(II)I"⟩, 16), (⟨"BoardNotation$ShortForm", "forget", "()V"⟩, 8), (⟨"BoardNotation$ShortForm", "keep", "(I)V"⟩, 8), (⟨"BoardNotation", "turn", "()I"⟩, 16), (⟨"BoardNotation$Board", "reachedFrom", "(I)J"⟩, 2), (⟨"BoardNotation$Board", "royalsOf", "(I)J"⟩, 2), (⟨"BoardNotation", "beginAnew", "()V"⟩, 16), (⟨"BoardNotation", "visit", "(I)V"⟩, 16), (⟨"BoardNotation", "stepUp", "()V"⟩, 16), (⟨"BoardNotation", "stepDown", "(I)V"⟩, 16), (⟨"BoardNotation", "openVariation", "()I"⟩, 16), (⟨"BoardNotation", "closeVariation", "()I"⟩, 16), (⟨"BoardNotation$Text", "isOfWord", "(I)Z"⟩, 3), (⟨"BoardNotation", "follow", "(II)Z"⟩, 16), (⟨"java/lang/Throwable", "fillInStackTrace", "(I)Ljava/lang/Throwable;"⟩, 6)]
theorem lw_r1 : ∀ q ∈ lw_privs_1, lw_okq q := List.forall_mem_cons.mpr ⟨lw_p0, List.forall_mem_cons.mpr ⟨lw_p1, List.forall_mem_cons.mpr ⟨lw_p2, List.forall_mem_cons.mpr ⟨lw_p3, List.forall_mem_cons.mpr ⟨lw_p4, List.forall_mem_cons.mpr ⟨lw_p5, List.forall_mem_cons.mpr ⟨lw_p6, List.forall_mem_cons.mpr ⟨lw_p7, List.forall_mem_cons.mpr ⟨lw_p8, List.forall_mem_cons.mpr ⟨lw_p9, List.forall_mem_cons.mpr ⟨lw_p10, List.forall_mem_cons.mpr ⟨lw_p11, List.forall_mem_cons.mpr ⟨lw_p12, List.forall_mem_cons.mpr ⟨lw_p13, List.forall_mem_cons.mpr ⟨lw_p14, List.forall_mem_cons.mpr ⟨lw_p15, fun _ h => absurd h List.not_mem_nil⟩⟩⟩⟩⟩⟩⟩⟩⟩⟩⟩⟩⟩⟩⟩⟩
theorem lw_p16 : lw_okq (⟨"BoardNotation", "digestNode", "(JI)J"⟩, 16) := ⟨⟨by decide +kernel, by decide +kernel⟩, List.mem_of_getElem? (i := 23) (by decide +kernel), List.mem_of_getElem? (i := 540) (by decide +kernel), List.mem_of_getElem? (i := 541) (by decide +kernel)⟩
theorem lw_p17 : lw_okq (⟨"BoardNotation", "reasonAgainst", "(II)I"⟩, 16) := ⟨⟨by decide +kernel, by decide +kernel⟩, List.mem_of_getElem? (i := 23) (by decide +kernel), List.mem_of_getElem? (i := 659) (by decide +kernel), List.mem_of_getElem? (i := 660) (by decide +kernel)⟩
theorem lw_p18 : lw_okq (⟨"BoardNotation", "appendUnlessNothing", "(I)V"⟩, 16) := ⟨⟨by decide +kernel, by decide +kernel⟩, List.mem_of_getElem? (i := 23) (by decide +kernel), List.mem_of_getElem? (i := 696) (by decide +kernel), List.mem_of_getElem? (i := 697) (by decide +kernel)⟩
theorem lw_p19 : lw_okq (⟨"BoardNotation", "writeMove", "(LBoardNotation$Text;II)V"⟩, 16) := ⟨⟨by decide +kernel, by decide +kernel⟩, List.mem_of_getElem? (i := 23) (by decide +kernel), List.mem_of_getElem? (i := 715) (by decide +kernel), List.mem_of_getElem? (i := 716) (by decide +kernel)⟩
theorem lw_p20 : lw_okq (⟨"BoardNotation", "writeOrigin", "(LBoardNotation$Text;III)V"⟩, 16) := ⟨⟨by decide +kernel, by decide +kernel⟩, List.mem_of_getElem? (i := 23) (by decide +kernel), List.mem_of_getElem? (i := 723) (by decide +kernel), List.mem_of_getElem? (i := 724) (by decide +kernel)⟩
theorem lw_p21 : lw_okq (⟨"BoardNotation", "writeOpening", "(I)V"⟩, 16) := ⟨⟨by decide +kernel, by decide +kernel⟩, List.mem_of_getElem? (i := 23) (by decide +kernel), List.mem_of_getElem? (i := 783) (by decide +kernel), List.mem_of_getElem? (i := 784) (by decide +kernel)⟩
theorem lw_p22 : lw_okq (⟨"BoardNotation", "goOn", "(II)I"⟩, 16) := ⟨⟨by decide +kernel, by decide +kernel⟩, List.mem_of_getElem? (i := 23) (by decide +kernel), List.mem_of_getElem? (i := 792) (by decide +kernel), List.mem_of_getElem? (i := 793) (by decide +kernel)⟩
theorem lw_p23 : lw_okq (⟨"BoardNotation", "leaveLine", "()I"⟩, 16) := ⟨⟨by decide +kernel, by decide +kernel⟩, List.mem_of_getElem? (i := 23) (by decide +kernel), List.mem_of_getElem? (i := 796) (by decide +kernel), List.mem_of_getElem? (i := 797) (by decide +kernel)⟩
theorem lw_p24 : lw_okq (⟨"BoardNotationModel", "kindOf", "(I)I"⟩, 26) := ⟨⟨by decide +kernel, by decide +kernel⟩, List.mem_of_getElem? (i := 805) (by decide +kernel), List.mem_of_getElem? (i := 905) (by decide +kernel), List.mem_of_getElem? (i := 906) (by decide +kernel)⟩
theorem lw_p25 : lw_okq (⟨"BoardNotationModel", "fail", "(I)I"⟩, 26) := ⟨⟨by decide +kernel, by decide +kernel⟩, List.mem_of_getElem? (i := 805) (by decide +kernel), List.mem_of_getElem? (i := 909) (by decide +kernel), List.mem_of_getElem? (i := 910) (by decide +kernel)⟩
theorem lw_p26 : lw_okq (⟨"BoardNotationModel", "stateTold", "(I)I"⟩, 26) := ⟨⟨by decide +kernel, by decide +kernel⟩, List.mem_of_getElem? (i := 805) (by decide +kernel), List.mem_of_getElem? (i := 932) (by decide +kernel), List.mem_of_getElem? (i := 933) (by decide +kernel)⟩
theorem lw_p27 : lw_okq (⟨"BoardNotationModel", "turn", "()I"⟩, 26) := ⟨⟨by decide +kernel, by decide +kernel⟩, List.mem_of_getElem? (i := 805) (by decide +kernel), List.mem_of_getElem? (i := 936) (by decide +kernel), List.mem_of_getElem? (i := 937) (by decide +kernel)⟩
theorem lw_p28 : lw_okq (⟨"BoardNotationModel", "get", "(II)I"⟩, 26) := ⟨⟨by decide +kernel, by decide +kernel⟩, List.mem_of_getElem? (i := 805) (by decide +kernel), List.mem_of_getElem? (i := 940) (by decide +kernel), List.mem_of_getElem? (i := 941) (by decide +kernel)⟩
theorem lw_p29 : lw_okq (⟨"BoardNotationModel", "isChecked", "([II)Z"⟩, 26) := ⟨⟨by decide +kernel, by decide +kernel⟩, List.mem_of_getElem? (i := 805) (by decide +kernel), List.mem_of_getElem? (i := 944) (by decide +kernel), List.mem_of_getElem? (i := 945) (by decide +kernel)⟩
theorem lw_p30 : lw_okq (⟨"BoardNotationModel", "reaches", "([III)Z"⟩, 26) := ⟨⟨by decide +kernel, by decide +kernel⟩, List.mem_of_getElem? (i := 805) (by decide +kernel), List.mem_of_getElem? (i := 951) (by decide +kernel), List.mem_of_getElem? (i := 952) (by decide +kernel)⟩
theorem lw_p31 : lw_okq (⟨"BoardNotationModel", "reach", "(II)I"⟩, 26) := ⟨⟨by decide +kernel, by decide +kernel⟩, List.mem_of_getElem? (i := 805) (by decide +kernel), List.mem_of_getElem? (i := 955) (by decide +kernel), List.mem_of_getElem? (i := 956) (by decide +kernel)⟩
def lw_privs_2 : List (MethodName × Nat) := [(⟨"BoardNotation", "digestNode", "(JI)J"⟩, 16), (⟨"BoardNotation", "reasonAgainst", "(II)I"⟩, 16), (⟨"BoardNotation", "appendUnlessNothing", "(I)V"⟩, 16), (⟨"BoardNotation", "writeMove", "(LBoardNotation$Text;II)V"⟩, 16), (⟨"BoardNotation", "writeOrigin", "(LBoardNotation$Text;III)V"⟩, 16), (⟨"BoardNotation", "writeOpening", "(I)V"⟩, 16), (⟨"BoardNotation", "goOn", "(II)I"⟩, 16), (⟨"BoardNotation", "leaveLine", "()I"⟩, 16), (⟨"BoardNotationModel", "kindOf", "(I)I"⟩, 26), (⟨"BoardNotationModel", "fail", "(I)I"⟩, 26), (⟨"BoardNotationModel", "stateTold", "(I)I"⟩, 26), (⟨"BoardNotationModel", "turn", "()I"⟩, 26), (⟨"BoardNotationModel", "get", "(II)I"⟩, 26), (⟨"BoardNotationModel", "isChecked", "([II)Z"⟩, 26), (⟨"BoardNotationModel", "reaches", "([III)Z"⟩, 26), (⟨"BoardNotationModel", "reach", "(II)I"⟩, 26)]
theorem lw_r2 : ∀ q ∈ lw_privs_2, lw_okq q := List.forall_mem_cons.mpr ⟨lw_p16, List.forall_mem_cons.mpr ⟨lw_p17, List.forall_mem_cons.mpr ⟨lw_p18, List.forall_mem_cons.mpr ⟨lw_p19, List.forall_mem_cons.mpr ⟨lw_p20, List.forall_mem_cons.mpr ⟨lw_p21, List.forall_mem_cons.mpr ⟨lw_p22, List.forall_mem_cons.mpr ⟨lw_p23, List.forall_mem_cons.mpr ⟨lw_p24, List.forall_mem_cons.mpr ⟨lw_p25, List.forall_mem_cons.mpr ⟨lw_p26, List.forall_mem_cons.mpr ⟨lw_p27, List.forall_mem_cons.mpr ⟨lw_p28, List.forall_mem_cons.mpr ⟨lw_p29, List.forall_mem_cons.mpr ⟨lw_p30, List.forall_mem_cons.mpr ⟨lw_p31, fun _ h => absurd h List.not_mem_nil⟩⟩⟩⟩⟩⟩⟩⟩⟩⟩⟩⟩⟩⟩⟩⟩
theorem lw_p32 : lw_okq (⟨"BoardNotationModel", "target", "(IIII)I"⟩, 26) := ⟨⟨by decide +kernel, by decide +kernel⟩, List.mem_of_getElem? (i := 805) (by decide +kernel), List.mem_of_getElem? (i := 959) (by decide +kernel), List.mem_of_getElem? (i := 960) (by decide +kernel)⟩
theorem lw_p33 : lw_okq (⟨"BoardNotationModel", "legalMoves", "(II)I"⟩, 26) := ⟨⟨by decide +kernel, by decide +kernel⟩, List.mem_of_getElem? (i := 805) (by decide +kernel), List.mem_of_getElem? (i := 963) (by decide +kernel), List.mem_of_getElem? (i := 964) (by decide +kernel)⟩
theorem lw_p34 : lw_okq (⟨"BoardNotationModel", "isLegal", "(II)Z"⟩, 26) := ⟨⟨by decide +kernel, by decide +kernel⟩, List.mem_of_getElem? (i := 805) (by decide +kernel), List.mem_of_getElem? (i := 967) (by decide +kernel), List.mem_of_getElem? (i := 968) (by decide +kernel)⟩
theorem lw_p35 : lw_okq (⟨"BoardNotationModel", "why", "(II)I"⟩, 26) := ⟨⟨by decide +kernel, by decide +kernel⟩, List.mem_of_getElem? (i := 805) (by decide +kernel), List.mem_of_getElem? (i := 978) (by decide +kernel), List.mem_of_getElem? (i := 979) (by decide +kernel)⟩
theorem lw_p36 : lw_okq (⟨"BoardNotationModel", "known", "(II)I"⟩, 26) := ⟨⟨by decide +kernel, by decide +kernel⟩, List.mem_of_getElem? (i := 805) (by decide +kernel), List.mem_of_getElem? (i := 986) (by decide +kernel), List.mem_of_getElem? (i := 987) (by decide +kernel)⟩
theorem lw_p37 : lw_okq (⟨"BoardNotationModel", "continuation0", "(II)I"⟩, 26) := ⟨⟨by decide +kernel, by decide +kernel⟩, List.mem_of_getElem? (i := 805) (by decide +kernel), List.mem_of_getElem? (i := 990) (by decide +kernel), List.mem_of_getElem? (i := 991) (by decide +kernel)⟩
theorem lw_p38 : lw_okq (⟨"BoardNotationModel", "playOn", "(II)V"⟩, 26) := ⟨⟨by decide +kernel, by decide +kernel⟩, List.mem_of_getElem? (i := 805) (by decide +kernel), List.mem_of_getElem? (i := 994) (by decide +kernel), List.mem_of_getElem? (i := 995) (by decide +kernel)⟩
theorem lw_p39 : lw_okq (⟨"BoardNotationModel", "readMove", "(II)I"⟩, 26) := ⟨⟨by decide +kernel, by decide +kernel⟩, List.mem_of_getElem? (i := 805) (by decide +kernel), List.mem_of_getElem? (i := 1010) (by decide +kernel), List.mem_of_getElem? (i := 1011) (by decide +kernel)⟩
theorem lw_p40 : lw_okq (⟨"BoardNotationModel", "findForm", "(II)Z"⟩, 26) := ⟨⟨by decide +kernel, by decide +kernel⟩, List.mem_of_getElem? (i := 805) (by decide +kernel), List.mem_of_getElem? (i := 1014) (by decide +kernel), List.mem_of_getElem? (i := 1015) (by decide +kernel)⟩
theorem lw_p41 : lw_okq (⟨"BoardNotationModel", "late", "(IC)I"⟩, 26) := ⟨⟨by decide +kernel, by decide +kernel⟩, List.mem_of_getElem? (i := 805) (by decide +kernel), List.mem_of_getElem? (i := 1074) (by decide +kernel), List.mem_of_getElem? (i := 1075) (by decide +kernel)⟩
theorem lw_p42 : lw_okq (⟨"BoardNotationModel", "early", "(IC)I"⟩, 26) := ⟨⟨by decide +kernel, by decide +kernel⟩, List.mem_of_getElem? (i := 805) (by decide +kernel), List.mem_of_getElem? (i := 1113) (by decide +kernel), List.mem_of_getElem? (i := 1114) (by decide +kernel)⟩
theorem lw_p43 : lw_okq (⟨"BoardNotationModel", "sign", "(II)I"⟩, 26) := ⟨⟨by decide +kernel, by decide +kernel⟩, List.mem_of_getElem? (i := 805) (by decide +kernel), List.mem_of_getElem? (i := 1154) (by decide +kernel), List.mem_of_getElem? (i := 1155) (by decide +kernel)⟩
theorem lw_p44 : lw_okq (⟨"BoardNotationModel", "putMove", "(II)V"⟩, 26) := ⟨⟨by decide +kernel, by decide +kernel⟩, List.mem_of_getElem? (i := 805) (by decide +kernel), List.mem_of_getElem? (i := 1166) (by decide +kernel), List.mem_of_getElem? (i := 1167) (by decide +kernel)⟩
theorem lw_p45 : lw_okq (⟨"BoardNotationModel", "put", "(I)V"⟩, 26) := ⟨⟨by decide +kernel, by decide +kernel⟩, List.mem_of_getElem? (i := 805) (by decide +kernel), List.mem_of_getElem? (i := 1170) (by decide +kernel), List.mem_of_getElem? (i := 1171) (by decide +kernel)⟩
theorem lw_p46 : lw_okq (⟨"BoardNotationModel", "toTape", "()I"⟩, 26) := ⟨⟨by decide +kernel, by decide +kernel⟩, List.mem_of_getElem? (i := 805) (by decide +kernel), List.mem_of_getElem? (i := 1174) (by decide +kernel), List.mem_of_getElem? (i := 1175) (by decide +kernel)⟩
theorem lw_p47 : lw_okq (⟨"BoardNotationModel", "isNode", "(I)Z"⟩, 26) := ⟨⟨by decide +kernel, by decide +kernel⟩, List.mem_of_getElem? (i := 805) (by decide +kernel), List.mem_of_getElem? (i := 1186) (by decide +kernel), List.mem_of_getElem? (i := 1187) (by decide +kernel)⟩
def lw_privs_3 : List (MethodName × Nat) := [(⟨"BoardNotationModel", "target", "(IIII)I"⟩, 26), (⟨"BoardNotationModel", "legalMoves", "(II)I"⟩, 26), (⟨"BoardNotationModel", "isLegal", "(II)Z"⟩, 26), (⟨"BoardNotationModel", "why", "(II)I"⟩, 26), (⟨"BoardNotationModel", "known", "(II)I"⟩, 26), (⟨"BoardNotationModel", "continuation0", "(II)I"⟩, 26), (⟨"BoardNotationModel", "playOn", "(II)V"⟩, 26), (⟨"BoardNotationModel", "readMove", "(II)I"⟩, 26), (⟨"BoardNotationModel", "findForm", "(II)Z"⟩, 26), (⟨"BoardNotationModel", "late", "(IC)I"⟩, 26), (⟨"BoardNotationModel", "early", "(IC)I"⟩, 26), (⟨"BoardNotationModel", "sign", "(II)I"⟩, 26), (⟨"BoardNotationModel", "putMove", "(II)V"⟩, 26), (⟨"BoardNotationModel", "put", "(I)V"⟩, 26), (⟨"BoardNotationModel", "toTape", "()I"⟩, 26), (⟨"BoardNotationModel", "isNode", "(I)Z"⟩, 26)]
theorem lw_r3 : ∀ q ∈ lw_privs_3, lw_okq q := List.forall_mem_cons.mpr ⟨lw_p32, List.forall_mem_cons.mpr ⟨lw_p33, List.forall_mem_cons.mpr ⟨lw_p34, List.forall_mem_cons.mpr ⟨lw_p35, List.forall_mem_cons.mpr ⟨lw_p36, List.forall_mem_cons.mpr ⟨lw_p37, List.forall_mem_cons.mpr ⟨lw_p38, List.forall_mem_cons.mpr ⟨lw_p39, List.forall_mem_cons.mpr ⟨lw_p40, List.forall_mem_cons.mpr ⟨lw_p41, List.forall_mem_cons.mpr ⟨lw_p42, List.forall_mem_cons.mpr ⟨lw_p43, List.forall_mem_cons.mpr ⟨lw_p44, List.forall_mem_cons.mpr ⟨lw_p45, List.forall_mem_cons.mpr ⟨lw_p46, List.forall_mem_cons.mpr ⟨lw_p47, fun _ h => absurd h List.not_mem_nil⟩⟩⟩⟩⟩⟩⟩⟩⟩⟩⟩⟩⟩⟩⟩⟩
theorem lw_p48 : lw_okq (⟨"BoardNotationModel", "set", "(I)V"⟩, 26) := ⟨⟨by decide +kernel, by decide +kernel⟩, List.mem_of_getElem? (i := 805) (by decide +kernel), List.mem_of_getElem? (i := 1198) (by decide +kernel), List.mem_of_getElem? (i := 1199) (by decide +kernel)⟩
theorem lw_p49 : lw_okq (⟨"BoardNotationModel", "putBelow", "(I)V"⟩, 26) := ⟨⟨by decide +kernel, by decide +kernel⟩, List.mem_of_getElem? (i := 805) (by decide +kernel), List.mem_of_getElem? (i := 1210) (by decide +kernel), List.mem_of_getElem? (i := 1211) (by decide +kernel)⟩
theorem lw_p50 : lw_okq (⟨"BoardNotationModel", "putNode", "(I)V"⟩, 26) := ⟨⟨by decide +kernel, by decide +kernel⟩, List.mem_of_getElem? (i := 805) (by decide +kernel), List.mem_of_getElem? (i := 1214) (by decide +kernel), List.mem_of_getElem? (i := 1215) (by decide +kernel)⟩
theorem lw_p51 : lw_okq (⟨"BoardNotationModel", "blank", "()V"⟩, 26) := ⟨⟨by decide +kernel, by decide +kernel⟩, List.mem_of_getElem? (i := 805) (by decide +kernel), List.mem_of_getElem? (i := 1218) (by decide +kernel), List.mem_of_getElem? (i := 1219) (by decide +kernel)⟩
theorem lw_p52 : lw_okq (⟨"BoardNotationModel", "clearNodes", "()V"⟩, 26) := ⟨⟨by decide +kernel, by decide +kernel⟩, List.mem_of_getElem? (i := 805) (by decide +kernel), List.mem_of_getElem? (i := 1226) (by decide +kernel), List.mem_of_getElem? (i := 1227) (by decide +kernel)⟩
theorem lw_p53 : lw_okq (⟨"BoardNotationModel", "stop", "(II)I"⟩, 26) := ⟨⟨by decide +kernel, by decide +kernel⟩, List.mem_of_getElem? (i := 805) (by decide +kernel), List.mem_of_getElem? (i := 1230) (by decide +kernel), List.mem_of_getElem? (i := 1231) (by decide +kernel)⟩
theorem lw_p54 : lw_okq (⟨"BoardNotationModel", "isWord", "(I)Z"⟩, 26) := ⟨⟨by decide +kernel, by decide +kernel⟩, List.mem_of_getElem? (i := 805) (by decide +kernel), List.mem_of_getElem? (i := 1234) (by decide +kernel), List.mem_of_getElem? (i := 1235) (by decide +kernel)⟩
def lw_privs_4 : List (MethodName × Nat) := [(⟨"BoardNotationModel", "set", "(I)V"⟩, 26), (⟨"BoardNotationModel", "putBelow", "(I)V"⟩, 26), (⟨"BoardNotationModel", "putNode", "(I)V"⟩, 26), (⟨"BoardNotationModel", "blank", "()V"⟩, 26), (⟨"BoardNotationModel", "clearNodes", "()V"⟩, 26), (⟨"BoardNotationModel", "stop", "(II)I"⟩, 26), (⟨"BoardNotationModel", "isWord", "(I)Z"⟩, 26)]
theorem lw_r4 : ∀ q ∈ lw_privs_4, lw_okq q := List.forall_mem_cons.mpr ⟨lw_p48, List.forall_mem_cons.mpr ⟨lw_p49, List.forall_mem_cons.mpr ⟨lw_p50, List.forall_mem_cons.mpr ⟨lw_p51, List.forall_mem_cons.mpr ⟨lw_p52, List.forall_mem_cons.mpr ⟨lw_p53, List.forall_mem_cons.mpr ⟨lw_p54, fun _ h => absurd h List.not_mem_nil⟩⟩⟩⟩⟩⟩⟩
def lw_privs : List (MethodName × Nat) := lw_privs_1 ++ (lw_privs_2 ++ (lw_privs_3 ++ (lw_privs_4)))
def lw_tbl : List Cond := k2_sels lw_privs ++ tables_1
theorem lw_privs_ok : ∀ q ∈ lw_privs, lw_okq q := by
  show ∀ q ∈ lw_privs_1 ++ (lw_privs_2 ++ (lw_privs_3 ++ (lw_privs_4))), lw_okq q
  exact List.forall_mem_append.mpr ⟨lw_r1, List.forall_mem_append.mpr ⟨lw_r2, List.forall_mem_append.mpr ⟨lw_r3, lw_r4⟩⟩⟩
/-- the streams that the claim lets the run draw from -/
abbrev lw_cs : List Choice := [Jvm.Choice.named "NaN.bits"]
theorem lw_bits : nanBits ∈ lw_cs := by first | decide | exact List.mem_cons_self | simp [lw_cs, nanBits]
-- ===== end of PART A; then your names; then what follows =====
end
section
/-! ===== BEGIN words of one list among another's, by their places ===== -/
theorem goodIn_r {big : List Cond} (ws : List Cond) (ps : List Nat) (hp : ws = ps.filterMap (fun i => big[i]?)) (h : ws.all goodWord = true) : GoodIn big ws := by
  intro w hw
  have h1 := List.all_eq_true.mp h w hw
  rw [hp] at hw
  obtain ⟨i, -, hi⟩ := List.mem_filterMap.mp hw
  have hm : w ∈ big := by first | exact List.mem_of_getElem? hi | exact List.getElem?_mem hi
  exact ⟨hm, good_of_word h1⟩
theorem goodIn_app {big a b : List Cond} (ha : GoodIn big a) (hb : GoodIn big b) : GoodIn big (a ++ b) := fun w h => (List.mem_append.mp h).elim (ha w) (hb w)
theorem goodIn_ca {big a b : List Cond} {c : Cond} (ha : GoodIn big (c :: a)) (hb : GoodIn big b) : GoodIn big (c :: (a ++ b)) := fun w h => (List.mem_cons.mp h).elim (fun e => ha w (List.mem_cons.mpr (Or.inl e))) (fun h => (List.mem_append.mp h).elim (fun h => ha w (List.mem_cons.mpr (Or.inr h))) (hb w))
theorem goodIn_sub {big ws : List Cond} (hm : ∀ w ∈ ws, w ∈ big) (h : ws.all goodWord = true) : GoodIn big ws := fun w hw => ⟨hm w hw, good_of_word (List.all_eq_true.mp h w hw)⟩
/-! ===== END ===== -/

/-! ===== BEGIN exceptions that leave a method, and their catching by the caller (launches without stack traces) ===== -/
section VXA
/-! The laws vx_back, vx_callV, vx_callS, vx_callSW, vx_throw0, vx_throwS follow proofs of the library, with one case more: JvmDerived/Free/Laws.lean (Back.of_free), Shelf42/LK1.lean (callV, callS), Shelf/KitTraced.lean (throwNew0V, throwNewS). -/
/-- where a method has thrown q -/
def vx_T (XC : String → State → State → Prop) (st : State) (q : Addr) (t : State) (mc ms : Nat) (free : Addr → Prop) : Prop :=
  ∃ (E : String) (ce : Cell) (L : List Loc), XC E st t ∧ t.heap[q]? = some ce ∧ ce.vm = .none ∧ st.vm.findClass E = some ce.cls ∧ st.WarmedH t.vm ∧ st.sameButNew ({ t with vm := st.vm } : State) L mc ms ∧ ∀ z ∈ L, free z.base
def vx_Q (Qc : Array Value → State → Outcome → State → Prop) (XC : String → State → State → Prop) (mc ms : Nat) (free : Addr → Prop) : Array Value → State → Outcome → State → Prop := fun a st o t =>
  (Qc a st o t ∧ ∃ L, FrameEnd st o t L mc ms ∧ ∀ q ∈ L, free q.base) ∨ ∃ q, o = .threw q ∧ vx_T XC st q t mc ms free
/-- a callee that returns or throws -/
def vx_Met (l : Launch) (y : MethodName) (ws : List Cond) (rm : Room) (Pc : Array Value → State → Prop) (Qc : Array Value → State → Outcome → State → Prop) (XC : String → State → State → Prop) (mc ms : Nat) (free : Addr → Prop) : Prop :=
  MetFree l y (headSpec ws rm) Pc (fun _ _ _ _ _ => True) (vx_Q Qc XC mc ms free)
def vx_Post (XC : String → State → State → Prop) (mc ms : Nat) (free : Addr → Prop) : Pt → Array Value → Addr → Pt → Prop := fun A a q B =>
  ∃ (g : JFrame) (mk : MethodId) (t : State) (L : List Loc) (E : String) (ce : Cell), B.U.heap = t.heap ∧ B.U.vm = t.vm ∧ XC E (A.U.calling g mk a) t ∧ t.heap[q]? = some ce ∧ ce.vm = .none ∧ A.U.vm.findClass E = some ce.cls ∧ B.locs = A.locs ++ L ∧ (∀ z ∈ L, free z.base) ∧ B.cells = A.cells + mc ∧ B.slots = A.slots + ms
def vx_Back (l : Launch) (R : Room) (p : Program) (e : Env) (below : List Frame) (s : State) (sargs : Array Value) (y : MethodName) (len W9 : Nat)
    (Pre : Pt → Array Value → Prop) (Post : Pt → Array Value → Option Value → Pt → Prop) (PostX : Pt → Array Value → Addr → Pt → Prop) : Prop :=
  ∀ (m : MethodId) (meth : Method) (c : Code) (A : Pt) (g : JFrame) (ig : Instr) (mk : MethodId) (a : Array Value),
    Stand p l e R s m sargs below meth c A.U A.locs A.cells A.slots → g.method = m → g.locals.size = c.maxLocals → decode c.code g.pc = .ok (ig, len) →
    2 * g.monitorRoom + (g.stack.map fun v => v.category).sum ≤ W9 → A.U.methodNamed? y = some mk → Pre A a →
    (∃ (v : Option Value) (B : Pt), Stand p l e R s m sargs below meth c B.U B.locs B.cells B.slots ∧ Post A a v B ∧
      Steps p.tables e below (doInvoke e (A.U.setTop g) [] mk a).1 (B.U.setTop { g with pc := g.pc + len, stack := v.toList ++ g.stack })) ∨
    (∃ (q : Addr) (B : Pt), Stand p l e R s m sargs below meth c B.U B.locs B.cells B.slots ∧ PostX A a q B ∧
      Steps p.tables e below (doInvoke e (A.U.setTop g) [] mk a).1 ((B.U.setTop g).pushFrame (.throwing q)))
section Payer
variable {l : Launch} {R : Room} {p : Program} {e : Env} {below : List Frame} {s : State} {sargs : Array Value} {y : MethodName} {len W9 : Nat}
theorem vx_back {ws : List Cond} {rm : Room} {Pc : Array Value → State → Prop} {Qc : Array Value → State → Outcome → State → Prop} {XC : String → State → State → Prop} {mc ms : Nat} {free : Addr → Prop} {bytes : ByteArray} {maxL : Nat} {ret : Option FieldType}
    (hM : vx_Met l y ws rm Pc Qc XC mc ms free) (hblind : FrameBlind Pc) (hrc : rm.cells = mc) (hrs : rm.slots = ms)
    (hframes : rm.frames + 1 ≤ R.frames) (hlocals : W9 + (maxL + 11) + rm.locals ≤ R.locals)
    (hws : ∀ w ∈ ws, ∀ a' U, s.WarmedH U.vm → w.before a' U = true) (hcode : Cond.code y bytes maxL ret ∈ ws) (hinit : ∀ a' U, s.WarmedH U.vm → (Cond.initialized y.cls).before a' U = true) :
    vx_Back l R p e below s sargs y len W9 (PreOf R mc ms Pc) (PostOf Qc mc ms free) (vx_Post XC mc ms free) := by
  intro m meth c A g ig mk a X hg hsize hdg hW hn hp
  have h1 : (headSpec ws rm).pre.before a A.U = true := atoms_intro fun w hw => hws w hw _ _ X.warmed
  have h2 : (Cond.code y bytes maxL ret).before a A.U = true := hws _ hcode _ _ X.warmed
  have h3 : (Cond.initialized y.cls).before a A.U = true := hinit _ _ X.warmed
  have h4 : A.cells + (headSpec ws rm).room.cells ≤ R.cells := by rw [show (headSpec ws rm).room.cells = mc from hrc]; exact hp.1
  have h5 : A.slots + (headSpec ws rm).room.slots ≤ R.slots := by rw [show (headSpec ws rm).room.slots = ms from hrs]; exact hp.2.1
  have hPc : Pc a (A.U.calling g mk a) := hblind _ _ _ _ hp.2.2
  obtain ⟨U, Ls, c0, s0⟩ := A
  dsimp only [Pt.U, Pt.locs, Pt.cells, Pt.slots] at h1 h2 h3 h4 h5 X hn hPc ⊢
  obtain ⟨methY, cY, hmY, hcY, -, hlY, -, -, -, -⟩ := Cond.code_spec hn h2
  obtain ⟨kY, hkY, -⟩ := className_of_methodNamed hn
  have hinitY : kY.init = .initialized := Cond.initialized_spec (findClass_of_methodNamed hn) hkY h3
  have h : At U g.method c below := by rw [hg]; exact X.here
  have hlocals9 : W9 + (maxL + 11) + (headSpec ws rm).room.locals ≤ R.locals := hlocals
  have happ : (headSpec ws rm).appliesLoose y e.platform (U.calling g mk a) = true :=
    Spec.appliesLoose_calling (g := g) h hdg hn hkY hinitY
      (X.room_calling (g := g) (R' := (headSpec ws rm).room) hsize hmY hcY hframes (by rw [hlY]; omega) h4 h5) h1
  obtain ⟨mid, hmid⟩ := h.above
  have hfr : (U.setTop g).frames = (.java g :: mid) ++ below := by rw [State.frames_setTop' g h.top, hmid]; rfl
  obtain ⟨o, s₂, hsteps, -, hend, hq⟩ := Steps.callFree hM p X.admits X.cas X.clock (acts := []) hfr happ hPc trivial
  have hq' : vx_Q Qc XC mc ms free a (U.calling g mk a) o s₂ := hq
  rw [State.frames_setTop' g h.top] at hend
  obtain ⟨g₀, hg0⟩ := Option.isSome_iff_exists.mp h.top
  obtain ⟨r, hr⟩ := State.topJava?_eq_some.mp hg0
  have hr' : (({ U with heap := s₂.heap, slotsUsed := s₂.slotsUsed } : State).setVm s₂.vm).frames = .java g₀ :: r := hr
  rcases hq' with ⟨hqc, L, hfe, hL⟩ | ⟨q, rfl, E, ce, L, hx, hce, hcv, hcl, hW₂, hsm, hL⟩
  · obtain ⟨⟨v, rfl⟩, hW₂, e2, q2, q3, q4, q5, q6⟩ := id hfe
    have e3 : s₂ = ({ (U.calling g mk a).setFrames s₂.frames with heap := s₂.heap, slotsUsed := s₂.slotsUsed } : State).setVm s₂.vm := by
      have : s₂ = ({ s₂ with vm := (U.calling g mk a).vm } : State).setVm s₂.vm := rfl
      rw [e2] at this
      exact this
    obtain ⟨c₂, i₂, len₂, hc₂, hd₂, hf₂⟩ := hend
    have hW' : U.WarmedH s₂.vm := hW₂
    have hcc : c₂ = c := by
      have h1 : s₂.code? g.method = U.code? g.method := by
        rw [State.code?_eq, State.code?_eq, hW'.alike.method?]
      exact Option.some.inj (hc₂.symm.trans (h1.trans h.code))
    subst hcc
    have hlen : len₂ = len := by rw [hdg] at hd₂; cases hd₂; rfl
    subst hlen
    have hs₂ : s₂ = (({ U with heap := s₂.heap, slotsUsed := s₂.slotsUsed } : State).setVm s₂.vm).setTop { g with pc := g.pc + len₂, stack := v.toList ++ g.stack } := by
      refine e3.trans ?_
      rw [hf₂, State.calling_eq h.top, State.setFrames_setFrames, State.setTop_of_frames _ hr', hr]
      rfl
    have hsame : U.sameButNew ({ U with heap := s₂.heap, slotsUsed := s₂.slotsUsed } : State) L mc ms := by
      refine ⟨?_, q2, q3, q4, q5, q6⟩
      obtain ⟨t, ht, -⟩ := State.frames_cons hr
      show ({ U with heap := s₂.heap, slotsUsed := s₂.slotsUsed } : State) = { U.setFrames U.frames with heap := s₂.heap, slotsUsed := s₂.slotsUsed }
      rw [State.setFrames_self ht]
    subst hg
    refine Or.inl ⟨v, ⟨(({ U with heap := s₂.heap, slotsUsed := s₂.slotsUsed } : State).setVm s₂.vm), Ls ++ L, c0 + mc, s0 + ms⟩,
      ⟨X.admits, X.cas, X.clock, X.frames, X.room, X.hears, X.method, X.code, (X.here.setHeapUsed s₂.heap s₂.slotsUsed).setVm hW'.alike, X.tail, State.WarmedH.trans X.warmed hW', X.limits, X.bytes, X.same.trans (hsame.setVm s.vm)⟩,
      ⟨g, mk, s₂, L, rfl, rfl, hqc, rfl, hL, rfl, rfl⟩, ?_⟩
    show Steps p.tables e below _ ((({ U with heap := s₂.heap, slotsUsed := s₂.slotsUsed } : State).setVm s₂.vm).setTop { g with pc := g.pc + len₂, stack := v.toList ++ g.stack })
    rw [← hs₂]
    exact hsteps
  · obtain ⟨e2, q2, q3, q4, q5, q6⟩ := id hsm
    have e3 : s₂ = ({ (U.calling g mk a).setFrames s₂.frames with heap := s₂.heap, slotsUsed := s₂.slotsUsed } : State).setVm s₂.vm := by
      have : s₂ = ({ s₂ with vm := (U.calling g mk a).vm } : State).setVm s₂.vm := rfl
      rw [e2] at this
      exact this
    have hf₂ : s₂.frames = .throwing q :: .java g :: U.frames.tail := hend
    have hW' : U.WarmedH s₂.vm := hW₂
    have hs₂ : s₂ = ((({ U with heap := s₂.heap, slotsUsed := s₂.slotsUsed } : State).setVm s₂.vm).setTop g).pushFrame (.throwing q) := by
      refine e3.trans ?_
      rw [hf₂, State.calling_eq h.top, State.setFrames_setFrames, State.pushFrame, State.frames_setTop _ hr', State.setTop_of_frames _ hr', State.setFrames_setFrames, hr]
      rfl
    have hsame : U.sameButNew ({ U with heap := s₂.heap, slotsUsed := s₂.slotsUsed } : State) L mc ms := by
      refine ⟨?_, q2, q3, q4, q5, q6⟩
      obtain ⟨t, ht, -⟩ := State.frames_cons hr
      show ({ U with heap := s₂.heap, slotsUsed := s₂.slotsUsed } : State) = { U.setFrames U.frames with heap := s₂.heap, slotsUsed := s₂.slotsUsed }
      rw [State.setFrames_self ht]
    subst hg
    refine Or.inr ⟨q, ⟨(({ U with heap := s₂.heap, slotsUsed := s₂.slotsUsed } : State).setVm s₂.vm), Ls ++ L, c0 + mc, s0 + ms⟩,
      ⟨X.admits, X.cas, X.clock, X.frames, X.room, X.hears, X.method, X.code, (X.here.setHeapUsed s₂.heap s₂.slotsUsed).setVm hW'.alike, X.tail, State.WarmedH.trans X.warmed hW', X.limits, X.bytes, X.same.trans (hsame.setVm s.vm)⟩,
      ⟨g, mk, s₂, L, E, ce, rfl, rfl, hx, hce, hcv, hcl, rfl, hL, rfl, rfl⟩, ?_⟩
    show Steps p.tables e below _ (((({ U with heap := s₂.heap, slotsUsed := s₂.slotsUsed } : State).setVm s₂.vm).setTop g).pushFrame (.throwing q))
    rw [← hs₂]
    exact hsteps
end Payer
section Calls
variable {p : Program} {l : Launch} {e : Env} {R : Room} {s : State} {m : MethodId} {args : Array Value} {below : List Frame} {meth : Method} {c : Code} {T : State} {locs : List Loc} {cells slots : Nat}
theorem vx_callV (X : Stand p l e R s m args below meth c T locs cells slots) (hexec : p.tables.exec = Jvm.exec) {own C : String} {index : Nat} {y : MethodName} {bytes : ByteArray} {maxL : Nat} {ret : Option FieldType}
    (hown : s.vm.findClass own = some m.cls) (hlink : (Cond.methodLink own index y).before args s = true) (hinst : (Cond.instanceMethod y).before args s = true) (hsel : (Cond.selects C y y).before args s = true)
    (hcode : (Cond.code y bytes maxL ret).before args s = true) (hy : y.cls ≠ "java/lang/invoke/MethodHandle" ∧ y.cls ≠ "java/lang/invoke/VarHandle")
    {W9 : Nat} {Pre : Pt → Array Value → Prop} {Post : Pt → Array Value → Option Value → Pt → Prop} {PostX : Pt → Array Value → Addr → Pt → Prop} (hK : vx_Back l R p e below s args y 3 W9 Pre Post PostX)
    {b : Addr} {cellB : Cell} (hcell : T.heap[b]? = some cellB) (hobj : cellB.vm.isStatics = false) (hcls : s.vm.findClass C = some cellB.cls)
    {g : JFrame} (hg : g.method = m) (hsize : g.locals.size = c.maxLocals) {argsL rest : List Value} (hlen : ∀ sig, parseMethodDescriptor y.desc = some sig → argsL.length = sig.parameters.length)
    (hstack : g.stack = argsL.reverse ++ .ref b :: rest) (hW : 2 * g.monitorRoom + (rest.map fun v => v.category).sum ≤ W9) (hdg : decode c.code g.pc = .ok (.invokevirtual index, 3))
    (hpre : ∀ vm₁, s.WarmedH vm₁ → Pre ⟨T.setVm vm₁, locs, cells, slots⟩ (Value.ref b :: argsL).toArray) :
    (∃ (v : Option Value) (vm₁ : Vm) (B : Pt), s.WarmedH vm₁ ∧ Stand p l e R s m args below meth c B.U B.locs B.cells B.slots ∧ Post ⟨T.setVm vm₁, locs, cells, slots⟩ (Value.ref b :: argsL).toArray v B ∧
      ∀ target, Steps p.tables e below (B.U.setTop { g with pc := g.pc + 3, stack := v.toList ++ rest }) target → Steps p.tables e below (T.setTop g) target) ∨
    (∃ (q : Addr) (vm₁ : Vm) (B : Pt), s.WarmedH vm₁ ∧ Stand p l e R s m args below meth c B.U B.locs B.cells B.slots ∧ PostX ⟨T.setVm vm₁, locs, cells, slots⟩ (Value.ref b :: argsL).toArray q B ∧
      Steps p.tables e below (T.setTop g) ((B.U.setTop { g with stack := rest }).pushFrame (.throwing q))) := by
  obtain ⟨mk, methM, hnamed, hmethM, hstM, habM⟩ := Cond.instanceMethod_spec hinst
  obtain ⟨methM', cM, hmethM', -, -, -, -, -, -, hsigM⟩ := Cond.code_spec hnamed hcode
  cases hmethM.symm.trans hmethM'
  obtain ⟨c2, r2, m2, q1, q2, q3, q4, kP, hkP, hkPi⟩ := Cond.selects_spec hsel
  cases hcls.symm.trans q1
  cases (State.methodFound?_of_named hnamed hy).symm.trans q2
  cases hnamed.symm.trans q3
  have hselP : selectMethod e.platform s.vm cellB.cls mk = .method mk := by rw [Launch.admits_selectMethod X.admits]; exact q4
  obtain ⟨vm₁, X₁, hstep₁⟩ := X.invokevirtual hexec hown hlink hnamed hmethM hstM hkP hkPi hy (a := b) (cell := cellB) hcell
    (fun z h => by rw [h] at hobj; cases hobj) hselP hmethM habM hkP hkPi (g := g) hg (argsL := argsL) (rest := rest) (hlen _ hsigM) hstack hdg
  rcases hK m meth c ⟨T.setVm vm₁, locs, cells, slots⟩ { g with stack := rest } (.invokevirtual index) mk (Value.ref b :: argsL).toArray X₁ hg hsize hdg hW (X₁.named hnamed) (hpre vm₁ X₁.warmed) with ⟨v, B, X', hpost, hsteps⟩ | ⟨q, B, X', hpost, hsteps⟩
  · exact Or.inl ⟨v, vm₁, B, X₁.warmed, X', hpost, fun target h => hstep₁ _ fun acts => by rw [doInvoke_state]; exact hsteps.trans h⟩
  · exact Or.inr ⟨q, vm₁, B, X₁.warmed, X', hpost, hstep₁ _ fun acts => by rw [doInvoke_state]; exact hsteps⟩
theorem vx_callS (X : Stand p l e R s m args below meth c T locs cells slots) (hexec : p.tables.exec = Jvm.exec) {own : String} {index : Nat} {y : MethodName} {bytes : ByteArray} {maxL : Nat} {ret : Option FieldType}
    (hown : s.vm.findClass own = some m.cls) (hlink : (Cond.methodLink own index y).before args s = true) (hstat : (Cond.static y).before args s = true) (hinit : (Cond.initialized y.cls).before args s = true)
    (hcode : (Cond.code y bytes maxL ret).before args s = true) (hy : y.cls ≠ "java/lang/invoke/MethodHandle" ∧ y.cls ≠ "java/lang/invoke/VarHandle")
    {W9 : Nat} {Pre : Pt → Array Value → Prop} {Post : Pt → Array Value → Option Value → Pt → Prop} {PostX : Pt → Array Value → Addr → Pt → Prop} (hK : vx_Back l R p e below s args y 3 W9 Pre Post PostX)
    {g : JFrame} (hg : g.method = m) (hsize : g.locals.size = c.maxLocals) {argsL rest : List Value} (hlen : ∀ sig, parseMethodDescriptor y.desc = some sig → argsL.length = sig.parameters.length)
    (hstack : g.stack = argsL.reverse ++ rest) (hW : 2 * g.monitorRoom + (rest.map fun v => v.category).sum ≤ W9) (hdg : decode c.code g.pc = .ok (.invokestatic index, 3))
    (hpre : ∀ vm₁, s.WarmedH vm₁ → Pre ⟨T.setVm vm₁, locs, cells, slots⟩ argsL.toArray) :
    (∃ (v : Option Value) (vm₁ : Vm) (B : Pt), s.WarmedH vm₁ ∧ Stand p l e R s m args below meth c B.U B.locs B.cells B.slots ∧ Post ⟨T.setVm vm₁, locs, cells, slots⟩ argsL.toArray v B ∧
      ∀ target, Steps p.tables e below (B.U.setTop { g with pc := g.pc + 3, stack := v.toList ++ rest }) target → Steps p.tables e below (T.setTop g) target) ∨
    (∃ (q : Addr) (vm₁ : Vm) (B : Pt), s.WarmedH vm₁ ∧ Stand p l e R s m args below meth c B.U B.locs B.cells B.slots ∧ PostX ⟨T.setVm vm₁, locs, cells, slots⟩ argsL.toArray q B ∧
      Steps p.tables e below (T.setTop g) ((B.U.setTop { g with stack := rest }).pushFrame (.throwing q))) := by
  obtain ⟨mk, hnamed⟩ := Cond.code_named hcode
  obtain ⟨methM, cM, hmethM, -, -, -, -, -, -, hsigM⟩ := Cond.code_spec hnamed hcode
  have hstatic : methM.isStatic = true := Cond.static_spec hnamed hmethM hstat
  obtain ⟨kP, hkP, -⟩ := className_of_methodNamed hnamed
  have hinitP : kP.init = .initialized := Cond.initialized_spec (findClass_of_methodNamed hnamed) hkP hinit
  obtain ⟨vm₁, X₁, hstep₁⟩ := X.invokestatic hexec hown hlink hnamed hmethM hstatic hkP hinitP hy (g := g) hg (argsL := argsL) (rest := rest) (hlen _ hsigM) hstack hdg
  rcases hK m meth c ⟨T.setVm vm₁, locs, cells, slots⟩ { g with stack := rest } (.invokestatic index) mk argsL.toArray X₁ hg hsize hdg hW (X₁.named hnamed) (hpre vm₁ X₁.warmed) with ⟨v, B, X', hpost, hsteps⟩ | ⟨q, B, X', hpost, hsteps⟩
  · exact Or.inl ⟨v, vm₁, B, X₁.warmed, X', hpost, fun target h => hstep₁ _ fun acts => by rw [doInvoke_state]; exact hsteps.trans h⟩
  · exact Or.inr ⟨q, vm₁, B, X₁.warmed, X', hpost, hstep₁ _ fun acts => by rw [doInvoke_state]; exact hsteps⟩
end Calls
theorem vx_cls {s : State} {T : State} {vm₁ : Vm} {E : String} {k : ClassId} (hW : s.WarmedH vm₁) (h : (T.setVm vm₁).vm.findClass E = some k) : s.vm.findClass E = some k := by
  have h1 : vm₁.findClass E = some k := h
  rw [hW.alike.findClass] at h1
  exact h1
/-- the method's frame g, with q thrown over it -/
def vx_W (p : Program) (l : Launch) (e : Env) (R : Room) (s : State) (m : MethodId) (args : Array Value) (below : List Frame) (meth : Method) (c : Code) (H : Heap) (locs : List Loc) (cells slots : Nat) (Q : State → Prop) (g : JFrame) (q : Addr) : Prop :=
  ∀ T : State, T.heap = H → Stand p l e R s m args below meth c T locs cells slots → ∃ t, Steps p.tables e below ((T.setTop g).pushFrame (.throwing q)) t ∧ Q t
def vx_Run (p : Program) (l : Launch) (e : Env) (R : Room) (s : State) (m : MethodId) (args : Array Value) (below : List Frame) (meth : Method) (c : Code) (H : Heap) (locs : List Loc) (cells slots mc ms : Nat) (g : JFrame) (rest : List Value) (Qa : State → Outcome → State → Prop) (XC : String → State → State → Prop) (free : Addr → Prop) : Prop :=
  ∀ T : State, T.heap = H → Stand p l e R s m args below meth c T locs cells slots →
    (∃ (v : Option Value) (st₀ t T' : State) (L : List Loc), st₀.heap = H ∧ Stand p l e R s m args below meth c T' (locs ++ L) (cells + mc) (slots + ms) ∧ (∀ q ∈ L, free q.base) ∧ T'.heap = t.heap ∧ T'.vm = t.vm ∧ Qa st₀ (.returned v) t ∧
      Goes p e below T g T' { g with pc := g.pc + 3, stack := v.toList ++ rest }) ∨
    (∃ (q : Addr) (st₀ t T' : State) (L : List Loc) (E : String) (ce : Cell), st₀.heap = H ∧ Stand p l e R s m args below meth c T' (locs ++ L) (cells + mc) (slots + ms) ∧ (∀ z ∈ L, free z.base) ∧ T'.heap = t.heap ∧ T'.vm = t.vm ∧ XC E st₀ t ∧ t.heap[q]? = some ce ∧ ce.vm = .none ∧ s.vm.findClass E = some ce.cls ∧
      Steps p.tables e below (T.setTop g) ((T'.setTop { g with stack := rest }).pushFrame (.throwing q)))
def vx_X {S : Type} (px : S → Prop) (B : String → S → State → Prop) (A : Nat → Prop) : String → State → State → Prop := fun E st t => ∃ u : S, px u ∧ B E u t ∧ va_F A st t
section Runs
variable {p : Program} {l : Launch} {e : Env} {R : Room} {s : State} {m : MethodId} {args : Array Value} {below : List Frame} {meth : Method} {c : Code} {H : Heap} {locs : List Loc} {cells slots : Nat}
variable {y : MethodName} {bytes cc : ByteArray} {maxL nL mc ms n index : Nat} {ret : Option FieldType} {ws : List Cond} {rm : Room} {Pc : Array Value → State → Prop} {Qc : Array Value → State → Outcome → State → Prop} {XC : String → State → State → Prop} {free : Addr → Prop} {Ts : List Cond} {own C : String} {b : Addr} {As rest : List Value} {g : JFrame}
theorem vx_callBack (cb : CallB R s args own index y bytes maxL ret ws rm mc ms n) (hM : vx_Met l y ws rm Pc Qc XC mc ms free) (hbl : FrameBlind Pc) : vx_Back l R p e below s args y 3 8 (PreOf R mc ms Pc) (PostOf Qc mc ms free) (vx_Post XC mc ms free) := by
  obtain ⟨hrc, hrs, hfr, hlo, hws, hcw, -, hini, -⟩ := cb
  exact vx_back (bytes := bytes) (maxL := maxL) (ret := ret) hM hbl hrc hrs hfr hlo hws hcw (fun a' U hW => word_at hW (Or.inl (by first | rfl | simp [Cond.onTables, Cond.keeps, Cond.steady])) hini)
theorem vx_runV (S : CallFix p m c cc nL s args Ts own) (hM : vx_Met l y ws rm Pc Qc XC mc ms free) (cw : CallW R s args own C index y bytes maxL ret ws rm mc ms n) (hp : PreV s H C b Pc As)
    (hg : g.method = m) (hn : As.length = n) (hsize : g.locals.size = nL) (hstack : g.stack = As.reverse ++ .ref b :: rest) (hW : 2 * g.monitorRoom + (rest.map fun v => v.category).sum ≤ 8) (hdg : decode cc g.pc = .ok (.invokevirtual index, 3)) (hf : cells + mc ≤ R.cells ∧ slots + ms ≤ R.slots) :
    vx_Run p l e R s m args below meth c H locs cells slots mc ms g rest (Qc (Value.ref b :: As).toArray) XC free := by
  have hK : vx_Back l R p e below s args y 3 8 (PreOf R mc ms Pc) (PostOf Qc mc ms free) (vx_Post XC mc ms free) := vx_callBack cw.1 hM hp.1
  obtain ⟨⟨-, -, -, -, -, -, hcode, -, hy, hlen, hl⟩, hin, hse⟩ := cw
  obtain ⟨hx, hb, hml, ho, -⟩ := S
  obtain ⟨-, ⟨cellB, hcB, hoB, hclB⟩, hPc⟩ := hp
  intro T hT X
  rcases vx_callV X hx (C := C) (bytes := bytes) (maxL := maxL) (ret := ret) ho hl hin hse hcode hy hK (by rw [hT]; exact hcB) hoB hclB hg (hsize.trans hml.symm) (argsL := As) (rest := rest) (fun sig h => hn.trans (hlen sig h)) hstack hW (by rw [hb]; exact hdg)
    (fun vm₁ hW₁ => ⟨hf.1, hf.2, hPc (T.setVm vm₁) hT hW₁⟩) with ⟨v, vm₁, ⟨U', l2, c2, s2⟩, hW₁, X', ⟨g', mk, t, L, e1, e2, hq, h1, hL, h2, h3⟩, st⟩ | ⟨q, vm₁, ⟨U', l2, c2, s2⟩, hW₁, X', ⟨g', mk, t, L, E, ce, e1, e2, hq, hce, hcv, hcl, h1, hL, h2, h3⟩, st⟩
  · dsimp only [Pt.U, Pt.locs, Pt.cells, Pt.slots] at X' e1 e2 h1 h2 h3 st
    subst h1; subst h2; subst h3
    exact Or.inl ⟨v, (T.setVm vm₁).calling g' mk (Value.ref b :: As).toArray, t, U', L, hT, X', hL, e1, e2, hq, st⟩
  · dsimp only [Pt.U, Pt.locs, Pt.cells, Pt.slots] at X' e1 e2 h1 h2 h3 st hcl
    subst h1; subst h2; subst h3
    exact Or.inr ⟨q, (T.setVm vm₁).calling g' mk (Value.ref b :: As).toArray, t, U', L, E, ce, hT, X', hL, e1, e2, hq, hce, hcv, vx_cls hW₁ hcl, st⟩
theorem vx_runS (S : CallFix p m c cc nL s args Ts own) (hM : vx_Met l y ws rm Pc Qc XC mc ms free) (cw : CallB R s args own index y bytes maxL ret ws rm mc ms n ∧ (Cond.static y).before args s = true) (hp : PreS s H Pc As)
    (hg : g.method = m) (hn : As.length = n) (hsize : g.locals.size = nL) (hstack : g.stack = As.reverse ++ rest) (hW : 2 * g.monitorRoom + (rest.map fun v => v.category).sum ≤ 8) (hdg : decode cc g.pc = .ok (.invokestatic index, 3)) (hf : cells + mc ≤ R.cells ∧ slots + ms ≤ R.slots) :
    vx_Run p l e R s m args below meth c H locs cells slots mc ms g rest (Qc As.toArray) XC free := by
  have hK : vx_Back l R p e below s args y 3 8 (PreOf R mc ms Pc) (PostOf Qc mc ms free) (vx_Post XC mc ms free) := vx_callBack cw.1 hM hp.1
  obtain ⟨⟨-, -, -, -, -, -, hcode, hini, hy, hlen, hl⟩, hstt⟩ := cw
  obtain ⟨hx, hb, hml, ho, -⟩ := S
  intro T hT X
  rcases vx_callS X hx (bytes := bytes) (maxL := maxL) (ret := ret) ho hl hstt hini hcode hy hK hg (hsize.trans hml.symm) (argsL := As) (rest := rest) (fun sig h => hn.trans (hlen sig h)) hstack hW (by rw [hb]; exact hdg)
    (fun vm₁ hW₁ => ⟨hf.1, hf.2, hp.2 (T.setVm vm₁) hT hW₁⟩) with ⟨v, vm₁, ⟨U', l2, c2, s2⟩, hW₁, X', ⟨g', mk, t, L, e1, e2, hq, h1, hL, h2, h3⟩, st⟩ | ⟨q, vm₁, ⟨U', l2, c2, s2⟩, hW₁, X', ⟨g', mk, t, L, E, ce, e1, e2, hq, hce, hcv, hcl, h1, hL, h2, h3⟩, st⟩
  · dsimp only [Pt.U, Pt.locs, Pt.cells, Pt.slots] at X' e1 e2 h1 h2 h3 st
    subst h1; subst h2; subst h3
    exact Or.inl ⟨v, (T.setVm vm₁).calling g' mk As.toArray, t, U', L, hT, X', hL, e1, e2, hq, st⟩
  · dsimp only [Pt.U, Pt.locs, Pt.cells, Pt.slots] at X' e1 e2 h1 h2 h3 st hcl
    subst h1; subst h2; subst h3
    exact Or.inr ⟨q, (T.setVm vm₁).calling g' mk As.toArray, t, U', L, E, ce, hT, X', hL, e1, e2, hq, hce, hcv, vx_cls hW₁ hcl, st⟩
end Runs
section Rows
variable {p : Program} {l : Launch} {e : Env} {R : Room} {s : State} {m : MethodId} {args : Array Value} {below : List Frame} {meth : Method} {c : Code} {H : Heap} {locs : List Loc} {cells slots : Nat} {Q : State → Prop}
variable {mc ms : Nat} {free : Addr → Prop} {A0 A1 : Nat → Prop} {H0 : Heap} {a : Array Value} {pc : Nat} {ls : Array Slot} {st0 rest : List Value}
theorem vx_keep {st₀ t T' : State} {L : List Loc} (h0 : st₀.heap = H) (e1 : T'.heap = t.heap) (hS : va_S A0 H0 H locs) (hA : ∀ q, q < H.size → A1 q → A0 q) (hf : ∀ q, free q → A0 q) (hL : ∀ q ∈ L, free q.base) (hF : va_F A1 st₀ t) :
    H.size ≤ T'.heap.size ∧ (∀ q : Nat, q < H.size → ¬ A1 q → T'.heap[q]? = H[q]?) ∧ va_S A0 H0 T'.heap (locs ++ L) := by
  obtain ⟨hz, hk⟩ := hF
  rw [h0] at hz hk
  exact ⟨by rw [e1]; exact hz, fun q h1 h2 => by rw [e1]; exact hk q h1 h2,
    ⟨Nat.le_trans hS.1 (by rw [e1]; exact hz), fun q h1 h2 => by rw [e1, hk q (Nat.lt_of_lt_of_le h1 hS.1) (fun z => h2 (hA q (Nat.lt_of_lt_of_le h1 hS.1) z))]; exact hS.2.1 q h1 h2, fun q hq => by
      rcases List.mem_append.mp hq with h | h
      · exact hS.2.2 q h
      · exact hf _ (hL q h)⟩⟩
theorem vx_calli {S SX : Type} {post : Int32 → S → Prop} {px : SX → Prop} {B : S → State → Prop} {BX : String → SX → State → Prop} {AX : Nat → Prop} (hr : vx_Run p l e R s m args below meth c H locs cells slots mc ms (F0 m pc ls st0) rest (va_Qi post B A1 a) (vx_X px BX AX) free) (hS : va_S A0 H0 H locs) (hA : ∀ q, q < H.size → A1 q → A0 q) (hf : ∀ q, free q → A0 q) (hAX : ∀ q, q < H.size → AX q → A0 q)
    (kx : ∀ (E : String) (ce : Cell) (q9 : Addr) (u : SX) (t : State) (H1 : Heap) (locs1 : List Loc), t.heap = H1 → s.vm.Alike t.vm → px u → BX E u t → H.size ≤ H1.size → (∀ q : Nat, q < H.size → ¬ AX q → H1[q]? = H[q]?) → va_S A0 H0 H1 locs1 → H1[q9]? = some ce → ce.vm = .none → s.vm.findClass E = some ce.cls → vx_W p l e R s m args below meth c H1 locs1 (cells + mc) (slots + ms) Q (F0 m pc ls rest) q9)
    (kk : ∀ (r : Int32) (u : S) (t : State) (H1 : Heap) (locs1 : List Loc), t.heap = H1 → s.vm.Alike t.vm → post r u → B u t → H.size ≤ H1.size → (∀ q : Nat, q < H.size → ¬ A1 q → H1[q]? = H[q]?) → va_S A0 H0 H1 locs1 → W p l e R s m args below meth c H1 locs1 (cells + mc) (slots + ms) Q (F0 m (pc + 3) ls (.int r :: rest))) : W p l e R s m args below meth c H locs cells slots Q (F0 m pc ls st0) := by
  intro T hT X
  rcases hr T hT X with ⟨v, st₀, t, T', L, h0, X', hL, e1, e2, ⟨⟨r, u, hv, hp, hb⟩, hF⟩, st⟩ | ⟨q, st₀, t, T', L, E, ce, h0, X', hL, e1, e2, ⟨u, hp, hb, hF⟩, hce, hcv, hcl, st⟩
  · cases hv
    obtain ⟨k1, k2, k3⟩ := vx_keep h0 e1 hS hA hf hL hF
    obtain ⟨t2, a1, b1⟩ := kk r u t T'.heap (locs ++ L) e1.symm (by rw [← e2]; exact X'.warmed.alike) hp hb k1 k2 k3 T' rfl X'
    exact ⟨t2, st t2 a1, b1⟩
  · obtain ⟨k1, k2, k3⟩ := vx_keep h0 e1 hS hAX hf hL hF
    obtain ⟨t2, a1, b1⟩ := kx E ce q u t T'.heap (locs ++ L) e1.symm (by rw [← e2]; exact X'.warmed.alike) hp hb k1 k2 k3 (by rw [e1]; exact hce) hcv hcl T' rfl X'
    exact ⟨t2, st.trans a1, b1⟩
theorem vx_calll {S SX : Type} {post : Int64 → S → Prop} {px : SX → Prop} {B : S → State → Prop} {BX : String → SX → State → Prop} {AX : Nat → Prop} (hr : vx_Run p l e R s m args below meth c H locs cells slots mc ms (F0 m pc ls st0) rest (va_Ql post B A1 a) (vx_X px BX AX) free) (hS : va_S A0 H0 H locs) (hA : ∀ q, q < H.size → A1 q → A0 q) (hf : ∀ q, free q → A0 q) (hAX : ∀ q, q < H.size → AX q → A0 q)
    (kx : ∀ (E : String) (ce : Cell) (q9 : Addr) (u : SX) (t : State) (H1 : Heap) (locs1 : List Loc), t.heap = H1 → s.vm.Alike t.vm → px u → BX E u t → H.size ≤ H1.size → (∀ q : Nat, q < H.size → ¬ AX q → H1[q]? = H[q]?) → va_S A0 H0 H1 locs1 → H1[q9]? = some ce → ce.vm = .none → s.vm.findClass E = some ce.cls → vx_W p l e R s m args below meth c H1 locs1 (cells + mc) (slots + ms) Q (F0 m pc ls rest) q9)
    (kk : ∀ (r : Int64) (u : S) (t : State) (H1 : Heap) (locs1 : List Loc), t.heap = H1 → s.vm.Alike t.vm → post r u → B u t → H.size ≤ H1.size → (∀ q : Nat, q < H.size → ¬ A1 q → H1[q]? = H[q]?) → va_S A0 H0 H1 locs1 → W p l e R s m args below meth c H1 locs1 (cells + mc) (slots + ms) Q (F0 m (pc + 3) ls (.long r :: rest))) : W p l e R s m args below meth c H locs cells slots Q (F0 m pc ls st0) := by
  intro T hT X
  rcases hr T hT X with ⟨v, st₀, t, T', L, h0, X', hL, e1, e2, ⟨⟨r, u, hv, hp, hb⟩, hF⟩, st⟩ | ⟨q, st₀, t, T', L, E, ce, h0, X', hL, e1, e2, ⟨u, hp, hb, hF⟩, hce, hcv, hcl, st⟩
  · cases hv
    obtain ⟨k1, k2, k3⟩ := vx_keep h0 e1 hS hA hf hL hF
    obtain ⟨t2, a1, b1⟩ := kk r u t T'.heap (locs ++ L) e1.symm (by rw [← e2]; exact X'.warmed.alike) hp hb k1 k2 k3 T' rfl X'
    exact ⟨t2, st t2 a1, b1⟩
  · obtain ⟨k1, k2, k3⟩ := vx_keep h0 e1 hS hAX hf hL hF
    obtain ⟨t2, a1, b1⟩ := kx E ce q u t T'.heap (locs ++ L) e1.symm (by rw [← e2]; exact X'.warmed.alike) hp hb k1 k2 k3 (by rw [e1]; exact hce) hcv hcl T' rfl X'
    exact ⟨t2, st.trans a1, b1⟩
theorem vx_callf {S SX : Type} {post : UInt32 → S → Prop} {px : SX → Prop} {B : S → State → Prop} {BX : String → SX → State → Prop} {AX : Nat → Prop} (hr : vx_Run p l e R s m args below meth c H locs cells slots mc ms (F0 m pc ls st0) rest (va_Qf post B A1 a) (vx_X px BX AX) free) (hS : va_S A0 H0 H locs) (hA : ∀ q, q < H.size → A1 q → A0 q) (hf : ∀ q, free q → A0 q) (hAX : ∀ q, q < H.size → AX q → A0 q)
    (kx : ∀ (E : String) (ce : Cell) (q9 : Addr) (u : SX) (t : State) (H1 : Heap) (locs1 : List Loc), t.heap = H1 → s.vm.Alike t.vm → px u → BX E u t → H.size ≤ H1.size → (∀ q : Nat, q < H.size → ¬ AX q → H1[q]? = H[q]?) → va_S A0 H0 H1 locs1 → H1[q9]? = some ce → ce.vm = .none → s.vm.findClass E = some ce.cls → vx_W p l e R s m args below meth c H1 locs1 (cells + mc) (slots + ms) Q (F0 m pc ls rest) q9)
    (kk : ∀ (r : UInt32) (u : S) (t : State) (H1 : Heap) (locs1 : List Loc), t.heap = H1 → s.vm.Alike t.vm → post r u → B u t → H.size ≤ H1.size → (∀ q : Nat, q < H.size → ¬ A1 q → H1[q]? = H[q]?) → va_S A0 H0 H1 locs1 → W p l e R s m args below meth c H1 locs1 (cells + mc) (slots + ms) Q (F0 m (pc + 3) ls (.float r :: rest))) : W p l e R s m args below meth c H locs cells slots Q (F0 m pc ls st0) := by
  intro T hT X
  rcases hr T hT X with ⟨v, st₀, t, T', L, h0, X', hL, e1, e2, ⟨⟨r, u, hv, hp, hb⟩, hF⟩, st⟩ | ⟨q, st₀, t, T', L, E, ce, h0, X', hL, e1, e2, ⟨u, hp, hb, hF⟩, hce, hcv, hcl, st⟩
  · cases hv
    obtain ⟨k1, k2, k3⟩ := vx_keep h0 e1 hS hA hf hL hF
    obtain ⟨t2, a1, b1⟩ := kk r u t T'.heap (locs ++ L) e1.symm (by rw [← e2]; exact X'.warmed.alike) hp hb k1 k2 k3 T' rfl X'
    exact ⟨t2, st t2 a1, b1⟩
  · obtain ⟨k1, k2, k3⟩ := vx_keep h0 e1 hS hAX hf hL hF
    obtain ⟨t2, a1, b1⟩ := kx E ce q u t T'.heap (locs ++ L) e1.symm (by rw [← e2]; exact X'.warmed.alike) hp hb k1 k2 k3 (by rw [e1]; exact hce) hcv hcl T' rfl X'
    exact ⟨t2, st.trans a1, b1⟩
theorem vx_calld {S SX : Type} {post : UInt64 → S → Prop} {px : SX → Prop} {B : S → State → Prop} {BX : String → SX → State → Prop} {AX : Nat → Prop} (hr : vx_Run p l e R s m args below meth c H locs cells slots mc ms (F0 m pc ls st0) rest (va_Qd post B A1 a) (vx_X px BX AX) free) (hS : va_S A0 H0 H locs) (hA : ∀ q, q < H.size → A1 q → A0 q) (hf : ∀ q, free q → A0 q) (hAX : ∀ q, q < H.size → AX q → A0 q)
    (kx : ∀ (E : String) (ce : Cell) (q9 : Addr) (u : SX) (t : State) (H1 : Heap) (locs1 : List Loc), t.heap = H1 → s.vm.Alike t.vm → px u → BX E u t → H.size ≤ H1.size → (∀ q : Nat, q < H.size → ¬ AX q → H1[q]? = H[q]?) → va_S A0 H0 H1 locs1 → H1[q9]? = some ce → ce.vm = .none → s.vm.findClass E = some ce.cls → vx_W p l e R s m args below meth c H1 locs1 (cells + mc) (slots + ms) Q (F0 m pc ls rest) q9)
    (kk : ∀ (r : UInt64) (u : S) (t : State) (H1 : Heap) (locs1 : List Loc), t.heap = H1 → s.vm.Alike t.vm → post r u → B u t → H.size ≤ H1.size → (∀ q : Nat, q < H.size → ¬ A1 q → H1[q]? = H[q]?) → va_S A0 H0 H1 locs1 → W p l e R s m args below meth c H1 locs1 (cells + mc) (slots + ms) Q (F0 m (pc + 3) ls (.double r :: rest))) : W p l e R s m args below meth c H locs cells slots Q (F0 m pc ls st0) := by
  intro T hT X
  rcases hr T hT X with ⟨v, st₀, t, T', L, h0, X', hL, e1, e2, ⟨⟨r, u, hv, hp, hb⟩, hF⟩, st⟩ | ⟨q, st₀, t, T', L, E, ce, h0, X', hL, e1, e2, ⟨u, hp, hb, hF⟩, hce, hcv, hcl, st⟩
  · cases hv
    obtain ⟨k1, k2, k3⟩ := vx_keep h0 e1 hS hA hf hL hF
    obtain ⟨t2, a1, b1⟩ := kk r u t T'.heap (locs ++ L) e1.symm (by rw [← e2]; exact X'.warmed.alike) hp hb k1 k2 k3 T' rfl X'
    exact ⟨t2, st t2 a1, b1⟩
  · obtain ⟨k1, k2, k3⟩ := vx_keep h0 e1 hS hAX hf hL hF
    obtain ⟨t2, a1, b1⟩ := kx E ce q u t T'.heap (locs ++ L) e1.symm (by rw [← e2]; exact X'.warmed.alike) hp hb k1 k2 k3 (by rw [e1]; exact hce) hcv hcl T' rfl X'
    exact ⟨t2, st.trans a1, b1⟩
theorem vx_callv {S SX : Type} {post : S → Prop} {px : SX → Prop} {B : S → State → Prop} {BX : String → SX → State → Prop} {AX : Nat → Prop} (hr : vx_Run p l e R s m args below meth c H locs cells slots mc ms (F0 m pc ls st0) rest (va_Qv post B A1 a) (vx_X px BX AX) free) (hS : va_S A0 H0 H locs) (hA : ∀ q, q < H.size → A1 q → A0 q) (hf : ∀ q, free q → A0 q) (hAX : ∀ q, q < H.size → AX q → A0 q)
    (kx : ∀ (E : String) (ce : Cell) (q9 : Addr) (u : SX) (t : State) (H1 : Heap) (locs1 : List Loc), t.heap = H1 → s.vm.Alike t.vm → px u → BX E u t → H.size ≤ H1.size → (∀ q : Nat, q < H.size → ¬ AX q → H1[q]? = H[q]?) → va_S A0 H0 H1 locs1 → H1[q9]? = some ce → ce.vm = .none → s.vm.findClass E = some ce.cls → vx_W p l e R s m args below meth c H1 locs1 (cells + mc) (slots + ms) Q (F0 m pc ls rest) q9)
    (kk : ∀ (u : S) (t : State) (H1 : Heap) (locs1 : List Loc), t.heap = H1 → s.vm.Alike t.vm → post u → B u t → H.size ≤ H1.size → (∀ q : Nat, q < H.size → ¬ A1 q → H1[q]? = H[q]?) → va_S A0 H0 H1 locs1 → W p l e R s m args below meth c H1 locs1 (cells + mc) (slots + ms) Q (F0 m (pc + 3) ls (rest))) : W p l e R s m args below meth c H locs cells slots Q (F0 m pc ls st0) := by
  intro T hT X
  rcases hr T hT X with ⟨v, st₀, t, T', L, h0, X', hL, e1, e2, ⟨⟨u, hv, hp, hb⟩, hF⟩, st⟩ | ⟨q, st₀, t, T', L, E, ce, h0, X', hL, e1, e2, ⟨u, hp, hb, hF⟩, hce, hcv, hcl, st⟩
  · cases hv
    obtain ⟨k1, k2, k3⟩ := vx_keep h0 e1 hS hA hf hL hF
    obtain ⟨t2, a1, b1⟩ := kk u t T'.heap (locs ++ L) e1.symm (by rw [← e2]; exact X'.warmed.alike) hp hb k1 k2 k3 T' rfl X'
    exact ⟨t2, st t2 a1, b1⟩
  · obtain ⟨k1, k2, k3⟩ := vx_keep h0 e1 hS hAX hf hL hF
    obtain ⟨t2, a1, b1⟩ := kx E ce q u t T'.heap (locs ++ L) e1.symm (by rw [← e2]; exact X'.warmed.alike) hp hb k1 k2 k3 (by rw [e1]; exact hce) hcv hcl T' rfl X'
    exact ⟨t2, st.trans a1, b1⟩
/-- caught by the row x of this method's table; the rows ahead don't take it -/
theorem vx_catch {own name : String} {E : String} {ce : Cell} {q : Addr} (hown : s.vm.findClass own = some m.cls) (pre : List ExceptionTableEntry) (x : ExceptionTableEntry) (suf : List ExceptionTableEntry) (hsplit : c.exceptionTable.toList = pre ++ x :: suf)
    (hpass : ∀ z ∈ pre, covers z pc = false ∨ (z.catchType ≠ 0 ∧ ∃ nm : String, (Cond.classLink own z.catchType nm).before args s = true ∧ va_Nc E nm s)) (hx : covers x pc = true) (h0 : x.catchType ≠ 0)
    (hlink : (Cond.classLink own x.catchType name).before args s = true) (hcast : (Cond.castable E name).before args s = true) (hcell : H[q]? = some ce) (hv : ce.vm = .none) (hcl : s.vm.findClass E = some ce.cls)
    (kk : W p l e R s m args below meth c H locs cells slots Q (F0 m x.handlerPc ls [.ref q])) : vx_W p l e R s m args below meth c H locs cells slots Q (F0 m pc ls rest) q := by
  intro T hT X
  have hpl : e.platform.magicAccessors = ({} : Platform).magicAccessors := by rw [X.admits.platform]
  obtain ⟨c3, c4, hc3, hc4, hasg⟩ := Cond.castable_spec hcast
  cases Option.some.inj (hc3.symm.trans hcl)
  obtain ⟨c5, hc5, hcl5⟩ := Cond.classLink_spec hown hlink e.platform hpl
  cases Option.some.inj (hc4.symm.trans hc5)
  obtain ⟨vm', X', st⟩ := X.thenCaughtThrough q (g := F0 m pc ls rest) rfl (Steps.refl _) (by rw [hT]; exact hcell) (by rw [hv]; rfl) (by obtain ⟨k9, h9, -⟩ := Vm.findClass_spec hcl; exact ⟨k9, h9⟩) pre x suf hsplit
    (fun z hz => by
      rcases hpass z hz with h | ⟨hz0, nm, hl1, hn1⟩
      · exact Or.inl h
      · obtain ⟨c6, hc6, hcl6⟩ := Cond.classLink_spec hown hl1 e.platform hpl
        obtain ⟨a8, b8, h1, h2, h3⟩ := hn1
        cases Option.some.inj (h1.symm.trans hcl)
        cases Option.some.inj (h2.symm.trans hc6)
        exact Or.inr ⟨hz0, _, hcl6, h3⟩) hx (Or.inr ⟨h0, c4, hcl5, hasg⟩)
  obtain ⟨t, a1, b1⟩ := kk (T.setVm vm') hT X'
  exact ⟨t, st.trans a1, b1⟩
end Rows
section Ends
variable {p : Program} {l : Launch} {e : Env} {R : Room} {s : State} {m : MethodId} {args : Array Value} {below : List Frame} {meth : Method} {c : Code} {H : Heap} {locs : List Loc} {cells slots : Nat} {Q : State → Prop}
variable {mc ms : Nat} {free : Addr → Prop} {A0 A1 : Nat → Prop} {H0 : Heap} {a : Array Value} {ls : Array Slot} {st0 rest : List Value}
variable {Qc : Array Value → State → Outcome → State → Prop} {XC : String → State → State → Prop}
/-- what a body that may throw owes at its end -/
def vx_MQ (below : List Frame) (Qc : Array Value → State → Outcome → State → Prop) (XC : String → State → State → Prop) (a : Array Value) (s : State) (mc ms : Nat) (free : Addr → Prop) : State → Prop := fun t =>
  ∃ o, t.status = .running ∧ Ended t below o ∧ vx_Q Qc XC mc ms free a s o t
theorem vx_ret {g : JFrame} {mc ms : Nat} (k : W p l e R s m args below meth c H locs cells slots (MQ below Qc args s mc ms free) g) : W p l e R s m args below meth c H locs cells slots (vx_MQ below Qc XC args s mc ms free) g := by
  intro T hT X
  obtain ⟨t, a1, o, b1, b2, b3, b4⟩ := k T hT X
  exact ⟨t, a1, o, b1, b2, Or.inl ⟨b3, b4⟩⟩
/-- not caught here: it goes on to the caller -/
theorem vx_widen {g : JFrame} {q : Addr} {k n : Nat} (h1 : cells ≤ k) (h2 : slots ≤ n) (kk : vx_W p l e R s m args below meth c H locs k n Q g q) : vx_W p l e R s m args below meth c H locs cells slots Q g q := fun T hT X => kk T hT (stand_widen X h1 h2)
theorem vx_out {pc : Nat} {E : String} {ce : Cell} {q : Addr} {mc ms : Nat} (hout : ∀ x ∈ c.exceptionTable.toList, covers x pc = false) (hlocks : meth.locks = false) (hcell : H[q]? = some ce) (hv : ce.vm = .none) (hcl : s.vm.findClass E = some ce.cls)
    (hx : ∀ t : State, t.heap = H → s.vm.Alike t.vm → XC E s t) (hf : ∀ z ∈ locs, free z.base) (hc : cells ≤ mc) (hs : slots ≤ ms) :
    vx_W p l e R s m args below meth c H locs cells slots (vx_MQ below Qc XC args s mc ms free) (F0 m pc ls rest) q := by
  intro T hT X
  obtain ⟨st1, hrun, hend, hW, hsm⟩ := X.leaveThrown q (g := F0 m pc ls rest) rfl rfl rfl hout hlocks
  have hcell9 : (T.setFrames (.throwing q :: below)).heap[q]? = some ce := by
    show T.heap[q]? = some ce
    rw [hT]; exact hcell
  exact ⟨_, st1, .threw q, hrun, hend, Or.inr ⟨q, rfl, E, ce, locs, hx _ hT hW.alike, hcell9, hv, hcl, hW, hsm.mono hc hs, hf⟩⟩
theorem vx_frame {U : State} {k n : Nat} (h : s.sameButNew ({ U with vm := s.vm } : State) locs k n) : s.heap.size ≤ U.heap.size ∧ ∀ q : Nat, q < s.heap.size → (∀ z ∈ locs, z.base ≠ q) → U.heap[q]? = s.heap[q]? := by
  obtain ⟨-, h2, -, -, -, h6⟩ := h
  refine ⟨h2, fun q hq hz => ?_⟩
  obtain ⟨c9, e1, e2, e3, e4⟩ := h6 q _ (Array.getElem?_eq_getElem hq)
  have hs : c9.slots = (s.heap[q]).slots := Array.ext_getElem? fun i => e4 i fun hm => hz _ hm rfl
  have h9 : c9 = s.heap[q] := by
    rw [hs] at e2
    exact e2
  have e5 : U.heap[q]? = some c9 := e1
  rw [e5, h9, Array.getElem?_eq_getElem hq]
/-- the words of a throw but the four that speak of the heap -/
def vx_no (w : Cond) : Bool := decide (w ≠ .isRef (.static Bundle.tN "UNASSIGNED_STACK" Bundle.steD)) && decide (w ≠ .isRef (.static Bundle.tN "SUPPRESSED_SENTINEL" Bundle.listD)) && decide (w ≠ .laysStatic Bundle.tN "UNASSIGNED_STACK" Bundle.steD) && decide (w ≠ .laysStatic Bundle.tN "SUPPRESSED_SENTINEL" Bundle.listD)
def vx_at0 (own : String) (ic : Nat) (X : String) (names : List String) : List Cond := (Bundle.ownAtoms0 own ic X names).filter vx_no
def vx_atS (own : String) (ic : Nat) (X : String) (names : List String) : List Cond := (Bundle.ownAtoms own ic X names).filter vx_no
/-- a word that the tables alone decide, or a good one -/
def vx_ot (w : Cond) : Bool := w.onTables || goodWord w
theorem vx_ot_at {args a' : Array Value} {s U : State} {w : Cond} (hW : s.WarmedH U.vm) (hvm : s.vm = U.vm) (hg : vx_ot w = true) (h : w.before args s = true) : w.before a' U = true := by
  simp only [vx_ot, Bool.or_eq_true] at hg
  rcases hg with hg | hg
  · exact va_tabs hg hvm h
  · exact word_at hW (good_of_word hg) h
/-- a list's words: the good ones out of the method's own list, the others by premises of their own -/
theorem vx_hat {args : Array Value} {s : State} {L B : List Cond} (h1 : ∀ w ∈ L.filter goodWord, w.before args s = true) (h2 : ∀ w ∈ L.filter (fun w => !goodWord w), w ∈ B) (h3 : ∀ w ∈ B, w.before args s = true) : ∀ w ∈ L, w.before args s = true := by
  intro w hw
  by_cases g : goodWord w = true
  · exact h1 w (List.mem_filter.mpr ⟨hw, g⟩)
  · refine h3 w (h2 w (List.mem_filter.mpr ⟨hw, ?_⟩))
    show (!goodWord w) = true
    cases hgw : goodWord w
    · rfl
    · exact absurd hgw g
theorem vx_c {args : Array Value} {s : State} {w : Cond} {B : List Cond} (h : w.before args s = true) (t : ∀ w ∈ B, w.before args s = true) : ∀ w' ∈ w :: B, w'.before args s = true := fun w' h' => (List.mem_cons.mp h').elim (fun e => by rw [e]; exact h) (t w')
theorem vx_n {args : Array Value} {s : State} : ∀ w ∈ ([] : List Cond), w.before args s = true := fun _ h => nomatch h
theorem vx_own {args : Array Value} {s : State} {L : List Cond} (h1 : ∀ w ∈ L.filter vx_no, w.before args s = true)
    (hU : (Cond.isRef (.static Bundle.tN "UNASSIGNED_STACK" Bundle.steD)).before args s = true) (hN : (Cond.isRef (.static Bundle.tN "SUPPRESSED_SENTINEL" Bundle.listD)).before args s = true)
    (lU : (Cond.laysStatic Bundle.tN "UNASSIGNED_STACK" Bundle.steD).before args s = true) (lN : (Cond.laysStatic Bundle.tN "SUPPRESSED_SENTINEL" Bundle.listD).before args s = true) : ∀ w ∈ L, w.before args s = true := by
  intro w hw
  by_cases e1 : w = .isRef (.static Bundle.tN "UNASSIGNED_STACK" Bundle.steD)
  · rw [e1]; exact hU
  · by_cases e2 : w = .isRef (.static Bundle.tN "SUPPRESSED_SENTINEL" Bundle.listD)
    · rw [e2]; exact hN
    · by_cases e3 : w = .laysStatic Bundle.tN "UNASSIGNED_STACK" Bundle.steD
      · rw [e3]; exact lU
      · by_cases e4 : w = .laysStatic Bundle.tN "SUPPRESSED_SENTINEL" Bundle.listD
        · rw [e4]; exact lN
        · exact h1 w (List.mem_filter.mpr ⟨hw, by unfold vx_no; rw [decide_eq_true e1, decide_eq_true e2, decide_eq_true e3, decide_eq_true e4]; rfl⟩)
/-- where a static field lies, its class's statics cell in H -/
def vx_L (C n d : String) (A : Nat → Prop) (U : State) (H : Heap) : Prop := ∃ (c : ClassId) (k : Class) (i : Nat) (f : Field) (a : Nat) (cell : Cell), U.vm.findClass C = some c ∧ U.fieldFound? C n d = some (c, k, i, f) ∧ f.isStatic = true ∧ k.statics = some a ∧ H[a]? = some cell ∧ cell.vm.isStatics = true ∧ cell.cls = c ∧ f.slot < cell.slots.size ∧ k.staticTypes[f.slot]? = some f.type ∧ ¬ A a
theorem vx_L.moved {C n d : String} {A : Nat → Prop} {u U : State} {H : Heap} (hvm : u.vm.Alike U.vm) (h : vx_L C n d A u H) : vx_L C n d A U H := by
  obtain ⟨c, k, i, f, a, cell, h1, h2, h3, h4, h5, h6, h7, h8, h9, h10⟩ := h
  obtain ⟨k', hi', he⟩ := State.fieldFound?_setVm hvm h2
  exact ⟨c, k', i, f, a, cell, by rw [hvm.findClass]; exact h1, hi', h3, by rw [he]; exact h4, h5, h6, h7, h8, by rw [he]; exact h9, h10⟩
theorem vx_L.kept {C n d : String} {A : Nat → Prop} {U : State} {H H1 : Heap} (h : vx_L C n d A U H) (hq : ∀ a : Nat, a < H.size → ¬ A a → H1[a]? = H[a]?) : vx_L C n d A U H1 := by
  obtain ⟨c, k, i, f, a, cell, h1, h2, h3, h4, h5, h6, h7, h8, h9, h10⟩ := h
  exact ⟨c, k, i, f, a, cell, h1, h2, h3, h4, by rw [hq a (Array.getElem?_eq_some_iff.mp h5).1 h10]; exact h5, h6, h7, h8, h9, h10⟩
theorem vx_L.narrow {C n d : String} {A B : Nat → Prop} {U : State} {H : Heap} (h : vx_L C n d A U H) (hAB : ∀ q, B q → A q) : vx_L C n d B U H := by
  obtain ⟨c, k, i, f, a, cell, h1, h2, h3, h4, h5, h6, h7, h8, h9, h10⟩ := h
  exact ⟨c, k, i, f, a, cell, h1, h2, h3, h4, h5, h6, h7, h8, h9, fun z => h10 (hAB _ z)⟩
theorem vx_L.word {C n d : String} {A : Nat → Prop} {s : State} {args : Array Value} (h : vx_L C n d A s s.heap) : (Cond.laysStatic C n d).before args s = true := by
  obtain ⟨c, k, i, f, a, cell, h1, h2, h3, h4, h5, h6, h7, h8, h9, -⟩ := h
  show (Cond.laysStatic C n d).holds args s none s [] = true
  exact Cond.laysStatic_of h1 h2 h3 h4 h5 h6 h7 h8 h9
/-- .. and what it holds: null or some reference -/
def vx_Zq (C n d : String) (A : Nat → Prop) (U : State) (H : Heap) : Prop := va_Zq C n d A U H ∧ vx_L C n d A U H
theorem vx_Zq.moved {C n d : String} {A : Nat → Prop} {u U : State} {H : Heap} (hvm : u.vm.Alike U.vm) (h : vx_Zq C n d A u H) : vx_Zq C n d A U H := ⟨va_Zq.moved hvm h.1, vx_L.moved hvm h.2⟩
theorem vx_Zq.kept {C n d : String} {A : Nat → Prop} {U : State} {H H1 : Heap} (h : vx_Zq C n d A U H) (hq : ∀ a : Nat, a < H.size → ¬ A a → H1[a]? = H[a]?) : vx_Zq C n d A U H1 := ⟨va_Zq.kept h.1 hq, vx_L.kept h.2 hq⟩
theorem vx_Zq.narrow {C n d : String} {A B : Nat → Prop} {U : State} {H : Heap} (h : vx_Zq C n d A U H) (hAB : ∀ q, B q → A q) : vx_Zq C n d B U H := ⟨va_Zq.narrow h.1 hAB, vx_L.narrow h.2 hAB⟩
theorem vx_Zqof {args : Array Value} {s : State} {C n d : String} {A : Nat → Prop} (hl : (Cond.laysStatic C n d).before args s = true) (hini : (Cond.initialized C).before args s = true) (h : (Cond.isRef (.static C n d)).before args s = true) (hA : ∀ a : Nat, a < s.heap.size → ¬ A a) : vx_Zq C n d A s s.heap := by
  refine ⟨va_Zqof hl hini h hA, ?_⟩
  obtain ⟨c, k, i, f, a, cell, h1, h2, h3, h4, h5, h6, h7, h8, h9⟩ := Cond.laysStatic_spec hl
  exact ⟨c, k, i, f, a, cell, h1, h2, h3, h4, h5, h6, h7, h8, h9, hA a (Array.getElem?_eq_some_iff.mp h5).1⟩
theorem vx_isRef {C n d : String} {v : Value} {A : Nat → Prop} {s : State} {args : Array Value} (h : va_Z C n d v A s s.heap) (hv : v.isRef = true) : (Cond.isRef (.static C n d)).before args s = true := by
  obtain ⟨cf, kf, fi, f, a, cell, h1, h2, h3, h4, h5, h6, h7, -⟩ := h
  have he : (Term.static C n d).eval args s none [] s = some v := by
    simp [Term.eval, State.fieldNamed?, h1, h2, h4, h5, h6, h7]
  simp only [Cond.before, Cond.holds, Cond.value, he]
  cases v <;> simp_all [Value.isRef]
theorem vx_isRefq {C n d : String} {A : Nat → Prop} {s : State} {args : Array Value} (h : va_Zq C n d A s s.heap) : (Cond.isRef (.static C n d)).before args s = true := by
  rcases h with h | ⟨t, h⟩
  · exact vx_isRef h rfl
  · exact vx_isRef h rfl
/-- the same frame, seen from here: as if the method were called anew in this heap -/
theorem vx_rebase {T : State} (X : Stand p l e R s m args below meth c T locs cells slots) {R' : Room} (hf : R'.frames ≤ R.frames) (hl : R'.locals ≤ R.locals) (hc : cells + R'.cells ≤ R.cells) (hs : slots + R'.slots ≤ R.slots) :
    Stand p l e R' ((T.setVm s.vm).setFrames (.invoking m args :: below)) m args below meth c T [] 0 0 := by
  have htop : (T.setVm s.vm).topJava?.isSome := X.here.top
  have hF : ((T.setVm s.vm).setFrames (.invoking m args :: below)).frames = .invoking m args :: below := State.frames_setFrames _ (State.cur_lt_of_top htop)
  obtain ⟨g₀, hg0⟩ := Option.isSome_iff_exists.mp htop
  obtain ⟨r, hr⟩ := State.topJava?_eq_some.mp hg0
  have hl9 : e.platform.stackLimits (T.setVm s.vm).me = e.platform.stackLimits s.me := X.limits
  have hb9 : (T.setVm s.vm).me.stackBytes = s.me.stackBytes := X.bytes
  refine ⟨X.admits, X.cas, X.clock, hF, ?_, X.hears, X.method, X.code, X.here, X.tail, X.warmed, ?_, ?_, ?_⟩
  · have h := X.room
    have hU : ((T.setVm s.vm).setFrames (.invoking m args :: below)).localsInUse = s.localsInUse := by
      rw [State.localsInUse_invoking hF (meth := meth) (c := c) X.method X.code, State.localsInUse_invoking X.frames X.method X.code]
    simp only [State.hasRoom, Bool.and_eq_true, decide_eq_true_eq] at h ⊢
    obtain ⟨⟨⟨⟨h1, h2, h3, h4, h5, h6⟩, h7⟩, h8⟩, h9⟩ := h
    rw [X.frames, List.length_cons] at h2 h3
    have q1 := X.heapSize
    have q2 := X.used
    simp only [hF, hU, List.length_cons, State.stackLimits_setFrames, State.stackBytes_setFrames, hl9, hb9]
    refine ⟨⟨⟨⟨by omega, by omega, by omega, by omega, by omega, h6⟩, ?_⟩, ?_⟩, X.book⟩
    · show T.heap.size + R'.cells ≤ e.platform.maxCells
      omega
    · show T.slotsUsed + R'.slots ≤ e.platform.maxSlots
      omega
  · rw [State.stackLimits_setFrames]; rfl
  · rw [State.stackBytes_setFrames]; rfl
  · refine ⟨?_, Nat.le_refl _, Nat.le_refl _, ?_, ?_, fun a c9 h9 => ⟨c9, h9, rfl, rfl, fun _ _ => rfl⟩⟩
    · obtain ⟨t, ht, -⟩ := State.frames_cons hr
      show T.setVm s.vm = { ((T.setVm s.vm).setFrames (.invoking m args :: below)).setFrames (T.setVm s.vm).frames with heap := T.heap, slotsUsed := T.slotsUsed }
      rw [State.setFrames_setFrames, State.setFrames_self ht]
      rfl
    · show T.slotsUsed = T.slotsUsed + ((T.heap.toList.drop T.heap.size).map (·.slots.size)).sum
      rw [List.drop_eq_nil_of_le (Nat.le_of_eq Array.length_toList)]
      rfl
    · show ((T.heap.toList.drop T.heap.size).map (·.slots.size)).sum ≤ 0
      rw [List.drop_eq_nil_of_le (Nat.le_of_eq Array.length_toList)]
      exact Nat.le_refl _
/-- 'throw new E()': new; dup; invokespecial; athrow -/
theorem vx_throw0 {cc : ByteArray} {pc : Nat} (hexec : p.tables.exec = Jvm.exec) (hb : c.code = cc) (hl : l.stackTraces = false) {own cls : String} {names : List String} {ik ic mc ms : Nat} {A : Nat → Prop}
    (hown : s.vm.findClass own = some m.cls) (hcls : Bundle.fit cls = true) (hnames : ∀ n ∈ names, Bundle.fit n = true)
    (hk : (Cond.classLink own ik cls).before args s = true) (hini : (Cond.initialized cls).before args s = true) (hat : ∀ w ∈ vx_at0 own ic cls names, w.before args s = true)
    (hgood : ∀ w ∈ Cond.classLink own ik cls :: Cond.initialized cls :: vx_at0 own ic cls names, vx_ot w = true)
    (hU : vx_Zq Bundle.tN "UNASSIGNED_STACK" Bundle.steD A s s.heap) (hN : vx_Zq Bundle.tN "SUPPRESSED_SENTINEL" Bundle.listD A s s.heap) (hS : va_S A s.heap H locs) (hsize : ls.size = c.maxLocals)
    (d0 : decode cc pc = .ok (.new ik, 3)) (d3 : decode cc (pc + 3) = .ok (.dup, 1)) (d4 : decode cc (pc + 4) = .ok (.invokespecial ic, 3)) (d7 : decode cc (pc + 7) = .ok (.athrow, 1))
    (hout : ∀ x ∈ c.exceptionTable.toList, covers x (pc + 7) = false)
    (hRframes : names.length + 3 < R.frames) (hRlocals : (rest.map fun v => v.category).sum + (13 * (names.length + 1) + 42) ≤ R.locals) (hRcells : cells + 1 ≤ R.cells) (hRslots : slots + 6 ≤ R.slots) (hlocks : meth.locks = false)
    (hx : ∀ t : State, s.vm.Alike t.vm → H.size ≤ t.heap.size → (∀ q : Nat, q < H.size → t.heap[q]? = H[q]?) → XC cls s t)
    (hf : ∀ z ∈ locs, free z.base) (hc : cells + 1 ≤ mc) (hs : slots + 6 ≤ ms) :
    W p l e R s m args below meth c H locs cells slots (vx_MQ below Qc XC args s mc ms free) (F0 m pc ls rest) := by
  intro T hT X
  have htr : e.platform.stackTraces = false := (show e.platform.stackTraces = l.stackTraces by rw [X.admits.platform]).trans hl
  have Y := vx_rebase X (R' := { frames := R.frames, locals := R.locals, cells := 1, slots := 6 }) (Nat.le_refl _) (Nat.le_refl _) hRcells hRslots
  obtain ⟨s', hA⟩ : ∃ z, z = (T.setVm s.vm).setFrames (.invoking m args :: below) := ⟨_, rfl⟩
  rw [← hA] at Y
  have hvm : s'.vm = s.vm := by rw [hA]; rfl
  have hhp : s'.heap = H := by rw [hA]; exact hT
  have hW0 : s.WarmedH s'.vm := by rw [hvm]; exact State.WarmedH.refl s
  have hat' : ∀ w ∈ vx_at0 own ic cls names, w.before args s' = true := fun w hw => vx_ot_at hW0 hvm.symm (hgood w (List.mem_cons_of_mem _ (List.mem_cons_of_mem _ hw))) (hat w hw)
  have hk' : (Cond.classLink own ik cls).before args s' = true := vx_ot_at hW0 hvm.symm (hgood _ List.mem_cons_self) hk
  have hini' : (Cond.initialized cls).before args s' = true := vx_ot_at hW0 hvm.symm (hgood _ (List.mem_cons_of_mem _ List.mem_cons_self)) hini
  have hU' : vx_Zq Bundle.tN "UNASSIGNED_STACK" Bundle.steD A s' s'.heap := by rw [hhp]; exact vx_Zq.moved hW0.alike (hU.kept hS.2.1)
  have hN' : vx_Zq Bundle.tN "SUPPRESSED_SENTINEL" Bundle.listD A s' s'.heap := by rw [hhp]; exact vx_Zq.moved hW0.alike (hN.kept hS.2.1)
  have h : ∀ w ∈ Bundle.ownAtoms0 own ic cls names, w.before args s' = true := vx_own hat' (vx_isRefq hU'.1) (vx_isRefq hN'.1) hU'.2.word hN'.2.word
  have hown' : s'.vm.findClass own = some m.cls := by rw [hvm]; exact hown
  have hins : (Cond.instantiable cls 6).before args s' = true := h _ (by simp [Bundle.ownAtoms0])
  obtain ⟨vm₁, cX, kX, hfX, hkX, -, -, X₁, st1⟩ := Y.newCold hexec (own := own) (C := cls) (index := ik) (n := 6) hown' hk' hins hini'
    (g := F0 m pc ls rest) rfl (by rw [hb]; exact d0) (Nat.le_refl _) (Nat.le_refl _)
  generalize hT1 : (T.setVm vm₁).pushCell { cls := cX, slots := kX.instanceTypes.map defaultValue, vm := .none } = T1 at X₁ st1
  have hcat : (Value.ref T.heap.size).category = 1 := rfl
  have hcellA : T1.heap[T.heap.size]? = some (freshCell cX kX) := by rw [← hT1]; exact State.heap_pushCell_size _ _
  have d3' : decode c.code (pc + 3) = .ok (.dup, 1) := by rw [hb]; exact d3
  obtain ⟨U, hsteps, hrun, hend, hW, hsame, ce, hce, hO⟩ := X₁.ctorThrow0 hexec htr (own := own) (cls := cls) (names := names) (ic := ic) hown' hcls hnames h (fun x hx => nomatch hx) hfX hkX hcellA (by rw [hhp, hT]; exact Nat.le_refl _)
    (g := { method := m, pc := pc + 4, locals := ls, stack := .ref T.heap.size :: .ref T.heap.size :: rest, locked := none }) rfl hsize rfl rfl (rest := rest) rfl
    (by rw [hb]; exact d4) (by rw [hb]; exact d7) hout hRframes (by simp only [List.map_cons, List.sum_cons, hcat]; omega) hlocks
  obtain ⟨f1, f2⟩ := vx_frame hsame
  rw [hhp] at f1 f2
  have hWs : s.WarmedH U.vm := State.WarmedH.trans hW0 hW
  have hcl : s.vm.findClass cls = some ce.cls := by
    have h9 := hO.cls
    rw [hvm] at h9
    exact h9
  have hall : s.sameButNew ({ U with vm := s.vm } : State) locs mc ms := by
    subst hA
    obtain ⟨e1, e2⟩ := hsame
    rw [State.setFrames_setFrames] at e1
    have h2 : (T.setVm s.vm).sameButNew ({ U with vm := s.vm } : State) [] (0 + 1) (0 + 6) := ⟨e1, e2⟩
    have h3 := X.same.trans h2
    rw [List.append_nil] at h3
    exact h3.mono hc hs
  refine ⟨U, ?_, .threw T.heap.size, hrun, hend, Or.inr ⟨T.heap.size, rfl, cls, ce, locs, hx U hWs.alike f1 (fun q hq => f2 q hq (fun z hz => nomatch hz)), hce, hO.vm, hcl, hWs, hall, hf⟩⟩
  refine st1 _ ?_
  show Steps p.tables e below (T1.setTop { method := m, pc := pc + 3, locals := ls, stack := .ref T.heap.size :: rest, locked := none }) _
  jvm_step X₁.here [X₁.here.top, hexec, d3', Value.category]
  exact hsteps
/-- 'throw new E("text")': new; dup; ldc; invokespecial; athrow -/
theorem vx_throwS {cc : ByteArray} {pc : Nat} (hexec : p.tables.exec = Jvm.exec) (hb : c.code = cc) (hl : l.stackTraces = false) {own cls text : String} {names : List String} {ik is ic mc ms sa : Nat} {A : Nat → Prop}
    (hown : s.vm.findClass own = some m.cls) (hcls : Bundle.fit cls = true) (hnames : ∀ n ∈ names, Bundle.fit n = true)
    (hk : (Cond.classLink own ik cls).before args s = true) (hini : (Cond.initialized cls).before args s = true) (hstr : vk_R own is text sa s) (hat : ∀ w ∈ vx_atS own ic cls names, w.before args s = true)
    (hgood : ∀ w ∈ Cond.classLink own ik cls :: Cond.initialized cls :: vx_atS own ic cls names, vx_ot w = true)
    (hU : vx_Zq Bundle.tN "UNASSIGNED_STACK" Bundle.steD A s s.heap) (hN : vx_Zq Bundle.tN "SUPPRESSED_SENTINEL" Bundle.listD A s s.heap) (hS : va_S A s.heap H locs) (hsize : ls.size = c.maxLocals)
    (d0 : decode cc pc = .ok (.new ik, 3)) (d3 : decode cc (pc + 3) = .ok (.dup, 1)) (d4 : decode cc (pc + 4) = .ok (.ldc is, 2)) (d6 : decode cc (pc + 6) = .ok (.invokespecial ic, 3)) (d9 : decode cc (pc + 9) = .ok (.athrow, 1))
    (hout : ∀ x ∈ c.exceptionTable.toList, covers x (pc + 9) = false)
    (hRframes : names.length + 3 < R.frames) (hRlocals : (rest.map fun v => v.category).sum + (13 * (names.length + 1) + 43) ≤ R.locals) (hRcells : cells + 1 ≤ R.cells) (hRslots : slots + 6 ≤ R.slots) (hlocks : meth.locks = false)
    (hx : ∀ t : State, s.vm.Alike t.vm → H.size ≤ t.heap.size → (∀ q : Nat, q < H.size → t.heap[q]? = H[q]?) → XC cls s t)
    (hf : ∀ z ∈ locs, free z.base) (hc : cells + 1 ≤ mc) (hs : slots + 6 ≤ ms) :
    W p l e R s m args below meth c H locs cells slots (vx_MQ below Qc XC args s mc ms free) (F0 m pc ls rest) := by
  intro T hT X
  have htr : e.platform.stackTraces = false := (show e.platform.stackTraces = l.stackTraces by rw [X.admits.platform]).trans hl
  have Y := vx_rebase X (R' := { frames := R.frames, locals := R.locals, cells := 1, slots := 6 }) (Nat.le_refl _) (Nat.le_refl _) hRcells hRslots
  obtain ⟨s', hA⟩ : ∃ z, z = (T.setVm s.vm).setFrames (.invoking m args :: below) := ⟨_, rfl⟩
  rw [← hA] at Y
  have hvm : s'.vm = s.vm := by rw [hA]; rfl
  have hhp : s'.heap = H := by rw [hA]; exact hT
  have hW0 : s.WarmedH s'.vm := by rw [hvm]; exact State.WarmedH.refl s
  have hat' : ∀ w ∈ vx_atS own ic cls names, w.before args s' = true := fun w hw => vx_ot_at hW0 hvm.symm (hgood w (List.mem_cons_of_mem _ (List.mem_cons_of_mem _ hw))) (hat w hw)
  have hk' : (Cond.classLink own ik cls).before args s' = true := vx_ot_at hW0 hvm.symm (hgood _ List.mem_cons_self) hk
  have hini' : (Cond.initialized cls).before args s' = true := vx_ot_at hW0 hvm.symm (hgood _ (List.mem_cons_of_mem _ List.mem_cons_self)) hini
  have hU' : vx_Zq Bundle.tN "UNASSIGNED_STACK" Bundle.steD A s' s'.heap := by rw [hhp]; exact vx_Zq.moved hW0.alike (hU.kept hS.2.1)
  have hN' : vx_Zq Bundle.tN "SUPPRESSED_SENTINEL" Bundle.listD A s' s'.heap := by rw [hhp]; exact vx_Zq.moved hW0.alike (hN.kept hS.2.1)
  have h : ∀ w ∈ Bundle.ownAtoms own ic cls names, w.before args s' = true := vx_own hat' (vx_isRefq hU'.1) (vx_isRefq hN'.1) hU'.2.word hN'.2.word
  have hown' : s'.vm.findClass own = some m.cls := by rw [hvm]; exact hown
  have hins : (Cond.instantiable cls 6).before args s' = true := h _ (by simp [Bundle.ownAtoms])
  obtain ⟨vm₁, cX, kX, hfX, hkX, -, -, X₁, st1⟩ := Y.newCold hexec (own := own) (C := cls) (index := ik) (n := 6) hown' hk' hins hini'
    (g := F0 m pc ls rest) rfl (by rw [hb]; exact d0) (Nat.le_refl _) (Nat.le_refl _)
  generalize hT1 : (T.setVm vm₁).pushCell { cls := cX, slots := kX.instanceTypes.map defaultValue, vm := .none } = T1 at X₁ st1
  have hcat : (Value.ref T.heap.size).category = 1 := rfl
  have hcellA : T1.heap[T.heap.size]? = some (freshCell cX kX) := by rw [← hT1]; exact State.heap_pushCell_size _ _
  have d3' : decode c.code (pc + 3) = .ok (.dup, 1) := by rw [hb]; exact d3
  have d4' : decode c.code (pc + 4) = .ok (.ldc is, 2) := by rw [hb]; exact d4
  have hstr' : vk_R own is text sa s' := vk_R.warm hW0 hstr
  obtain ⟨U, hsteps, hrun, hend, hW, hsame, ce, hce, hO⟩ := X₁.ctorThrowS hexec htr (own := own) (cls := cls) (names := names) (ic := ic) hown' hcls hnames h (fun x hx => nomatch hx) hfX hkX hcellA (by rw [hhp, hT]; exact Nat.le_refl _) (msg := .ref sa) rfl
    (g := { method := m, pc := pc + 6, locals := ls, stack := .ref sa :: .ref T.heap.size :: .ref T.heap.size :: rest, locked := none }) rfl hsize rfl rfl (rest := rest) rfl
    (by rw [hb]; exact d6) (by rw [hb]; exact d9) hout hRframes (by simp only [List.map_cons, List.sum_cons, hcat]; omega) hlocks
  obtain ⟨f1, f2⟩ := vx_frame hsame
  rw [hhp] at f1 f2
  have hWs : s.WarmedH U.vm := State.WarmedH.trans hW0 hW
  have hcl : s.vm.findClass cls = some ce.cls := by
    have h9 := hO.cls
    rw [hvm] at h9
    exact h9
  have hall : s.sameButNew ({ U with vm := s.vm } : State) locs mc ms := by
    subst hA
    obtain ⟨e1, e2⟩ := hsame
    rw [State.setFrames_setFrames] at e1
    have h2 : (T.setVm s.vm).sameButNew ({ U with vm := s.vm } : State) [] (0 + 1) (0 + 6) := ⟨e1, e2⟩
    have h3 := X.same.trans h2
    rw [List.append_nil] at h3
    exact h3.mono hc hs
  refine ⟨U, ?_, .threw T.heap.size, hrun, hend, Or.inr ⟨T.heap.size, rfl, cls, ce, locs, hx U hWs.alike f1 (fun q hq => f2 q hq (fun z hz => nomatch hz)), hce, hO.vm, hcl, hWs, hall, hf⟩⟩
  refine st1 _ ?_
  show Steps p.tables e below (T1.setTop { method := m, pc := pc + 3, locals := ls, stack := .ref T.heap.size :: rest, locked := none }) _
  jvm_step X₁.here [X₁.here.top, hexec, d3', Value.category]
  exact X₁.ldcString hexec (own := own) (text := text) (index := is) (a := sa) hown' hstr'.1 hstr'.2
    (g := { method := m, pc := pc + 4, locals := ls, stack := .ref T.heap.size :: .ref T.heap.size :: rest, locked := none }) rfl d4' _ hsteps
/-- 'throw new E("text")', the text by a wide index -/
theorem vx_throwSW {cc : ByteArray} {pc : Nat} (hexec : p.tables.exec = Jvm.exec) (hb : c.code = cc) (hl : l.stackTraces = false) {own cls text : String} {names : List String} {ik is ic mc ms sa : Nat} {A : Nat → Prop}
    (hown : s.vm.findClass own = some m.cls) (hcls : Bundle.fit cls = true) (hnames : ∀ n ∈ names, Bundle.fit n = true)
    (hk : (Cond.classLink own ik cls).before args s = true) (hini : (Cond.initialized cls).before args s = true) (hstr : vk_R own is text sa s) (hat : ∀ w ∈ vx_atS own ic cls names, w.before args s = true)
    (hgood : ∀ w ∈ Cond.classLink own ik cls :: Cond.initialized cls :: vx_atS own ic cls names, vx_ot w = true)
    (hU : vx_Zq Bundle.tN "UNASSIGNED_STACK" Bundle.steD A s s.heap) (hN : vx_Zq Bundle.tN "SUPPRESSED_SENTINEL" Bundle.listD A s s.heap) (hS : va_S A s.heap H locs) (hsize : ls.size = c.maxLocals)
    (d0 : decode cc pc = .ok (.new ik, 3)) (d3 : decode cc (pc + 3) = .ok (.dup, 1)) (d4 : decode cc (pc + 4) = .ok (.ldc_w is, 3)) (d7 : decode cc (pc + 7) = .ok (.invokespecial ic, 3)) (d10 : decode cc (pc + 10) = .ok (.athrow, 1))
    (hout : ∀ x ∈ c.exceptionTable.toList, covers x (pc + 10) = false)
    (hRframes : names.length + 3 < R.frames) (hRlocals : (rest.map fun v => v.category).sum + (13 * (names.length + 1) + 43) ≤ R.locals) (hRcells : cells + 1 ≤ R.cells) (hRslots : slots + 6 ≤ R.slots) (hlocks : meth.locks = false)
    (hx : ∀ t : State, s.vm.Alike t.vm → H.size ≤ t.heap.size → (∀ q : Nat, q < H.size → t.heap[q]? = H[q]?) → XC cls s t)
    (hf : ∀ z ∈ locs, free z.base) (hc : cells + 1 ≤ mc) (hs : slots + 6 ≤ ms) :
    W p l e R s m args below meth c H locs cells slots (vx_MQ below Qc XC args s mc ms free) (F0 m pc ls rest) := by
  intro T hT X
  have htr : e.platform.stackTraces = false := (show e.platform.stackTraces = l.stackTraces by rw [X.admits.platform]).trans hl
  have Y := vx_rebase X (R' := { frames := R.frames, locals := R.locals, cells := 1, slots := 6 }) (Nat.le_refl _) (Nat.le_refl _) hRcells hRslots
  obtain ⟨s', hA⟩ : ∃ z, z = (T.setVm s.vm).setFrames (.invoking m args :: below) := ⟨_, rfl⟩
  rw [← hA] at Y
  have hvm : s'.vm = s.vm := by rw [hA]; rfl
  have hhp : s'.heap = H := by rw [hA]; exact hT
  have hW0 : s.WarmedH s'.vm := by rw [hvm]; exact State.WarmedH.refl s
  have hat' : ∀ w ∈ vx_atS own ic cls names, w.before args s' = true := fun w hw => vx_ot_at hW0 hvm.symm (hgood w (List.mem_cons_of_mem _ (List.mem_cons_of_mem _ hw))) (hat w hw)
  have hk' : (Cond.classLink own ik cls).before args s' = true := vx_ot_at hW0 hvm.symm (hgood _ List.mem_cons_self) hk
  have hini' : (Cond.initialized cls).before args s' = true := vx_ot_at hW0 hvm.symm (hgood _ (List.mem_cons_of_mem _ List.mem_cons_self)) hini
  have hU' : vx_Zq Bundle.tN "UNASSIGNED_STACK" Bundle.steD A s' s'.heap := by rw [hhp]; exact vx_Zq.moved hW0.alike (hU.kept hS.2.1)
  have hN' : vx_Zq Bundle.tN "SUPPRESSED_SENTINEL" Bundle.listD A s' s'.heap := by rw [hhp]; exact vx_Zq.moved hW0.alike (hN.kept hS.2.1)
  have h : ∀ w ∈ Bundle.ownAtoms own ic cls names, w.before args s' = true := vx_own hat' (vx_isRefq hU'.1) (vx_isRefq hN'.1) hU'.2.word hN'.2.word
  have hown' : s'.vm.findClass own = some m.cls := by rw [hvm]; exact hown
  have hins : (Cond.instantiable cls 6).before args s' = true := h _ (by simp [Bundle.ownAtoms])
  obtain ⟨vm₁, cX, kX, hfX, hkX, -, -, X₁, st1⟩ := Y.newCold hexec (own := own) (C := cls) (index := ik) (n := 6) hown' hk' hins hini'
    (g := F0 m pc ls rest) rfl (by rw [hb]; exact d0) (Nat.le_refl _) (Nat.le_refl _)
  generalize hT1 : (T.setVm vm₁).pushCell { cls := cX, slots := kX.instanceTypes.map defaultValue, vm := .none } = T1 at X₁ st1
  have hcat : (Value.ref T.heap.size).category = 1 := rfl
  have hcellA : T1.heap[T.heap.size]? = some (freshCell cX kX) := by rw [← hT1]; exact State.heap_pushCell_size _ _
  have d3' : decode c.code (pc + 3) = .ok (.dup, 1) := by rw [hb]; exact d3
  have d4' : decode c.code (pc + 4) = .ok (.ldc_w is, 3) := by rw [hb]; exact d4
  have hstr' : vk_R own is text sa s' := vk_R.warm hW0 hstr
  obtain ⟨U, hsteps, hrun, hend, hW, hsame, ce, hce, hO⟩ := X₁.ctorThrowS hexec htr (own := own) (cls := cls) (names := names) (ic := ic) hown' hcls hnames h (fun x hx => nomatch hx) hfX hkX hcellA (by rw [hhp, hT]; exact Nat.le_refl _) (msg := .ref sa) rfl
    (g := { method := m, pc := pc + 7, locals := ls, stack := .ref sa :: .ref T.heap.size :: .ref T.heap.size :: rest, locked := none }) rfl hsize rfl rfl (rest := rest) rfl
    (by rw [hb]; exact d7) (by rw [hb]; exact d10) hout hRframes (by simp only [List.map_cons, List.sum_cons, hcat]; omega) hlocks
  obtain ⟨f1, f2⟩ := vx_frame hsame
  rw [hhp] at f1 f2
  have hWs : s.WarmedH U.vm := State.WarmedH.trans hW0 hW
  have hcl : s.vm.findClass cls = some ce.cls := by
    have h9 := hO.cls
    rw [hvm] at h9
    exact h9
  have hall : s.sameButNew ({ U with vm := s.vm } : State) locs mc ms := by
    subst hA
    obtain ⟨e1, e2⟩ := hsame
    rw [State.setFrames_setFrames] at e1
    have h2 : (T.setVm s.vm).sameButNew ({ U with vm := s.vm } : State) [] (0 + 1) (0 + 6) := ⟨e1, e2⟩
    have h3 := X.same.trans h2
    rw [List.append_nil] at h3
    exact h3.mono hc hs
  refine ⟨U, ?_, .threw T.heap.size, hrun, hend, Or.inr ⟨T.heap.size, rfl, cls, ce, locs, hx U hWs.alike f1 (fun q hq => f2 q hq (fun z hz => nomatch hz)), hce, hO.vm, hcl, hWs, hall, hf⟩⟩
  refine st1 _ ?_
  show Steps p.tables e below (T1.setTop { method := m, pc := pc + 3, locals := ls, stack := .ref T.heap.size :: rest, locked := none }) _
  jvm_step X₁.here [X₁.here.top, hexec, d3', Value.category]
  exact X₁.ldcStringW hexec (own := own) (text := text) (index := is) (a := sa) hown' hstr'.1 hstr'.2
    (g := { method := m, pc := pc + 4, locals := ls, stack := .ref T.heap.size :: .ref T.heap.size :: rest, locked := none }) rfl d4' _ hsteps
end Ends
section Bodies
variable {l : Launch}
theorem vx_ofW {y : MethodName} {ws ws' : List Cond} {rm : Room} {Pc : Array Value → State → Prop} {Qc : Array Value → State → Outcome → State → Prop} {XC : String → State → State → Prop} {mc ms : Nat} {free : Addr → Prop} {cc : ByteArray} {maxL : Nat} {ret : Option FieldType}
    (hy : plainName y.cls = true) (hw : ws = Cond.code y cc maxL ret :: ws')
    (body : ∀ p e s m args below meth c s₁, BodyLoose p l y (headSpec ws rm) cc maxL ret e s m args below meth c s₁ → c.maxLocals = maxL → (∀ x ∈ c.exceptionTable.toList, False) → Pc args s →
      W p l e (headSpec ws rm).room s m args below meth c s.heap [] 0 0 (vx_MQ below Qc XC args s mc ms free) (entryFrame m args maxL)) : vx_Met l y ws rm Pc Qc XC mc ms free := by
  refine MetFree.of_bodyS (code := cc) (maxLocals := maxL) (ret := ret) hy ?_ ?_
  · intro args s m h hn
    obtain ⟨meth, c, h1, h2, h3, h4, h5, h6, -, -⟩ := Cond.code_spec hn (atoms_spec (ws := ws) h _ (by rw [hw]; exact List.mem_cons_self))
    exact ⟨meth, c, h1, h2, h3, h4, h5, h6⟩
  · intro p e s m args below meth c s₁ B hml hP _
    have hh0 : s₁.heap = s.heap := by rw [B.state]; rfl
    have ht : ∀ x ∈ c.exceptionTable.toList, False := by
      obtain ⟨meth9, c9, h1, h2, -, -, -, -, h7, -⟩ := Cond.code_spec B.named (atoms_spec (ws := ws) B.pre _ (by rw [hw]; exact List.mem_cons_self))
      cases Option.some.inj (h1.symm.trans B.method)
      cases Option.some.inj (h2.symm.trans (Stand.of_body B).code)
      intro x hx
      rw [Array.isEmpty_iff.mp h7] at hx
      cases hx
    obtain ⟨t, a1, o, b1, b2, b3⟩ := body p e s m args below meth c s₁ B hml ht hP s₁ hh0 (Stand.of_body B)
    exact ⟨t, o, a1, b1, b2, b3⟩
/-- the table of a body with handlers -/
theorem vx_table {p : Program} {x y : MethodName} {S : Spec} {cc bytes : ByteArray} {maxL maxL' : Nat} {ret ret' : Option FieldType} {e : Env} {s s₁ : State} {m : MethodId} {args : Array Value} {below : List Frame} {meth : Method} {c : Code} {hh : List (Nat × Nat × Nat × Nat)}
    (B : BodyLoose p l y S cc maxL ret e s m args below meth c s₁) (h : (Cond.codeWith y bytes maxL' ret' hh).before args s = true) : c.exceptionTable.toList = tableOf hh := by
  obtain ⟨m9, meth9, c9, hn9, h1, h2, -, -, h6, -⟩ := Cond.codeWith_spec h
  cases Option.some.inj (hn9.symm.trans B.named)
  cases Option.some.inj (h1.symm.trans B.method)
  cases Option.some.inj (h2.symm.trans (Stand.of_body B).code)
  rw [← h6, table_eq]
end Bodies
end VXA
/-! ===== END ===== -/
/-! ===== BEGIN a static call of a method with an exception table ===== -/
section VXS
variable {p : Program} {l : Launch} {e : Env} {R : Room} {s : State} {m : MethodId} {args : Array Value} {below : List Frame} {meth : Method} {c : Code} {T : State} {H : Heap} {locs : List Loc} {cells slots : Nat}
abbrev vx_CSW (R : Room) (s : State) (args : Array Value) (own : String) (index : Nat) (y : MethodName) (bytes : ByteArray) (maxL : Nat) (ret : Option FieldType) (hh : List (Nat × Nat × Nat × Nat)) (ws : List Cond) (rm : Room) (mc ms n : Nat) : Prop :=
  (rm.cells = mc ∧ rm.slots = ms ∧ rm.frames + 1 ≤ R.frames ∧ 8 + (maxL + 11) + rm.locals ≤ R.locals ∧ (∀ w ∈ ws, ∀ (a' : Array Value) (U : State), s.WarmedH U.vm → w.before a' U = true) ∧ Cond.codeWith y bytes maxL ret hh ∈ ws) ∧
  (Cond.codeWith y bytes maxL ret hh).before args s = true ∧ (Cond.initialized y.cls).before args s = true ∧ (y.cls ≠ "java/lang/invoke/MethodHandle" ∧ y.cls ≠ "java/lang/invoke/VarHandle") ∧
  (∀ sig, parseMethodDescriptor y.desc = some sig → n = sig.parameters.length) ∧ (Cond.methodLink own index y).before args s = true ∧ (Cond.static y).before args s = true
theorem vx_cwSW {own : String} {index maxL mc ms : Nat} {y : MethodName} {bytes : ByteArray} {ret : Option FieldType} {hh : List (Nat × Nat × Nat × Nat)} {Ts ws ws' : List Cond} {rm : Room} (n : Nat) (ht : ∀ w ∈ Ts, w.before args s = true) (hT : GoodIn Ts (va_wsS own index y ws)) (hw : ws = Cond.codeWith y bytes maxL ret hh :: ws') (hrc : rm.cells = mc) (hrs : rm.slots = ms)
    (hd : y.cls ≠ "java/lang/invoke/MethodHandle" ∧ y.cls ≠ "java/lang/invoke/VarHandle" ∧ (parseMethodDescriptor y.desc).map (fun d => d.parameters.length) = some n) (hR : rm.frames + 1 ≤ R.frames ∧ 8 + (maxL + 11) + rm.locals ≤ R.locals) :
    vx_CSW R s args own index y bytes maxL ret hh ws rm mc ms n := by
  have ok : ∀ w ∈ va_wsS own index y ws, w.before args s = true := fun w h => ht w (hT w h).1
  have hG : GoodIn Ts ws := fun w h => hT w (by unfold va_wsS; exact List.mem_append_right _ h)
  have hc : Cond.codeWith y bytes maxL ret hh ∈ ws := by rw [hw]; exact List.mem_cons_self
  refine ⟨⟨hrc, hrs, hR.1, hR.2, pay_in ht hG, hc⟩, ht _ (hG _ hc).1, ok _ (by simp [va_wsS]), ⟨hd.1, hd.2.1⟩, fun sig h => ?_, ok _ (by simp [va_wsS]), ok _ (by simp [va_wsS])⟩
  have h2 := hd.2.2
  rw [h] at h2
  exact (Option.some.inj h2).symm
theorem vx_callSW (X : Stand p l e R s m args below meth c T locs cells slots) (hexec : p.tables.exec = Jvm.exec) {own : String} {index : Nat} {y : MethodName} {bytes : ByteArray} {maxL : Nat} {ret : Option FieldType} {hh : List (Nat × Nat × Nat × Nat)}
    (hown : s.vm.findClass own = some m.cls) (hlink : (Cond.methodLink own index y).before args s = true) (hstat : (Cond.static y).before args s = true) (hinit : (Cond.initialized y.cls).before args s = true)
    (hcode : (Cond.codeWith y bytes maxL ret hh).before args s = true) (hy : y.cls ≠ "java/lang/invoke/MethodHandle" ∧ y.cls ≠ "java/lang/invoke/VarHandle")
    {W9 : Nat} {Pre : Pt → Array Value → Prop} {Post : Pt → Array Value → Option Value → Pt → Prop} (hK : Back l R p e below s args y 3 W9 Pre Post)
    {g : JFrame} (hg : g.method = m) (hsize : g.locals.size = c.maxLocals) {argsL rest : List Value} (hlen : ∀ sig, parseMethodDescriptor y.desc = some sig → argsL.length = sig.parameters.length)
    (hstack : g.stack = argsL.reverse ++ rest) (hW : 2 * g.monitorRoom + (rest.map fun v => v.category).sum ≤ W9) (hdg : decode c.code g.pc = .ok (.invokestatic index, 3))
    (hpre : ∀ vm₁, s.WarmedH vm₁ → Pre ⟨T.setVm vm₁, locs, cells, slots⟩ argsL.toArray) :
    ∃ (v : Option Value) (vm₁ : Vm) (B : Pt), s.WarmedH vm₁ ∧ Stand p l e R s m args below meth c B.U B.locs B.cells B.slots ∧ Post ⟨T.setVm vm₁, locs, cells, slots⟩ argsL.toArray v B ∧
      ∀ target, Steps p.tables e below (B.U.setTop { g with pc := g.pc + 3, stack := v.toList ++ rest }) target → Steps p.tables e below (T.setTop g) target := by
  obtain ⟨mk, methM, cM, hnamed, hmethM, -, -, -, -, -, -, hsigM⟩ := Cond.codeWith_spec hcode
  have hstatic : methM.isStatic = true := Cond.static_spec hnamed hmethM hstat
  obtain ⟨kP, hkP, -⟩ := className_of_methodNamed hnamed
  have hinitP : kP.init = .initialized := Cond.initialized_spec (findClass_of_methodNamed hnamed) hkP hinit
  obtain ⟨vm₁, X₁, hstep₁⟩ := X.invokestatic hexec hown hlink hnamed hmethM hstatic hkP hinitP hy (g := g) hg (argsL := argsL) (rest := rest) (hlen _ hsigM) hstack hdg
  obtain ⟨v, B, X', hpost, hsteps⟩ := hK m meth c ⟨T.setVm vm₁, locs, cells, slots⟩ { g with stack := rest } (.invokestatic index) mk argsL.toArray X₁ hg hsize hdg hW (X₁.named hnamed) (hpre vm₁ X₁.warmed)
  exact ⟨v, vm₁, B, X₁.warmed, X', hpost, fun target h => hstep₁ _ fun acts => by rw [doInvoke_state]; exact hsteps.trans h⟩
theorem vx_runSW {y : MethodName} {bytes cc : ByteArray} {maxL nL mc ms n index : Nat} {ret : Option FieldType} {hh : List (Nat × Nat × Nat × Nat)} {ws : List Cond} {rm : Room} {Pc : Array Value → State → Prop} {Qc : Array Value → State → Outcome → State → Prop} {free : Addr → Prop} {Ts : List Cond} {own : String} {As rest : List Value} {g : JFrame}
    (S : CallFix p m c cc nL s args Ts own) (hM : Met l y ws rm Pc Qc mc ms free) (cw : vx_CSW R s args own index y bytes maxL ret hh ws rm mc ms n) (hp : PreS s H Pc As)
    (hg : g.method = m) (hn : As.length = n) (hsize : g.locals.size = nL) (hstack : g.stack = As.reverse ++ rest) (hW : 2 * g.monitorRoom + (rest.map fun v => v.category).sum ≤ 8) (hdg : decode cc g.pc = .ok (.invokestatic index, 3)) (hf : cells + mc ≤ R.cells ∧ slots + ms ≤ R.slots) :
    va_Run p l e R s m args below meth c H locs cells slots mc ms g rest (Qc As.toArray) (free) := by
  obtain ⟨⟨hrc, hrs, hfr, hlo, hws, hcw⟩, hcode, hini, hy, hlen, hl, hstt⟩ := cw
  have hK : Back l R p e below s args y 3 8 (PreOf R mc ms Pc) (PostOf Qc mc ms free) := va_backW (hh := hh) (bytes := bytes) (maxL := maxL) (ret := ret) hM hp.1 hrc hrs hfr hlo hws hcw (fun a' U hW => word_at hW (Or.inl (by first | rfl | simp [Cond.onTables, Cond.keeps, Cond.steady])) hini)
  obtain ⟨hx, hb, hml, ho, -⟩ := S
  intro T hT X
  obtain ⟨v, vm₁, ⟨U', l2, c2, s2⟩, hW₁, X', ⟨g', mk, t, L, e1, e2, hq, h1, hL, h2, h3⟩, st⟩ := vx_callSW X hx (hh := hh) (bytes := bytes) (maxL := maxL) (ret := ret) ho hl hstt hini hcode hy hK hg (hsize.trans hml.symm) (argsL := As) (rest := rest) (fun sig h => hn.trans (hlen sig h)) hstack hW (by rw [hb]; exact hdg)
    (fun vm₁ hW₁ => ⟨hf.1, hf.2, hp.2 (T.setVm vm₁) hT hW₁⟩)
  dsimp only [Pt.U, Pt.locs, Pt.cells, Pt.slots] at X' e1 e2 h1 h2 h3 st
  subst h1; subst h2; subst h3
  exact ⟨v, (T.setVm vm₁).calling g' mk As.toArray, t, U', L, hT, X', hL, e1, e2, hq, st⟩
/-- not caught here, past rows that name other classes: it goes on to the caller -/
theorem vx_outP {p : Program} {l : Launch} {e : Env} {R : Room} {s : State} {m : MethodId} {args : Array Value} {below : List Frame} {meth : Method} {c : Code} {H : Heap} {locs : List Loc} {cells slots : Nat} {free : Addr → Prop} {ls : Array Slot} {rest : List Value} {Qc : Array Value → State → Outcome → State → Prop} {XC : String → State → State → Prop}
    {pc : Nat} {own E : String} {ce : Cell} {q : Addr} {mc ms : Nat} (hown : s.vm.findClass own = some m.cls) (hlocks : meth.locks = false)
    (hpass : ∀ z ∈ c.exceptionTable.toList, covers z pc = false ∨ (z.catchType ≠ 0 ∧ ∃ nm : String, (Cond.classLink own z.catchType nm).before args s = true ∧ va_Nc E nm s)) (hcell : H[q]? = some ce) (hv : ce.vm = .none) (hcl : s.vm.findClass E = some ce.cls)
    (hx : ∀ t : State, t.heap = H → s.vm.Alike t.vm → XC E s t) (hf : ∀ z ∈ locs, free z.base) (hc : cells ≤ mc) (hs : slots ≤ ms) :
    vx_W p l e R s m args below meth c H locs cells slots (vx_MQ below Qc XC args s mc ms free) (F0 m pc ls rest) q := by
  intro T hT X
  have hpl : e.platform.magicAccessors = ({} : Platform).magicAccessors := by rw [X.admits.platform]
  obtain ⟨vm', hW', X', st⟩ := X.outThrough hlocks q (g := F0 m pc ls rest) rfl rfl rfl (cell := ce) (by rw [hT]; exact hcell) (by rw [hv]; rfl)
    (by obtain ⟨k9, h9, -⟩ := Vm.findClass_spec hcl; exact ⟨k9, h9⟩) (fun z hz => by
      rcases hpass z hz with h | ⟨hz0, nm, hl1, hn1⟩
      · exact Or.inl h
      · obtain ⟨c6, hc6, hcl6⟩ := Cond.classLink_spec hown hl1 e.platform hpl
        obtain ⟨a8, b8, h1, h2, h3⟩ := hn1
        cases Option.some.inj (h1.symm.trans hcl)
        cases Option.some.inj (h2.symm.trans hc6)
        exact Or.inr ⟨hz0, _, hcl6, h3⟩)
  obtain ⟨g₀, hfr⟩ := X'.frames_eq
  have hcell9 : ((T.setVm vm').setFrames (.throwing q :: below)).heap[q]? = some ce := by
    show T.heap[q]? = some ce
    rw [hT]; exact hcell
  have hend : Ended ((T.setVm vm').setFrames (.throwing q :: below)) below (.threw q) := State.frames_setFrames _ (State.cur_lt_of_frames hfr)
  refine ⟨(T.setVm vm').setFrames (.throwing q :: below), ?_, .threw q, X'.here.running, hend, Or.inr ⟨q, rfl, E, ce, locs, hx _ hT (X'.ends _).1.alike, hcell9, hv, hcl, (X'.ends _).1, (X'.ends _).2.mono hc hs, hf⟩⟩
  rw [X.pushThrowing_eq]
  exact st
/-- a thing of a world lies in the heap -/
theorem vx_lt {D : va_G} {cl : List vw_C} {ws : va_W} {H1 : Heap} (h : va_P D cl ws H1) {k : Nat} {q : Nat × va_E} (hk : ws[k]? = some q) : q.1 < H1.size := (h k q hk).lt
end VXS
/-! ===== END ===== -/
/-! ===== BEGIN methods with a table of their own: called by a name, returning or throwing ===== -/
section VXH
/-! vx_backW, vx_callVX, vx_callSX, vx_callVW, vx_runVW, vx_runVX, vx_runSX, vx_ofWH follow the same proofs as their sisters above (Free/Laws.lean, Shelf42/LK1.lean); vx_outP calls Shelf42/NT130.lean (outThrough). -/
section
variable {l : Launch} {R : Room} {p : Program} {e : Env} {below : List Frame} {s : State} {sargs : Array Value} {y : MethodName} {len W9 : Nat}
theorem vx_backW {ws : List Cond} {rm : Room} {Pc : Array Value → State → Prop} {Qc : Array Value → State → Outcome → State → Prop} {XC : String → State → State → Prop} {mc ms : Nat} {free : Addr → Prop} {bytes : ByteArray} {maxL : Nat} {ret : Option FieldType} {hh : List (Nat × Nat × Nat × Nat)}
    (hM : vx_Met l y ws rm Pc Qc XC mc ms free) (hblind : FrameBlind Pc) (hrc : rm.cells = mc) (hrs : rm.slots = ms)
    (hframes : rm.frames + 1 ≤ R.frames) (hlocals : W9 + (maxL + 11) + rm.locals ≤ R.locals)
    (hws : ∀ w ∈ ws, ∀ a' U, s.WarmedH U.vm → w.before a' U = true) (hcode : Cond.codeWith y bytes maxL ret hh ∈ ws) (hinit : ∀ a' U, s.WarmedH U.vm → (Cond.initialized y.cls).before a' U = true) :
    vx_Back l R p e below s sargs y len W9 (PreOf R mc ms Pc) (PostOf Qc mc ms free) (vx_Post XC mc ms free) := by
  intro m meth c A g ig mk a X hg hsize hdg hW hn hp
  have h1 : (headSpec ws rm).pre.before a A.U = true := atoms_intro fun w hw => hws w hw _ _ X.warmed
  have h2 : (Cond.codeWith y bytes maxL ret hh).before a A.U = true := hws _ hcode _ _ X.warmed
  have h3 : (Cond.initialized y.cls).before a A.U = true := hinit _ _ X.warmed
  have h4 : A.cells + (headSpec ws rm).room.cells ≤ R.cells := by rw [show (headSpec ws rm).room.cells = mc from hrc]; exact hp.1
  have h5 : A.slots + (headSpec ws rm).room.slots ≤ R.slots := by rw [show (headSpec ws rm).room.slots = ms from hrs]; exact hp.2.1
  have hPc : Pc a (A.U.calling g mk a) := hblind _ _ _ _ hp.2.2
  obtain ⟨U, Ls, c0, s0⟩ := A
  dsimp only [Pt.U, Pt.locs, Pt.cells, Pt.slots] at h1 h2 h3 h4 h5 X hn hPc ⊢
  obtain ⟨m9, methY, cY, hn9, hmY, hcY, -, hlY, -⟩ := Cond.codeWith_spec h2
  cases Option.some.inj (hn9.symm.trans hn)
  obtain ⟨kY, hkY, -⟩ := className_of_methodNamed hn
  have hinitY : kY.init = .initialized := Cond.initialized_spec (findClass_of_methodNamed hn) hkY h3
  have h : At U g.method c below := by rw [hg]; exact X.here
  have hlocals9 : W9 + (maxL + 11) + (headSpec ws rm).room.locals ≤ R.locals := hlocals
  have happ : (headSpec ws rm).appliesLoose y e.platform (U.calling g mk a) = true :=
    Spec.appliesLoose_calling (g := g) h hdg hn hkY hinitY
      (X.room_calling (g := g) (R' := (headSpec ws rm).room) hsize hmY hcY hframes (by rw [hlY]; omega) h4 h5) h1
  obtain ⟨mid, hmid⟩ := h.above
  have hfr : (U.setTop g).frames = (.java g :: mid) ++ below := by rw [State.frames_setTop' g h.top, hmid]; rfl
  obtain ⟨o, s₂, hsteps, -, hend, hq⟩ := Steps.callFree hM p X.admits X.cas X.clock (acts := []) hfr happ hPc trivial
  have hq' : vx_Q Qc XC mc ms free a (U.calling g mk a) o s₂ := hq
  rw [State.frames_setTop' g h.top] at hend
  obtain ⟨g₀, hg0⟩ := Option.isSome_iff_exists.mp h.top
  obtain ⟨r, hr⟩ := State.topJava?_eq_some.mp hg0
  have hr' : (({ U with heap := s₂.heap, slotsUsed := s₂.slotsUsed } : State).setVm s₂.vm).frames = .java g₀ :: r := hr
  rcases hq' with ⟨hqc, L, hfe, hL⟩ | ⟨q, rfl, E, ce, L, hx, hce, hcv, hcl, hW₂, hsm, hL⟩
  · obtain ⟨⟨v, rfl⟩, hW₂, e2, q2, q3, q4, q5, q6⟩ := id hfe
    have e3 : s₂ = ({ (U.calling g mk a).setFrames s₂.frames with heap := s₂.heap, slotsUsed := s₂.slotsUsed } : State).setVm s₂.vm := by
      have : s₂ = ({ s₂ with vm := (U.calling g mk a).vm } : State).setVm s₂.vm := rfl
      rw [e2] at this
      exact this
    obtain ⟨c₂, i₂, len₂, hc₂, hd₂, hf₂⟩ := hend
    have hW' : U.WarmedH s₂.vm := hW₂
    have hcc : c₂ = c := by
      have h1 : s₂.code? g.method = U.code? g.method := by
        rw [State.code?_eq, State.code?_eq, hW'.alike.method?]
      exact Option.some.inj (hc₂.symm.trans (h1.trans h.code))
    subst hcc
    have hlen : len₂ = len := by rw [hdg] at hd₂; cases hd₂; rfl
    subst hlen
    have hs₂ : s₂ = (({ U with heap := s₂.heap, slotsUsed := s₂.slotsUsed } : State).setVm s₂.vm).setTop { g with pc := g.pc + len₂, stack := v.toList ++ g.stack } := by
      refine e3.trans ?_
      rw [hf₂, State.calling_eq h.top, State.setFrames_setFrames, State.setTop_of_frames _ hr', hr]
      rfl
    have hsame : U.sameButNew ({ U with heap := s₂.heap, slotsUsed := s₂.slotsUsed } : State) L mc ms := by
      refine ⟨?_, q2, q3, q4, q5, q6⟩
      obtain ⟨t, ht, -⟩ := State.frames_cons hr
      show ({ U with heap := s₂.heap, slotsUsed := s₂.slotsUsed } : State) = { U.setFrames U.frames with heap := s₂.heap, slotsUsed := s₂.slotsUsed }
      rw [State.setFrames_self ht]
    subst hg
    refine Or.inl ⟨v, ⟨(({ U with heap := s₂.heap, slotsUsed := s₂.slotsUsed } : State).setVm s₂.vm), Ls ++ L, c0 + mc, s0 + ms⟩,
      ⟨X.admits, X.cas, X.clock, X.frames, X.room, X.hears, X.method, X.code, (X.here.setHeapUsed s₂.heap s₂.slotsUsed).setVm hW'.alike, X.tail, State.WarmedH.trans X.warmed hW', X.limits, X.bytes, X.same.trans (hsame.setVm s.vm)⟩,
      ⟨g, mk, s₂, L, rfl, rfl, hqc, rfl, hL, rfl, rfl⟩, ?_⟩
    show Steps p.tables e below _ ((({ U with heap := s₂.heap, slotsUsed := s₂.slotsUsed } : State).setVm s₂.vm).setTop { g with pc := g.pc + len₂, stack := v.toList ++ g.stack })
    rw [← hs₂]
    exact hsteps
  · obtain ⟨e2, q2, q3, q4, q5, q6⟩ := id hsm
    have e3 : s₂ = ({ (U.calling g mk a).setFrames s₂.frames with heap := s₂.heap, slotsUsed := s₂.slotsUsed } : State).setVm s₂.vm := by
      have : s₂ = ({ s₂ with vm := (U.calling g mk a).vm } : State).setVm s₂.vm := rfl
      rw [e2] at this
      exact this
    have hf₂ : s₂.frames = .throwing q :: .java g :: U.frames.tail := hend
    have hW' : U.WarmedH s₂.vm := hW₂
    have hs₂ : s₂ = ((({ U with heap := s₂.heap, slotsUsed := s₂.slotsUsed } : State).setVm s₂.vm).setTop g).pushFrame (.throwing q) := by
      refine e3.trans ?_
      rw [hf₂, State.calling_eq h.top, State.setFrames_setFrames, State.pushFrame, State.frames_setTop _ hr', State.setTop_of_frames _ hr', State.setFrames_setFrames, hr]
      rfl
    have hsame : U.sameButNew ({ U with heap := s₂.heap, slotsUsed := s₂.slotsUsed } : State) L mc ms := by
      refine ⟨?_, q2, q3, q4, q5, q6⟩
      obtain ⟨t, ht, -⟩ := State.frames_cons hr
      show ({ U with heap := s₂.heap, slotsUsed := s₂.slotsUsed } : State) = { U.setFrames U.frames with heap := s₂.heap, slotsUsed := s₂.slotsUsed }
      rw [State.setFrames_self ht]
    subst hg
    refine Or.inr ⟨q, ⟨(({ U with heap := s₂.heap, slotsUsed := s₂.slotsUsed } : State).setVm s₂.vm), Ls ++ L, c0 + mc, s0 + ms⟩,
      ⟨X.admits, X.cas, X.clock, X.frames, X.room, X.hears, X.method, X.code, (X.here.setHeapUsed s₂.heap s₂.slotsUsed).setVm hW'.alike, X.tail, State.WarmedH.trans X.warmed hW', X.limits, X.bytes, X.same.trans (hsame.setVm s.vm)⟩,
      ⟨g, mk, s₂, L, E, ce, rfl, rfl, hx, hce, hcv, hcl, rfl, hL, rfl, rfl⟩, ?_⟩
    show Steps p.tables e below _ (((({ U with heap := s₂.heap, slotsUsed := s₂.slotsUsed } : State).setVm s₂.vm).setTop g).pushFrame (.throwing q))
    rw [← hs₂]
    exact hsteps
end
variable {p : Program} {l : Launch} {e : Env} {R : Room} {s : State} {m : MethodId} {args : Array Value} {below : List Frame} {meth : Method} {c : Code} {T : State} {H : Heap} {locs : List Loc} {cells slots : Nat}
theorem vx_callVX (X : Stand p l e R s m args below meth c T locs cells slots) (hexec : p.tables.exec = Jvm.exec) {own C : String} {index : Nat} {y : MethodName} {bytes : ByteArray} {maxL : Nat} {ret : Option FieldType} {hh : List (Nat × Nat × Nat × Nat)}
    (hown : s.vm.findClass own = some m.cls) (hlink : (Cond.methodLink own index y).before args s = true) (hinst : (Cond.instanceMethod y).before args s = true) (hsel : (Cond.selects C y y).before args s = true)
    (hcode : (Cond.codeWith y bytes maxL ret hh).before args s = true) (hy : y.cls ≠ "java/lang/invoke/MethodHandle" ∧ y.cls ≠ "java/lang/invoke/VarHandle")
    {W9 : Nat} {Pre : Pt → Array Value → Prop} {Post : Pt → Array Value → Option Value → Pt → Prop} {PostX : Pt → Array Value → Addr → Pt → Prop} (hK : vx_Back l R p e below s args y 3 W9 Pre Post PostX)
    {b : Addr} {cellB : Cell} (hcell : T.heap[b]? = some cellB) (hobj : cellB.vm.isStatics = false) (hcls : s.vm.findClass C = some cellB.cls)
    {g : JFrame} (hg : g.method = m) (hsize : g.locals.size = c.maxLocals) {argsL rest : List Value} (hlen : ∀ sig, parseMethodDescriptor y.desc = some sig → argsL.length = sig.parameters.length)
    (hstack : g.stack = argsL.reverse ++ .ref b :: rest) (hW : 2 * g.monitorRoom + (rest.map fun v => v.category).sum ≤ W9) (hdg : decode c.code g.pc = .ok (.invokevirtual index, 3))
    (hpre : ∀ vm₁, s.WarmedH vm₁ → Pre ⟨T.setVm vm₁, locs, cells, slots⟩ (Value.ref b :: argsL).toArray) :
    (∃ (v : Option Value) (vm₁ : Vm) (B : Pt), s.WarmedH vm₁ ∧ Stand p l e R s m args below meth c B.U B.locs B.cells B.slots ∧ Post ⟨T.setVm vm₁, locs, cells, slots⟩ (Value.ref b :: argsL).toArray v B ∧
      ∀ target, Steps p.tables e below (B.U.setTop { g with pc := g.pc + 3, stack := v.toList ++ rest }) target → Steps p.tables e below (T.setTop g) target) ∨
    (∃ (q : Addr) (vm₁ : Vm) (B : Pt), s.WarmedH vm₁ ∧ Stand p l e R s m args below meth c B.U B.locs B.cells B.slots ∧ PostX ⟨T.setVm vm₁, locs, cells, slots⟩ (Value.ref b :: argsL).toArray q B ∧
      Steps p.tables e below (T.setTop g) ((B.U.setTop { g with stack := rest }).pushFrame (.throwing q))) := by
  obtain ⟨mk, methM, hnamed, hmethM, hstM, habM⟩ := Cond.instanceMethod_spec hinst
  obtain ⟨m8, methM', cM, hn8, hmethM', -, -, -, -, -, -, hsigM⟩ := Cond.codeWith_spec hcode
  cases Option.some.inj (hn8.symm.trans hnamed)
  cases hmethM.symm.trans hmethM'
  obtain ⟨c2, r2, m2, q1, q2, q3, q4, kP, hkP, hkPi⟩ := Cond.selects_spec hsel
  cases hcls.symm.trans q1
  cases (State.methodFound?_of_named hnamed hy).symm.trans q2
  cases hnamed.symm.trans q3
  have hselP : selectMethod e.platform s.vm cellB.cls mk = .method mk := by rw [Launch.admits_selectMethod X.admits]; exact q4
  obtain ⟨vm₁, X₁, hstep₁⟩ := X.invokevirtual hexec hown hlink hnamed hmethM hstM hkP hkPi hy (a := b) (cell := cellB) hcell
    (fun z h => by rw [h] at hobj; cases hobj) hselP hmethM habM hkP hkPi (g := g) hg (argsL := argsL) (rest := rest) (hlen _ hsigM) hstack hdg
  rcases hK m meth c ⟨T.setVm vm₁, locs, cells, slots⟩ { g with stack := rest } (.invokevirtual index) mk (Value.ref b :: argsL).toArray X₁ hg hsize hdg hW (X₁.named hnamed) (hpre vm₁ X₁.warmed) with ⟨v, B, X', hpost, hsteps⟩ | ⟨q, B, X', hpost, hsteps⟩
  · exact Or.inl ⟨v, vm₁, B, X₁.warmed, X', hpost, fun target h => hstep₁ _ fun acts => by rw [doInvoke_state]; exact hsteps.trans h⟩
  · exact Or.inr ⟨q, vm₁, B, X₁.warmed, X', hpost, hstep₁ _ fun acts => by rw [doInvoke_state]; exact hsteps⟩
theorem vx_callSX (X : Stand p l e R s m args below meth c T locs cells slots) (hexec : p.tables.exec = Jvm.exec) {own : String} {index : Nat} {y : MethodName} {bytes : ByteArray} {maxL : Nat} {ret : Option FieldType} {hh : List (Nat × Nat × Nat × Nat)}
    (hown : s.vm.findClass own = some m.cls) (hlink : (Cond.methodLink own index y).before args s = true) (hstat : (Cond.static y).before args s = true) (hinit : (Cond.initialized y.cls).before args s = true)
    (hcode : (Cond.codeWith y bytes maxL ret hh).before args s = true) (hy : y.cls ≠ "java/lang/invoke/MethodHandle" ∧ y.cls ≠ "java/lang/invoke/VarHandle")
    {W9 : Nat} {Pre : Pt → Array Value → Prop} {Post : Pt → Array Value → Option Value → Pt → Prop} {PostX : Pt → Array Value → Addr → Pt → Prop} (hK : vx_Back l R p e below s args y 3 W9 Pre Post PostX)
    {g : JFrame} (hg : g.method = m) (hsize : g.locals.size = c.maxLocals) {argsL rest : List Value} (hlen : ∀ sig, parseMethodDescriptor y.desc = some sig → argsL.length = sig.parameters.length)
    (hstack : g.stack = argsL.reverse ++ rest) (hW : 2 * g.monitorRoom + (rest.map fun v => v.category).sum ≤ W9) (hdg : decode c.code g.pc = .ok (.invokestatic index, 3))
    (hpre : ∀ vm₁, s.WarmedH vm₁ → Pre ⟨T.setVm vm₁, locs, cells, slots⟩ argsL.toArray) :
    (∃ (v : Option Value) (vm₁ : Vm) (B : Pt), s.WarmedH vm₁ ∧ Stand p l e R s m args below meth c B.U B.locs B.cells B.slots ∧ Post ⟨T.setVm vm₁, locs, cells, slots⟩ argsL.toArray v B ∧
      ∀ target, Steps p.tables e below (B.U.setTop { g with pc := g.pc + 3, stack := v.toList ++ rest }) target → Steps p.tables e below (T.setTop g) target) ∨
    (∃ (q : Addr) (vm₁ : Vm) (B : Pt), s.WarmedH vm₁ ∧ Stand p l e R s m args below meth c B.U B.locs B.cells B.slots ∧ PostX ⟨T.setVm vm₁, locs, cells, slots⟩ argsL.toArray q B ∧
      Steps p.tables e below (T.setTop g) ((B.U.setTop { g with stack := rest }).pushFrame (.throwing q))) := by
  obtain ⟨mk, methM, cM, hnamed, hmethM, -, -, -, -, -, -, hsigM⟩ := Cond.codeWith_spec hcode
  have hstatic : methM.isStatic = true := Cond.static_spec hnamed hmethM hstat
  obtain ⟨kP, hkP, -⟩ := className_of_methodNamed hnamed
  have hinitP : kP.init = .initialized := Cond.initialized_spec (findClass_of_methodNamed hnamed) hkP hinit
  obtain ⟨vm₁, X₁, hstep₁⟩ := X.invokestatic hexec hown hlink hnamed hmethM hstatic hkP hinitP hy (g := g) hg (argsL := argsL) (rest := rest) (hlen _ hsigM) hstack hdg
  rcases hK m meth c ⟨T.setVm vm₁, locs, cells, slots⟩ { g with stack := rest } (.invokestatic index) mk argsL.toArray X₁ hg hsize hdg hW (X₁.named hnamed) (hpre vm₁ X₁.warmed) with ⟨v, B, X', hpost, hsteps⟩ | ⟨q, B, X', hpost, hsteps⟩
  · exact Or.inl ⟨v, vm₁, B, X₁.warmed, X', hpost, fun target h => hstep₁ _ fun acts => by rw [doInvoke_state]; exact hsteps.trans h⟩
  · exact Or.inr ⟨q, vm₁, B, X₁.warmed, X', hpost, hstep₁ _ fun acts => by rw [doInvoke_state]; exact hsteps⟩
theorem vx_callVW (X : Stand p l e R s m args below meth c T locs cells slots) (hexec : p.tables.exec = Jvm.exec) {own C : String} {index : Nat} {y : MethodName} {bytes : ByteArray} {maxL : Nat} {ret : Option FieldType} {hh : List (Nat × Nat × Nat × Nat)}
    (hown : s.vm.findClass own = some m.cls) (hlink : (Cond.methodLink own index y).before args s = true) (hinst : (Cond.instanceMethod y).before args s = true) (hsel : (Cond.selects C y y).before args s = true)
    (hcode : (Cond.codeWith y bytes maxL ret hh).before args s = true) (hy : y.cls ≠ "java/lang/invoke/MethodHandle" ∧ y.cls ≠ "java/lang/invoke/VarHandle")
    {W9 : Nat} {Pre : Pt → Array Value → Prop} {Post : Pt → Array Value → Option Value → Pt → Prop} (hK : Back l R p e below s args y 3 W9 Pre Post)
    {b : Addr} {cellB : Cell} (hcell : T.heap[b]? = some cellB) (hobj : cellB.vm.isStatics = false) (hcls : s.vm.findClass C = some cellB.cls)
    {g : JFrame} (hg : g.method = m) (hsize : g.locals.size = c.maxLocals) {argsL rest : List Value} (hlen : ∀ sig, parseMethodDescriptor y.desc = some sig → argsL.length = sig.parameters.length)
    (hstack : g.stack = argsL.reverse ++ .ref b :: rest) (hW : 2 * g.monitorRoom + (rest.map fun v => v.category).sum ≤ W9) (hdg : decode c.code g.pc = .ok (.invokevirtual index, 3))
    (hpre : ∀ vm₁, s.WarmedH vm₁ → Pre ⟨T.setVm vm₁, locs, cells, slots⟩ (Value.ref b :: argsL).toArray) :
    ∃ (v : Option Value) (vm₁ : Vm) (B : Pt), s.WarmedH vm₁ ∧ Stand p l e R s m args below meth c B.U B.locs B.cells B.slots ∧ Post ⟨T.setVm vm₁, locs, cells, slots⟩ (Value.ref b :: argsL).toArray v B ∧
      ∀ target, Steps p.tables e below (B.U.setTop { g with pc := g.pc + 3, stack := v.toList ++ rest }) target → Steps p.tables e below (T.setTop g) target := by
  obtain ⟨mk, methM, hnamed, hmethM, hstM, habM⟩ := Cond.instanceMethod_spec hinst
  obtain ⟨m8, methM', cM, hn8, hmethM', -, -, -, -, -, -, hsigM⟩ := Cond.codeWith_spec hcode
  cases Option.some.inj (hn8.symm.trans hnamed)
  cases hmethM.symm.trans hmethM'
  obtain ⟨c2, r2, m2, q1, q2, q3, q4, kP, hkP, hkPi⟩ := Cond.selects_spec hsel
  cases hcls.symm.trans q1
  cases (State.methodFound?_of_named hnamed hy).symm.trans q2
  cases hnamed.symm.trans q3
  have hselP : selectMethod e.platform s.vm cellB.cls mk = .method mk := by rw [Launch.admits_selectMethod X.admits]; exact q4
  obtain ⟨vm₁, X₁, hstep₁⟩ := X.invokevirtual hexec hown hlink hnamed hmethM hstM hkP hkPi hy (a := b) (cell := cellB) hcell
    (fun z h => by rw [h] at hobj; cases hobj) hselP hmethM habM hkP hkPi (g := g) hg (argsL := argsL) (rest := rest) (hlen _ hsigM) hstack hdg
  obtain ⟨v, B, X', hpost, hsteps⟩ := hK m meth c ⟨T.setVm vm₁, locs, cells, slots⟩ { g with stack := rest } (.invokevirtual index) mk (Value.ref b :: argsL).toArray X₁ hg hsize hdg hW (X₁.named hnamed) (hpre vm₁ X₁.warmed)
  exact ⟨v, vm₁, B, X₁.warmed, X', hpost, fun target h => hstep₁ _ fun acts => by rw [doInvoke_state]; exact hsteps.trans h⟩
abbrev vx_CVW (R : Room) (s : State) (args : Array Value) (own C : String) (index : Nat) (y : MethodName) (bytes : ByteArray) (maxL : Nat) (ret : Option FieldType) (hh : List (Nat × Nat × Nat × Nat)) (ws : List Cond) (rm : Room) (mc ms n : Nat) : Prop :=
  (rm.cells = mc ∧ rm.slots = ms ∧ rm.frames + 1 ≤ R.frames ∧ 8 + (maxL + 11) + rm.locals ≤ R.locals ∧ (∀ w ∈ ws, ∀ (a' : Array Value) (U : State), s.WarmedH U.vm → w.before a' U = true) ∧ Cond.codeWith y bytes maxL ret hh ∈ ws) ∧
  (Cond.codeWith y bytes maxL ret hh).before args s = true ∧ (Cond.initialized y.cls).before args s = true ∧ (y.cls ≠ "java/lang/invoke/MethodHandle" ∧ y.cls ≠ "java/lang/invoke/VarHandle") ∧
  (∀ sig, parseMethodDescriptor y.desc = some sig → n = sig.parameters.length) ∧ (Cond.methodLink own index y).before args s = true ∧ (Cond.instanceMethod y).before args s = true ∧ (Cond.selects C y y).before args s = true
theorem vx_cwVW {own C : String} {index maxL mc ms : Nat} {y : MethodName} {bytes : ByteArray} {ret : Option FieldType} {hh : List (Nat × Nat × Nat × Nat)} {Ts ws ws' : List Cond} {rm : Room} (n : Nat) (ht : ∀ w ∈ Ts, w.before args s = true) (hT : GoodIn Ts (wsV own index C y ws)) (hw : ws = Cond.codeWith y bytes maxL ret hh :: ws') (hrc : rm.cells = mc) (hrs : rm.slots = ms)
    (hd : y.cls = C ∧ y.cls ≠ "java/lang/invoke/MethodHandle" ∧ y.cls ≠ "java/lang/invoke/VarHandle" ∧ (parseMethodDescriptor y.desc).map (fun d => d.parameters.length) = some n) (hR : rm.frames + 1 ≤ R.frames ∧ 8 + (maxL + 11) + rm.locals ≤ R.locals) :
    vx_CVW R s args own C index y bytes maxL ret hh ws rm mc ms n := by
  obtain ⟨hC, hd⟩ := hd
  subst hC
  have ok : ∀ w ∈ wsV own index y.cls y ws, w.before args s = true := fun w h => ht w (hT w h).1
  have hG : GoodIn Ts ws := fun w h => hT w (by unfold wsV; exact List.mem_append_right _ h)
  have hc : Cond.codeWith y bytes maxL ret hh ∈ ws := by rw [hw]; exact List.mem_cons_self
  refine ⟨⟨hrc, hrs, hR.1, hR.2, pay_in ht hG, hc⟩, ht _ (hG _ hc).1, ok _ (by simp [wsV]), ⟨hd.1, hd.2.1⟩, fun sig h => ?_, ok _ (by simp [wsV]), ok _ (by simp [wsV]), ok _ (by simp [wsV])⟩
  have h2 := hd.2.2
  rw [h] at h2
  exact (Option.some.inj h2).symm
theorem vx_runVW {y : MethodName} {bytes cc : ByteArray} {maxL nL mc ms n index : Nat} {ret : Option FieldType} {hh : List (Nat × Nat × Nat × Nat)} {ws : List Cond} {rm : Room} {Pc : Array Value → State → Prop} {Qc : Array Value → State → Outcome → State → Prop} {free : Addr → Prop} {Ts : List Cond} {own C : String} {b : Addr} {As rest : List Value} {g : JFrame}
    (S : CallFix p m c cc nL s args Ts own) (hM : Met l y ws rm Pc Qc mc ms free) (cw : vx_CVW R s args own C index y bytes maxL ret hh ws rm mc ms n) (hp : PreV s H C b Pc As)
    (hg : g.method = m) (hn : As.length = n) (hsize : g.locals.size = nL) (hstack : g.stack = As.reverse ++ .ref b :: rest) (hW : 2 * g.monitorRoom + (rest.map fun v => v.category).sum ≤ 8) (hdg : decode cc g.pc = .ok (.invokevirtual index, 3)) (hf : cells + mc ≤ R.cells ∧ slots + ms ≤ R.slots) :
    va_Run p l e R s m args below meth c H locs cells slots mc ms g rest (Qc (Value.ref b :: As).toArray) free := by
  obtain ⟨⟨hrc, hrs, hfr, hlo, hws, hcw⟩, hcode, hini, hy, hlen, hl, hin, hse⟩ := cw
  have hK : Back l R p e below s args y 3 8 (PreOf R mc ms Pc) (PostOf Qc mc ms free) := va_backW (hh := hh) (bytes := bytes) (maxL := maxL) (ret := ret) hM hp.1 hrc hrs hfr hlo hws hcw (fun a' U hW => word_at hW (Or.inl (by first | rfl | simp [Cond.onTables, Cond.keeps, Cond.steady])) hini)
  obtain ⟨hx, hb, hml, ho, -⟩ := S
  obtain ⟨-, ⟨cellB, hcB, hoB, hclB⟩, hPc⟩ := hp
  intro T hT X
  obtain ⟨v, vm₁, ⟨U', l2, c2, s2⟩, hW₁, X', ⟨g', mk, t, L, e1, e2, hq, h1, hL, h2, h3⟩, st⟩ := vx_callVW X hx (C := C) (hh := hh) (bytes := bytes) (maxL := maxL) (ret := ret) ho hl hin hse hcode hy hK (by rw [hT]; exact hcB) hoB hclB hg (hsize.trans hml.symm) (argsL := As) (rest := rest) (fun sig h => hn.trans (hlen sig h)) hstack hW (by rw [hb]; exact hdg)
    (fun vm₁ hW₁ => ⟨hf.1, hf.2, hPc (T.setVm vm₁) hT hW₁⟩)
  dsimp only [Pt.U, Pt.locs, Pt.cells, Pt.slots] at X' e1 e2 h1 h2 h3 st
  subst h1; subst h2; subst h3
  exact ⟨v, (T.setVm vm₁).calling g' mk (Value.ref b :: As).toArray, t, U', L, hT, X', hL, e1, e2, hq, st⟩
section
variable {y : MethodName} {bytes cc : ByteArray} {maxL nL mc ms n index : Nat} {ret : Option FieldType} {ws : List Cond} {rm : Room} {Pc : Array Value → State → Prop} {Qc : Array Value → State → Outcome → State → Prop} {XC : String → State → State → Prop} {free : Addr → Prop} {Ts : List Cond} {own C : String} {b : Addr} {As rest : List Value} {g : JFrame}
theorem vx_runVX {hh : List (Nat × Nat × Nat × Nat)} (S : CallFix p m c cc nL s args Ts own) (hM : vx_Met l y ws rm Pc Qc XC mc ms free) (cw : vx_CVW R s args own C index y bytes maxL ret hh ws rm mc ms n) (hp : PreV s H C b Pc As)
    (hg : g.method = m) (hn : As.length = n) (hsize : g.locals.size = nL) (hstack : g.stack = As.reverse ++ .ref b :: rest) (hW : 2 * g.monitorRoom + (rest.map fun v => v.category).sum ≤ 8) (hdg : decode cc g.pc = .ok (.invokevirtual index, 3)) (hf : cells + mc ≤ R.cells ∧ slots + ms ≤ R.slots) :
    vx_Run p l e R s m args below meth c H locs cells slots mc ms g rest (Qc (Value.ref b :: As).toArray) XC free := by
  obtain ⟨⟨hrc, hrs, hfr, hlo, hws, hcw⟩, hcode, hini, hy, hlen, hl, hin, hse⟩ := cw
  have hK : vx_Back l R p e below s args y 3 8 (PreOf R mc ms Pc) (PostOf Qc mc ms free) (vx_Post XC mc ms free) := vx_backW (hh := hh) (bytes := bytes) (maxL := maxL) (ret := ret) hM hp.1 hrc hrs hfr hlo hws hcw (fun a' U hW => word_at hW (Or.inl (by first | rfl | simp [Cond.onTables, Cond.keeps, Cond.steady])) hini)
  obtain ⟨hx, hb, hml, ho, -⟩ := S
  obtain ⟨-, ⟨cellB, hcB, hoB, hclB⟩, hPc⟩ := hp
  intro T hT X
  rcases vx_callVX X hx (C := C) (hh := hh) (bytes := bytes) (maxL := maxL) (ret := ret) ho hl hin hse hcode hy hK (by rw [hT]; exact hcB) hoB hclB hg (hsize.trans hml.symm) (argsL := As) (rest := rest) (fun sig h => hn.trans (hlen sig h)) hstack hW (by rw [hb]; exact hdg)
    (fun vm₁ hW₁ => ⟨hf.1, hf.2, hPc (T.setVm vm₁) hT hW₁⟩) with ⟨v, vm₁, ⟨U', l2, c2, s2⟩, hW₁, X', ⟨g', mk, t, L, e1, e2, hq, h1, hL, h2, h3⟩, st⟩ | ⟨q, vm₁, ⟨U', l2, c2, s2⟩, hW₁, X', ⟨g', mk, t, L, E, ce, e1, e2, hq, hce, hcv, hcl, h1, hL, h2, h3⟩, st⟩
  · dsimp only [Pt.U, Pt.locs, Pt.cells, Pt.slots] at X' e1 e2 h1 h2 h3 st
    subst h1; subst h2; subst h3
    exact Or.inl ⟨v, (T.setVm vm₁).calling g' mk (Value.ref b :: As).toArray, t, U', L, hT, X', hL, e1, e2, hq, st⟩
  · dsimp only [Pt.U, Pt.locs, Pt.cells, Pt.slots] at X' e1 e2 h1 h2 h3 st hcl
    subst h1; subst h2; subst h3
    exact Or.inr ⟨q, (T.setVm vm₁).calling g' mk (Value.ref b :: As).toArray, t, U', L, E, ce, hT, X', hL, e1, e2, hq, hce, hcv, vx_cls hW₁ hcl, st⟩
theorem vx_runSX {hh : List (Nat × Nat × Nat × Nat)} (S : CallFix p m c cc nL s args Ts own) (hM : vx_Met l y ws rm Pc Qc XC mc ms free) (cw : vx_CSW R s args own index y bytes maxL ret hh ws rm mc ms n) (hp : PreS s H Pc As)
    (hg : g.method = m) (hn : As.length = n) (hsize : g.locals.size = nL) (hstack : g.stack = As.reverse ++ rest) (hW : 2 * g.monitorRoom + (rest.map fun v => v.category).sum ≤ 8) (hdg : decode cc g.pc = .ok (.invokestatic index, 3)) (hf : cells + mc ≤ R.cells ∧ slots + ms ≤ R.slots) :
    vx_Run p l e R s m args below meth c H locs cells slots mc ms g rest (Qc As.toArray) XC free := by
  obtain ⟨⟨hrc, hrs, hfr, hlo, hws, hcw⟩, hcode, hini, hy, hlen, hl, hstt⟩ := cw
  have hK : vx_Back l R p e below s args y 3 8 (PreOf R mc ms Pc) (PostOf Qc mc ms free) (vx_Post XC mc ms free) := vx_backW (hh := hh) (bytes := bytes) (maxL := maxL) (ret := ret) hM hp.1 hrc hrs hfr hlo hws hcw (fun a' U hW => word_at hW (Or.inl (by first | rfl | simp [Cond.onTables, Cond.keeps, Cond.steady])) hini)
  obtain ⟨hx, hb, hml, ho, -⟩ := S
  intro T hT X
  rcases vx_callSX X hx (hh := hh) (bytes := bytes) (maxL := maxL) (ret := ret) ho hl hstt hini hcode hy hK hg (hsize.trans hml.symm) (argsL := As) (rest := rest) (fun sig h => hn.trans (hlen sig h)) hstack hW (by rw [hb]; exact hdg)
    (fun vm₁ hW₁ => ⟨hf.1, hf.2, hp.2 (T.setVm vm₁) hT hW₁⟩) with ⟨v, vm₁, ⟨U', l2, c2, s2⟩, hW₁, X', ⟨g', mk, t, L, e1, e2, hq, h1, hL, h2, h3⟩, st⟩ | ⟨q, vm₁, ⟨U', l2, c2, s2⟩, hW₁, X', ⟨g', mk, t, L, E, ce, e1, e2, hq, hce, hcv, hcl, h1, hL, h2, h3⟩, st⟩
  · dsimp only [Pt.U, Pt.locs, Pt.cells, Pt.slots] at X' e1 e2 h1 h2 h3 st
    subst h1; subst h2; subst h3
    exact Or.inl ⟨v, (T.setVm vm₁).calling g' mk As.toArray, t, U', L, hT, X', hL, e1, e2, hq, st⟩
  · dsimp only [Pt.U, Pt.locs, Pt.cells, Pt.slots] at X' e1 e2 h1 h2 h3 st hcl
    subst h1; subst h2; subst h3
    exact Or.inr ⟨q, (T.setVm vm₁).calling g' mk As.toArray, t, U', L, E, ce, hT, X', hL, e1, e2, hq, hce, hcv, vx_cls hW₁ hcl, st⟩
end
end VXH
theorem vx_ofWH {l : Launch} {y : MethodName} {ws ws' : List Cond} {rm : Room} {Pc : Array Value → State → Prop} {Qc : Array Value → State → Outcome → State → Prop} {XC : String → State → State → Prop} {mc ms : Nat} {free : Addr → Prop} {cc : ByteArray} {maxL : Nat} {ret : Option FieldType} {hh : List (Nat × Nat × Nat × Nat)}
    (hy : plainName y.cls = true) (hw : ws = Cond.codeWith y cc maxL ret hh :: ws')
    (body : ∀ p e s m args below meth c s₁, BodyLoose p l y (headSpec ws rm) cc maxL ret e s m args below meth c s₁ → c.maxLocals = maxL → Pc args s →
      W p l e (headSpec ws rm).room s m args below meth c s.heap [] 0 0 (vx_MQ below Qc XC args s mc ms free) (entryFrame m args maxL)) : vx_Met l y ws rm Pc Qc XC mc ms free := by
  refine MetFree.of_bodyS (code := cc) (maxLocals := maxL) (ret := ret) hy ?_ ?_
  · intro args s m h hn
    obtain ⟨m9, meth, c, hn9, h1, h2, h3, h4, -, h5, h6, -⟩ := Cond.codeWith_spec (atoms_spec (ws := ws) h _ (by rw [hw]; exact List.mem_cons_self))
    cases hn.symm.trans hn9
    exact ⟨meth, c, h1, h2, h3, h4, h5, h6⟩
  · intro p e s m args below meth c s₁ B hml hP _
    have hh0 : s₁.heap = s.heap := by rw [B.state]; rfl
    obtain ⟨t, a1, o, b1, b2, b3⟩ := body p e s m args below meth c s₁ B hml hP s₁ hh0 (Stand.of_body B)
    exact ⟨t, o, a1, b1, b2, b3⟩
/-! ===== END ===== -/
end
section
/-! ===== BEGIN printed: names, fields, word lists, decode rows ===== -/
def RX0 : String := "BoardNotation$Board"
def TX0 : u_T := fun k => match k with
  | 0 => ("BoardNotation$Board", "kinds", "LBoardNotation$Kinds;", true)
  | _ => ("BoardNotation$Board", "pieces", "[I", true)
def tyX0 : Nat → FieldType := fun k => match k with
  | 0 => .object "BoardNotation$Kinds"
  | _ => .array .int
abbrev wsX00 : List Cond := u_ws RX0 TX0 2
theorem nmX0 : ∀ a, a < 2 → ∀ b, b < 2 → a ≠ b → (TX0 a).2.1 ≠ (TX0 b).2.1 := by decide +kernel
theorem tyX0_ok : ∀ k, k < 2 → parseFieldDescriptor (TX0 k).2.2.1 = some (tyX0 k) := by decide +kernel
abbrev cX0_init : ByteArray := prog_2_method_1_code
def yX0_init : MethodName := ⟨RX0, "<init>", "(LBoardNotation$Kinds;)V"⟩
abbrev cX0_pieceOn : ByteArray := prog_2_method_2_code
def yX0_pieceOn : MethodName := ⟨RX0, "pieceOn", "(I)I"⟩
abbrev cX0_isTaken : ByteArray := prog_2_method_3_code
def yX0_isTaken : MethodName := ⟨RX0, "isTaken", "(I)Z"⟩
abbrev cX0_isOf : ByteArray := prog_2_method_4_code
def yX0_isOf : MethodName := ⟨RX0, "isOf", "(II)Z"⟩
abbrev cX0_replace : ByteArray := prog_2_method_5_code
def yX0_replace : MethodName := ⟨RX0, "replace", "(II)I"⟩
abbrev cX0_move : ByteArray := prog_2_method_6_code
def yX0_move : MethodName := ⟨RX0, "move", "(II)I"⟩
abbrev cX0_takeBack : ByteArray := prog_2_method_7_code
def yX0_takeBack : MethodName := ⟨RX0, "takeBack", "(III)V"⟩
abbrev cX0_reaches : ByteArray := prog_2_method_8_code
def yX0_reaches : MethodName := ⟨RX0, "reaches", "(II)Z"⟩
abbrev cX0_reachedFrom : ByteArray := prog_2_method_9_code
def yX0_reachedFrom : MethodName := ⟨RX0, "reachedFrom", "(I)J"⟩
abbrev cX0_royalsOf : ByteArray := prog_2_method_10_code
def yX0_royalsOf : MethodName := ⟨RX0, "royalsOf", "(I)J"⟩
abbrev cX0_inCheck : ByteArray := prog_2_method_11_code
def yX0_inCheck : MethodName := ⟨RX0, "inCheck", "(I)Z"⟩
abbrev cX0_keepsRoyalsSafe : ByteArray := prog_2_method_12_code
def yX0_keepsRoyalsSafe : MethodName := ⟨RX0, "keepsRoyalsSafe", "(II)Z"⟩
abbrev cX0_countLegalMoves : ByteArray := prog_2_method_13_code
def yX0_countLegalMoves : MethodName := ⟨RX0, "countLegalMoves", "(II)I"⟩
abbrev cX0_signBehind : ByteArray := prog_2_method_14_code
def yX0_signBehind : MethodName := ⟨RX0, "signBehind", "(II)I"⟩
def RX1 : String := "BoardNotation$Kinds"
def TX1 : u_T := fun k => match k with
  | 0 => ("BoardNotation$Kinds", "letters", "[I", true)
  | 1 => ("BoardNotation$Kinds", "stepCounts", "[I", true)
  | 2 => ("BoardNotation$Kinds", "stepX", "[I", true)
  | 3 => ("BoardNotation$Kinds", "stepY", "[I", true)
  | 4 => ("BoardNotation$Kinds", "stepReach", "[I", true)
  | _ => ("BoardNotation$Kinds", "size", "I", false)
def tyX1 : Nat → FieldType := fun k => match k with
  | 0 => .array .int
  | 1 => .array .int
  | 2 => .array .int
  | 3 => .array .int
  | 4 => .array .int
  | _ => .int
abbrev wsX10 : List Cond := u_ws RX1 TX1 6
theorem nmX1 : ∀ a, a < 6 → ∀ b, b < 6 → a ≠ b → (TX1 a).2.1 ≠ (TX1 b).2.1 := by decide +kernel
theorem tyX1_ok : ∀ k, k < 6 → parseFieldDescriptor (TX1 k).2.2.1 = some (tyX1 k) := by decide +kernel
abbrev cX1_init : ByteArray := prog_3_method_1_code
def yX1_init : MethodName := ⟨RX1, "<init>", "()V"⟩
abbrev cX1_size : ByteArray := prog_3_method_2_code
def yX1_size : MethodName := ⟨RX1, "size", "()I"⟩
abbrev cX1_has : ByteArray := prog_3_method_3_code
def yX1_has : MethodName := ⟨RX1, "has", "(I)Z"⟩
abbrev cX1_letter : ByteArray := prog_3_method_4_code
def yX1_letter : MethodName := ⟨RX1, "letter", "(I)I"⟩
abbrev cX1_stepCount : ByteArray := prog_3_method_5_code
def yX1_stepCount : MethodName := ⟨RX1, "stepCount", "(I)I"⟩
abbrev cX1_withLetter : ByteArray := prog_3_method_6_code
def yX1_withLetter : MethodName := ⟨RX1, "withLetter", "(I)I"⟩
abbrev cX1_include : ByteArray := prog_3_method_7_code
def yX1_include : MethodName := ⟨RX1, "include", "(I)I"⟩
abbrev cX1_includeStep : ByteArray := prog_3_method_8_code
def yX1_includeStep : MethodName := ⟨RX1, "includeStep", "(IIII)I"⟩
def RX2 : String := "BoardNotation$ShortForm"
def TX2 : u_T := fun k => match k with
  | 0 => ("BoardNotation$ShortForm", "misfit", "I", false)
  | 1 => ("BoardNotation$ShortForm", "letter", "I", false)
  | 2 => ("BoardNotation$ShortForm", "fromFile", "I", false)
  | 3 => ("BoardNotation$ShortForm", "fromRank", "I", false)
  | 4 => ("BoardNotation$ShortForm", "toFile", "I", false)
  | 5 => ("BoardNotation$ShortForm", "toRank", "I", false)
  | 6 => ("BoardNotation$ShortForm", "sign", "I", false)
  | _ => ("BoardNotation$ShortForm", "captures", "Z", false)
def tyX2 : Nat → FieldType := fun k => match k with
  | 0 => .int
  | 1 => .int
  | 2 => .int
  | 3 => .int
  | 4 => .int
  | 5 => .int
  | 6 => .int
  | _ => .boolean
abbrev wsX20 : List Cond := u_ws RX2 TX2 8
theorem nmX2 : ∀ a, a < 8 → ∀ b, b < 8 → a ≠ b → (TX2 a).2.1 ≠ (TX2 b).2.1 := by decide +kernel
theorem tyX2_ok : ∀ k, k < 8 → parseFieldDescriptor (TX2 k).2.2.1 = some (tyX2 k) := by decide +kernel
abbrev cX2_init : ByteArray := prog_4_method_1_code
def yX2_init : MethodName := ⟨RX2, "<init>", "()V"⟩
abbrev cX2_misfit : ByteArray := prog_4_method_2_code
def yX2_misfit : MethodName := ⟨RX2, "misfit", "()I"⟩
abbrev cX2_letter : ByteArray := prog_4_method_3_code
def yX2_letter : MethodName := ⟨RX2, "letter", "()I"⟩
abbrev cX2_to : ByteArray := prog_4_method_4_code
def yX2_to : MethodName := ⟨RX2, "to", "()I"⟩
abbrev cX2_sign : ByteArray := prog_4_method_5_code
def yX2_sign : MethodName := ⟨RX2, "sign", "()I"⟩
abbrev cX2_captures : ByteArray := prog_4_method_6_code
def yX2_captures : MethodName := ⟨RX2, "captures", "()Z"⟩
abbrev cX2_allowsFrom : ByteArray := prog_4_method_7_code
def yX2_allowsFrom : MethodName := ⟨RX2, "allowsFrom", "(I)Z"⟩
abbrev cX2_fits : ByteArray := prog_4_method_8_code
def yX2_fits : MethodName := ⟨RX2, "fits", "(LBoardNotation$Text;II)Z"⟩
abbrev cX2_forget : ByteArray := prog_4_method_9_code
def yX2_forget : MethodName := ⟨RX2, "forget", "()V"⟩
abbrev cX2_keep : ByteArray := prog_4_method_10_code
def yX2_keep : MethodName := ⟨RX2, "keep", "(I)V"⟩
abbrev cX2_stateBehind : ByteArray := prog_4_method_11_code
def yX2_stateBehind : MethodName := ⟨RX2, "stateBehind", "(II)I"⟩
abbrev cX2_stateBehindOrigin : ByteArray := prog_4_method_12_code
def yX2_stateBehindOrigin : MethodName := ⟨RX2, "stateBehindOrigin", "(I)I"⟩
abbrev cX2_isFile : ByteArray := prog_4_method_13_code
def yX2_isFile : MethodName := ⟨RX2, "isFile", "(I)Z"⟩
abbrev cX2_isRank : ByteArray := prog_4_method_14_code
def yX2_isRank : MethodName := ⟨RX2, "isRank", "(I)Z"⟩
abbrev cX2_isSign : ByteArray := prog_4_method_15_code
def yX2_isSign : MethodName := ⟨RX2, "isSign", "(I)Z"⟩
def RX3 : String := "BoardNotation$Text"
def TX3 : u_T := fun k => match k with
  | 0 => ("BoardNotation$Text", "bytes", "[I", true)
  | 1 => ("BoardNotation$Text", "size", "I", false)
  | _ => ("BoardNotation$Text", "spilled", "Z", false)
def tyX3 : Nat → FieldType := fun k => match k with
  | 0 => .array .int
  | 1 => .int
  | _ => .boolean
abbrev wsX30 : List Cond := u_ws RX3 TX3 3
theorem nmX3 : ∀ a, a < 3 → ∀ b, b < 3 → a ≠ b → (TX3 a).2.1 ≠ (TX3 b).2.1 := by decide +kernel
theorem tyX3_ok : ∀ k, k < 3 → parseFieldDescriptor (TX3 k).2.2.1 = some (tyX3 k) := by decide +kernel
abbrev cX3_init : ByteArray := prog_5_method_1_code
def yX3_init : MethodName := ⟨RX3, "<init>", "()V"⟩
abbrev cX3_size : ByteArray := prog_5_method_2_code
def yX3_size : MethodName := ⟨RX3, "size", "()I"⟩
abbrev cX3_hasSpilled : ByteArray := prog_5_method_3_code
def yX3_hasSpilled : MethodName := ⟨RX3, "hasSpilled", "()Z"⟩
abbrev cX3_get : ByteArray := prog_5_method_4_code
def yX3_get : MethodName := ⟨RX3, "get", "(I)I"⟩
abbrev cX3_wipe : ByteArray := prog_5_method_5_code
def yX3_wipe : MethodName := ⟨RX3, "wipe", "()V"⟩
abbrev cX3_append : ByteArray := prog_5_method_6_code
def yX3_append : MethodName := ⟨RX3, "append", "(I)V"⟩
abbrev cX3_separate : ByteArray := prog_5_method_7_code
def yX3_separate : MethodName := ⟨RX3, "separate", "()V"⟩
abbrev cX3_isOfWord : ByteArray := prog_5_method_8_code
def yX3_isOfWord : MethodName := ⟨RX3, "isOfWord", "(I)Z"⟩
abbrev cX3_isWordStart : ByteArray := prog_5_method_9_code
def yX3_isWordStart : MethodName := ⟨RX3, "isWordStart", "(I)Z"⟩
abbrev cX3_wordEnd : ByteArray := prog_5_method_10_code
def yX3_wordEnd : MethodName := ⟨RX3, "wordEnd", "(I)I"⟩
def RX4 : String := "BoardNotation$Tree"
def TX4 : u_T := fun k => match k with
  | 0 => ("BoardNotation$Tree", "above", "[I", true)
  | 1 => ("BoardNotation$Tree", "from", "[I", true)
  | 2 => ("BoardNotation$Tree", "to", "[I", true)
  | 3 => ("BoardNotation$Tree", "taken", "[I", true)
  | 4 => ("BoardNotation$Tree", "depth", "[I", true)
  | 5 => ("BoardNotation$Tree", "childCount", "[I", true)
  | 6 => ("BoardNotation$Tree", "firstChild", "[I", true)
  | 7 => ("BoardNotation$Tree", "nextBeside", "[I", true)
  | _ => ("BoardNotation$Tree", "size", "I", false)
def tyX4 : Nat → FieldType := fun k => match k with
  | 0 => .array .int
  | 1 => .array .int
  | 2 => .array .int
  | 3 => .array .int
  | 4 => .array .int
  | 5 => .array .int
  | 6 => .array .int
  | 7 => .array .int
  | _ => .int
abbrev wsX40 : List Cond := u_ws RX4 TX4 9
theorem nmX4 : ∀ a, a < 9 → ∀ b, b < 9 → a ≠ b → (TX4 a).2.1 ≠ (TX4 b).2.1 := by decide +kernel
theorem tyX4_ok : ∀ k, k < 9 → parseFieldDescriptor (TX4 k).2.2.1 = some (tyX4 k) := by decide +kernel
abbrev cX4_init : ByteArray := prog_6_method_1_code
def yX4_init : MethodName := ⟨RX4, "<init>", "()V"⟩
abbrev cX4_occupy : ByteArray := prog_6_method_2_code
def yX4_occupy : MethodName := ⟨RX4, "occupy", "(IIII)I"⟩
abbrev cX4_size : ByteArray := prog_6_method_3_code
def yX4_size : MethodName := ⟨RX4, "size", "()I"⟩
abbrev cX4_has : ByteArray := prog_6_method_4_code
def yX4_has : MethodName := ⟨RX4, "has", "(I)Z"⟩
abbrev cX4_above : ByteArray := prog_6_method_5_code
def yX4_above : MethodName := ⟨RX4, "above", "(I)I"⟩
abbrev cX4_from : ByteArray := prog_6_method_6_code
def yX4_from : MethodName := ⟨RX4, "from", "(I)I"⟩
abbrev cX4_to : ByteArray := prog_6_method_7_code
def yX4_to : MethodName := ⟨RX4, "to", "(I)I"⟩
abbrev cX4_taken : ByteArray := prog_6_method_8_code
def yX4_taken : MethodName := ⟨RX4, "taken", "(I)I"⟩
abbrev cX4_depth : ByteArray := prog_6_method_9_code
def yX4_depth : MethodName := ⟨RX4, "depth", "(I)I"⟩
abbrev cX4_childCount : ByteArray := prog_6_method_10_code
def yX4_childCount : MethodName := ⟨RX4, "childCount", "(I)I"⟩
abbrev cX4_keepTaken : ByteArray := prog_6_method_11_code
def yX4_keepTaken : MethodName := ⟨RX4, "keepTaken", "(II)V"⟩
abbrev cX4_fact : ByteArray := prog_6_method_12_code
def yX4_fact : MethodName := ⟨RX4, "fact", "(II)I"⟩
abbrev cX4_child : ByteArray := prog_6_method_13_code
def yX4_child : MethodName := ⟨RX4, "child", "(II)I"⟩
abbrev cX4_childOfMove : ByteArray := prog_6_method_14_code
def yX4_childOfMove : MethodName := ⟨RX4, "childOfMove", "(III)I"⟩
abbrev cX4_grow : ByteArray := prog_6_method_15_code
def yX4_grow : MethodName := ⟨RX4, "grow", "(III)I"⟩
abbrev cX4_placeOf : ByteArray := prog_6_method_16_code
def yX4_placeOf : MethodName := ⟨RX4, "placeOf", "(I)I"⟩
abbrev cX4_makeMain : ByteArray := prog_6_method_17_code
def yX4_makeMain : MethodName := ⟨RX4, "makeMain", "(I)I"⟩
abbrev cX4_cutToRoot : ByteArray := prog_6_method_18_code
def yX4_cutToRoot : MethodName := ⟨RX4, "cutToRoot", "()V"⟩
def RX5 : String := "BoardNotation"
def TX5 : u_T := fun k => match k with
  | 0 => ("BoardNotation", "kinds", "LBoardNotation$Kinds;", true)
  | 1 => ("BoardNotation", "board", "LBoardNotation$Board;", true)
  | 2 => ("BoardNotation", "tree", "LBoardNotation$Tree;", true)
  | 3 => ("BoardNotation", "form", "LBoardNotation$ShortForm;", true)
  | 4 => ("BoardNotation", "path", "[I", true)
  | 5 => ("BoardNotation", "bracketNodes", "[I", true)
  | 6 => ("BoardNotation", "tape", "LBoardNotation$Text;", false)
  | 7 => ("BoardNotation", "draft", "LBoardNotation$Text;", false)
  | 8 => ("BoardNotation", "present", "I", false)
  | 9 => ("BoardNotation", "openBrackets", "I", false)
  | 10 => ("BoardNotation", "moveIsDue", "Z", false)
  | 11 => ("BoardNotation", "judgedFrom", "I", false)
  | 12 => ("BoardNotation", "judgedTo", "I", false)
  | 13 => ("BoardNotation", "errorPlace", "I", false)
  | 14 => ("BoardNotation", "foundFrom", "I", false)
  | _ => ("BoardNotation", "foundTo", "I", false)
def tyX5 : Nat → FieldType := fun k => match k with
  | 0 => .object "BoardNotation$Kinds"
  | 1 => .object "BoardNotation$Board"
  | 2 => .object "BoardNotation$Tree"
  | 3 => .object "BoardNotation$ShortForm"
  | 4 => .array .int
  | 5 => .array .int
  | 6 => .object "BoardNotation$Text"
  | 7 => .object "BoardNotation$Text"
  | 8 => .int
  | 9 => .int
  | 10 => .boolean
  | 11 => .int
  | 12 => .int
  | 13 => .int
  | 14 => .int
  | _ => .int
abbrev wsX50 : List Cond := u_ws RX5 TX5 16
theorem nmX5 : ∀ a, a < 16 → ∀ b, b < 16 → a ≠ b → (TX5 a).2.1 ≠ (TX5 b).2.1 := by decide +kernel
theorem tyX5_ok : ∀ k, k < 16 → parseFieldDescriptor (TX5 k).2.2.1 = some (tyX5 k) := by decide +kernel
abbrev cX5_init : ByteArray := prog_1_method_1_code
def yX5_init : MethodName := ⟨RX5, "<init>", "()V"⟩
abbrev cX5_addKind : ByteArray := prog_1_method_2_code
def yX5_addKind : MethodName := ⟨RX5, "addKind", "(I)I"⟩
abbrev cX5_addStep : ByteArray := prog_1_method_3_code
def yX5_addStep : MethodName := ⟨RX5, "addStep", "(IIII)I"⟩
abbrev cX5_put : ByteArray := prog_1_method_4_code
def yX5_put : MethodName := ⟨RX5, "put", "(III)I"⟩
abbrev cX5_at : ByteArray := prog_1_method_5_code
def yX5_at : MethodName := ⟨RX5, "at", "(I)I"⟩
abbrev cX5_state : ByteArray := prog_1_method_6_code
def yX5_state : MethodName := ⟨RX5, "state", "(I)I"⟩
abbrev cX5_reason : ByteArray := prog_1_method_7_code
def yX5_reason : MethodName := ⟨RX5, "reason", "(II)I"⟩
abbrev cX5_play : ByteArray := prog_1_method_8_code
def yX5_play : MethodName := ⟨RX5, "play", "(II)I"⟩
abbrev cX5_feed : ByteArray := prog_1_method_9_code
def yX5_feed : MethodName := ⟨RX5, "feed", "(IIII)I"⟩
abbrev cX5_empty : ByteArray := prog_1_method_10_code
def yX5_empty : MethodName := ⟨RX5, "empty", "()I"⟩
abbrev cX5_read : ByteArray := prog_1_method_11_code
def yX5_read : MethodName := ⟨RX5, "read", "()I"⟩
abbrev cX5_found : ByteArray := prog_1_method_12_code
def yX5_found : MethodName := ⟨RX5, "found", "(I)I"⟩
abbrev cX5_write : ByteArray := prog_1_method_13_code
def yX5_write : MethodName := ⟨RX5, "write", "(II)I"⟩
abbrev cX5_byteAt : ByteArray := prog_1_method_14_code
def yX5_byteAt : MethodName := ⟨RX5, "byteAt", "(I)I"⟩
abbrev cX5_node : ByteArray := prog_1_method_15_code
def yX5_node : MethodName := ⟨RX5, "node", "(II)I"⟩
abbrev cX5_continuation : ByteArray := prog_1_method_16_code
def yX5_continuation : MethodName := ⟨RX5, "continuation", "(II)I"⟩
abbrev cX5_goTo : ByteArray := prog_1_method_17_code
def yX5_goTo : MethodName := ⟨RX5, "goTo", "(I)I"⟩
abbrev cX5_promote : ByteArray := prog_1_method_18_code
def yX5_promote : MethodName := ⟨RX5, "promote", "(I)I"⟩
abbrev cX5_writeGame : ByteArray := prog_1_method_19_code
def yX5_writeGame : MethodName := ⟨RX5, "writeGame", "()I"⟩
abbrev cX5_readGame : ByteArray := prog_1_method_20_code
def yX5_readGame : MethodName := ⟨RX5, "readGame", "()I"⟩
abbrev cX5_clear : ByteArray := prog_1_method_21_code
def yX5_clear : MethodName := ⟨RX5, "clear", "()I"⟩
abbrev cX5_branching : ByteArray := prog_1_method_22_code
def yX5_branching : MethodName := ⟨RX5, "branching", "()D"⟩
abbrev cX5_digest : ByteArray := prog_1_method_23_code
def yX5_digest : MethodName := ⟨RX5, "digest", "()J"⟩
abbrev cX5_isSquare : ByteArray := prog_1_method_24_code
def yX5_isSquare : MethodName := ⟨RX5, "isSquare", "(I)Z"⟩
abbrev cX5_isStep : ByteArray := prog_1_method_25_code
def yX5_isStep : MethodName := ⟨RX5, "isStep", "(II)Z"⟩
abbrev cX5_isByteOrNothing : ByteArray := prog_1_method_26_code
def yX5_isByteOrNothing : MethodName := ⟨RX5, "isByteOrNothing", "(I)Z"⟩
abbrev cX5_countByte : ByteArray := prog_1_method_27_code
def yX5_countByte : MethodName := ⟨RX5, "countByte", "(I)I"⟩
abbrev cX5_appendUnlessNothing : ByteArray := prog_1_method_28_code
def yX5_appendUnlessNothing : MethodName := ⟨RX5, "appendUnlessNothing", "(I)V"⟩
abbrev cX5_turn : ByteArray := prog_1_method_29_code
def yX5_turn : MethodName := ⟨RX5, "turn", "()I"⟩
abbrev cX5_reasonAgainst : ByteArray := prog_1_method_30_code
def yX5_reasonAgainst : MethodName := ⟨RX5, "reasonAgainst", "(II)I"⟩
abbrev cX5_stepDown : ByteArray := prog_1_method_31_code
def yX5_stepDown : MethodName := ⟨RX5, "stepDown", "(I)V"⟩
abbrev cX5_stepUp : ByteArray := prog_1_method_32_code
def yX5_stepUp : MethodName := ⟨RX5, "stepUp", "()V"⟩
abbrev cX5_visit : ByteArray := prog_1_method_33_code
def yX5_visit : MethodName := ⟨RX5, "visit", "(I)V"⟩
abbrev cX5_beginAnew : ByteArray := prog_1_method_34_code
def yX5_beginAnew : MethodName := ⟨RX5, "beginAnew", "()V"⟩
abbrev cX5_follow : ByteArray := prog_1_method_35_code
def yX5_follow : MethodName := ⟨RX5, "follow", "(II)Z"⟩
abbrev cX5_judge : ByteArray := prog_1_method_36_code
def yX5_judge : MethodName := ⟨RX5, "judge", "(II)I"⟩
abbrev cX5_openVariation : ByteArray := prog_1_method_37_code
def yX5_openVariation : MethodName := ⟨RX5, "openVariation", "()I"⟩
abbrev cX5_closeVariation : ByteArray := prog_1_method_38_code
def yX5_closeVariation : MethodName := ⟨RX5, "closeVariation", "()I"⟩
abbrev cX5_writeMove : ByteArray := prog_1_method_39_code
def yX5_writeMove : MethodName := ⟨RX5, "writeMove", "(LBoardNotation$Text;II)V"⟩
abbrev cX5_writeOrigin : ByteArray := prog_1_method_40_code
def yX5_writeOrigin : MethodName := ⟨RX5, "writeOrigin", "(LBoardNotation$Text;III)V"⟩
abbrev cX5_writeOpening : ByteArray := prog_1_method_41_code
def yX5_writeOpening : MethodName := ⟨RX5, "writeOpening", "(I)V"⟩
abbrev cX5_goOn : ByteArray := prog_1_method_42_code
def yX5_goOn : MethodName := ⟨RX5, "goOn", "(II)I"⟩
abbrev cX5_leaveLine : ByteArray := prog_1_method_43_code
def yX5_leaveLine : MethodName := ⟨RX5, "leaveLine", "()I"⟩
abbrev cX5_digestNode : ByteArray := prog_1_method_44_code
def yX5_digestNode : MethodName := ⟨RX5, "digestNode", "(JI)J"⟩
def RX6 : String := "BoardNotationModel"
def TX6 : u_T := fun k => match k with
  | 0 => ("BoardNotationModel", "thrown", "I", false)
  | 1 => ("BoardNotationModel", "kinds", "I", false)
  | 2 => ("BoardNotationModel", "letters", "[I", true)
  | 3 => ("BoardNotationModel", "manySteps", "[I", true)
  | 4 => ("BoardNotationModel", "steps", "[I", true)
  | 5 => ("BoardNotationModel", "first", "[I", true)
  | 6 => ("BoardNotationModel", "board", "[I", true)
  | 7 => ("BoardNotationModel", "trial", "[I", true)
  | 8 => ("BoardNotationModel", "nodes", "I", false)
  | 9 => ("BoardNotationModel", "present", "I", false)
  | 10 => ("BoardNotationModel", "table", "[I", true)
  | 11 => ("BoardNotationModel", "continuations", "[I", true)
  | 12 => ("BoardNotationModel", "tape", "[I", true)
  | 13 => ("BoardNotationModel", "taped", "I", false)
  | 14 => ("BoardNotationModel", "errorAt", "I", false)
  | 15 => ("BoardNotationModel", "readFrom", "I", false)
  | 16 => ("BoardNotationModel", "readTo", "I", false)
  | 17 => ("BoardNotationModel", "way", "[I", true)
  | 18 => ("BoardNotationModel", "form", "I", false)
  | 19 => ("BoardNotationModel", "from", "I", false)
  | 20 => ("BoardNotationModel", "to", "I", false)
  | 21 => ("BoardNotationModel", "badAt", "I", false)
  | 22 => ("BoardNotationModel", "paper", "[I", true)
  | 23 => ("BoardNotationModel", "written", "I", false)
  | 24 => ("BoardNotationModel", "isTooLong", "Z", false)
  | _ => ("BoardNotationModel", "pile", "[I", true)
def tyX6 : Nat → FieldType := fun k => match k with
  | 0 => .int
  | 1 => .int
  | 2 => .array .int
  | 3 => .array .int
  | 4 => .array .int
  | 5 => .array .int
  | 6 => .array .int
  | 7 => .array .int
  | 8 => .int
  | 9 => .int
  | 10 => .array .int
  | 11 => .array .int
  | 12 => .array .int
  | 13 => .int
  | 14 => .int
  | 15 => .int
  | 16 => .int
  | 17 => .array .int
  | 18 => .int
  | 19 => .int
  | 20 => .int
  | 21 => .int
  | 22 => .array .int
  | 23 => .int
  | 24 => .boolean
  | _ => .array .int
abbrev wsX60 : List Cond := u_ws RX6 TX6 26
theorem nmX6 : ∀ a, a < 26 → ∀ b, b < 26 → a ≠ b → (TX6 a).2.1 ≠ (TX6 b).2.1 := by decide +kernel
theorem tyX6_ok : ∀ k, k < 26 → parseFieldDescriptor (TX6 k).2.2.1 = some (tyX6 k) := by decide +kernel
abbrev cX6_init : ByteArray := prog_8_method_1_code
def yX6_init : MethodName := ⟨RX6, "<init>", "()V"⟩
abbrev cX6_thrown : ByteArray := prog_8_method_2_code
def yX6_thrown : MethodName := ⟨RX6, "thrown", "()I"⟩
abbrev cX6_fail : ByteArray := prog_8_method_3_code
def yX6_fail : MethodName := ⟨RX6, "fail", "(I)I"⟩
abbrev cX6_isIn : ByteArray := prog_8_method_4_code
def yX6_isIn : MethodName := ⟨RX6, "isIn", "(III)Z"⟩
abbrev cX6_isSquare : ByteArray := prog_8_method_5_code
def yX6_isSquare : MethodName := ⟨RX6, "isSquare", "(I)Z"⟩
abbrev cX6_isNode : ByteArray := prog_8_method_6_code
def yX6_isNode : MethodName := ⟨RX6, "isNode", "(I)Z"⟩
abbrev cX6_addKind : ByteArray := prog_8_method_7_code
def yX6_addKind : MethodName := ⟨RX6, "addKind", "(I)I"⟩
abbrev cX6_kindOf : ByteArray := prog_8_method_8_code
def yX6_kindOf : MethodName := ⟨RX6, "kindOf", "(I)I"⟩
abbrev cX6_addStep : ByteArray := prog_8_method_9_code
def yX6_addStep : MethodName := ⟨RX6, "addStep", "(IIII)I"⟩
abbrev cX6_put : ByteArray := prog_8_method_10_code
def yX6_put : MethodName := ⟨RX6, "put", "(III)I"⟩
abbrev cX6_get : ByteArray := prog_8_method_11_code
def yX6_get : MethodName := ⟨RX6, "get", "(II)I"⟩
abbrev cX6_sideOf : ByteArray := prog_8_method_12_code
def yX6_sideOf : MethodName := ⟨RX6, "sideOf", "(I)I"⟩
abbrev cX6_play : ByteArray := prog_8_method_13_code
def yX6_play : MethodName := ⟨RX6, "play", "([III)V"⟩
abbrev cX6_set : ByteArray := prog_8_method_14_code
def yX6_set : MethodName := ⟨RX6, "set", "(I)V"⟩
abbrev cX6_turn : ByteArray := prog_8_method_15_code
def yX6_turn : MethodName := ⟨RX6, "turn", "()I"⟩
abbrev cX6_target : ByteArray := prog_8_method_16_code
def yX6_target : MethodName := ⟨RX6, "target", "(IIII)I"⟩
abbrev cX6_reach : ByteArray := prog_8_method_17_code
def yX6_reach : MethodName := ⟨RX6, "reach", "(II)I"⟩
abbrev cX6_reaches : ByteArray := prog_8_method_18_code
def yX6_reaches : MethodName := ⟨RX6, "reaches", "([III)Z"⟩
abbrev cX6_isChecked : ByteArray := prog_8_method_19_code
def yX6_isChecked : MethodName := ⟨RX6, "isChecked", "([II)Z"⟩
abbrev cX6_isLegal : ByteArray := prog_8_method_20_code
def yX6_isLegal : MethodName := ⟨RX6, "isLegal", "(II)Z"⟩
abbrev cX6_legalMoves : ByteArray := prog_8_method_21_code
def yX6_legalMoves : MethodName := ⟨RX6, "legalMoves", "(II)I"⟩
abbrev cX6_at : ByteArray := prog_8_method_22_code
def yX6_at : MethodName := ⟨RX6, "at", "(I)I"⟩
abbrev cX6_stateTold : ByteArray := prog_8_method_23_code
def yX6_stateTold : MethodName := ⟨RX6, "stateTold", "(I)I"⟩
abbrev cX6_state : ByteArray := prog_8_method_24_code
def yX6_state : MethodName := ⟨RX6, "state", "(I)I"⟩
abbrev cX6_why : ByteArray := prog_8_method_25_code
def yX6_why : MethodName := ⟨RX6, "why", "(II)I"⟩
abbrev cX6_reason : ByteArray := prog_8_method_26_code
def yX6_reason : MethodName := ⟨RX6, "reason", "(II)I"⟩
abbrev cX6_continuation0 : ByteArray := prog_8_method_27_code
def yX6_continuation0 : MethodName := ⟨RX6, "continuation0", "(II)I"⟩
abbrev cX6_known : ByteArray := prog_8_method_28_code
def yX6_known : MethodName := ⟨RX6, "known", "(II)I"⟩
abbrev cX6_playOn : ByteArray := prog_8_method_29_code
def yX6_playOn : MethodName := ⟨RX6, "playOn", "(II)V"⟩
abbrev cX6_play_ : ByteArray := prog_8_method_30_code
def yX6_play_ : MethodName := ⟨RX6, "play", "(II)I"⟩
abbrev cX6_feed : ByteArray := prog_8_method_31_code
def yX6_feed : MethodName := ⟨RX6, "feed", "(IIII)I"⟩
abbrev cX6_empty : ByteArray := prog_8_method_32_code
def yX6_empty : MethodName := ⟨RX6, "empty", "()I"⟩
abbrev cX6_fits : ByteArray := prog_8_method_33_code
def yX6_fits : MethodName := ⟨RX6, "fits", "(IC)Z"⟩
abbrev cX6_findForm : ByteArray := prog_8_method_34_code
def yX6_findForm : MethodName := ⟨RX6, "findForm", "(II)Z"⟩
abbrev cX6_early : ByteArray := prog_8_method_35_code
def yX6_early : MethodName := ⟨RX6, "early", "(IC)I"⟩
abbrev cX6_late : ByteArray := prog_8_method_36_code
def yX6_late : MethodName := ⟨RX6, "late", "(IC)I"⟩
abbrev cX6_sign : ByteArray := prog_8_method_37_code
def yX6_sign : MethodName := ⟨RX6, "sign", "(II)I"⟩
abbrev cX6_readMove : ByteArray := prog_8_method_38_code
def yX6_readMove : MethodName := ⟨RX6, "readMove", "(II)I"⟩
abbrev cX6_read : ByteArray := prog_8_method_39_code
def yX6_read : MethodName := ⟨RX6, "read", "()I"⟩
abbrev cX6_found : ByteArray := prog_8_method_40_code
def yX6_found : MethodName := ⟨RX6, "found", "(I)I"⟩
abbrev cX6_put_ : ByteArray := prog_8_method_41_code
def yX6_put_ : MethodName := ⟨RX6, "put", "(I)V"⟩
abbrev cX6_putMove : ByteArray := prog_8_method_42_code
def yX6_putMove : MethodName := ⟨RX6, "putMove", "(II)V"⟩
abbrev cX6_toTape : ByteArray := prog_8_method_43_code
def yX6_toTape : MethodName := ⟨RX6, "toTape", "()I"⟩
abbrev cX6_write : ByteArray := prog_8_method_44_code
def yX6_write : MethodName := ⟨RX6, "write", "(II)I"⟩
abbrev cX6_byteAt : ByteArray := prog_8_method_45_code
def yX6_byteAt : MethodName := ⟨RX6, "byteAt", "(I)I"⟩
abbrev cX6_node : ByteArray := prog_8_method_46_code
def yX6_node : MethodName := ⟨RX6, "node", "(II)I"⟩
abbrev cX6_continuation : ByteArray := prog_8_method_47_code
def yX6_continuation : MethodName := ⟨RX6, "continuation", "(II)I"⟩
abbrev cX6_goTo : ByteArray := prog_8_method_48_code
def yX6_goTo : MethodName := ⟨RX6, "goTo", "(I)I"⟩
abbrev cX6_promote : ByteArray := prog_8_method_49_code
def yX6_promote : MethodName := ⟨RX6, "promote", "(I)I"⟩
abbrev cX6_blank : ByteArray := prog_8_method_50_code
def yX6_blank : MethodName := ⟨RX6, "blank", "()V"⟩
abbrev cX6_putNode : ByteArray := prog_8_method_51_code
def yX6_putNode : MethodName := ⟨RX6, "putNode", "(I)V"⟩
abbrev cX6_putBelow : ByteArray := prog_8_method_52_code
def yX6_putBelow : MethodName := ⟨RX6, "putBelow", "(I)V"⟩
abbrev cX6_writeGame : ByteArray := prog_8_method_53_code
def yX6_writeGame : MethodName := ⟨RX6, "writeGame", "()I"⟩
abbrev cX6_clearNodes : ByteArray := prog_8_method_54_code
def yX6_clearNodes : MethodName := ⟨RX6, "clearNodes", "()V"⟩
abbrev cX6_stop : ByteArray := prog_8_method_55_code
def yX6_stop : MethodName := ⟨RX6, "stop", "(II)I"⟩
abbrev cX6_isWord : ByteArray := prog_8_method_56_code
def yX6_isWord : MethodName := ⟨RX6, "isWord", "(I)Z"⟩
abbrev cX6_readGame : ByteArray := prog_8_method_57_code
def yX6_readGame : MethodName := ⟨RX6, "readGame", "()I"⟩
abbrev cX6_clear : ByteArray := prog_8_method_58_code
def yX6_clear : MethodName := ⟨RX6, "clear", "()I"⟩
abbrev cX6_branching : ByteArray := prog_8_method_59_code
def yX6_branching : MethodName := ⟨RX6, "branching", "()D"⟩
abbrev cX6_digest : ByteArray := prog_8_method_60_code
def yX6_digest : MethodName := ⟨RX6, "digest", "()J"⟩
def RJx145de : String := "java/io/Serializable"
def TJx145de : u_T := fun k => match k with
  | _ => ("", "", "", false)
def tyJx145de : Nat → FieldType := fun k => match k with
  | _ => .int
abbrev wsJx145de0 : List Cond := u_ws RJx145de TJx145de 0
theorem nmJx145de : ∀ a, a < 0 → ∀ b, b < 0 → a ≠ b → (TJx145de a).2.1 ≠ (TJx145de b).2.1 := by decide +kernel
theorem tyJx145de_ok : ∀ k, k < 0 → parseFieldDescriptor (TJx145de k).2.2.1 = some (tyJx145de k) := by decide +kernel
def RJx9f9b0 : String := "java/lang/CharSequence"
def TJx9f9b0 : u_T := fun k => match k with
  | _ => ("", "", "", false)
def tyJx9f9b0 : Nat → FieldType := fun k => match k with
  | _ => .int
abbrev wsJx9f9b00 : List Cond := u_ws RJx9f9b0 TJx9f9b0 0
theorem nmJx9f9b0 : ∀ a, a < 0 → ∀ b, b < 0 → a ≠ b → (TJx9f9b0 a).2.1 ≠ (TJx9f9b0 b).2.1 := by decide +kernel
theorem tyJx9f9b0_ok : ∀ k, k < 0 → parseFieldDescriptor (TJx9f9b0 k).2.2.1 = some (tyJx9f9b0 k) := by decide +kernel
def RJ11 : String := "java/lang/Character"
def TJ11 : u_T := fun k => match k with
  | _ => ("", "", "", false)
def tyJ11 : Nat → FieldType := fun k => match k with
  | _ => .int
abbrev wsJ110 : List Cond := u_ws RJ11 TJ11 0
theorem nmJ11 : ∀ a, a < 0 → ∀ b, b < 0 → a ≠ b → (TJ11 a).2.1 ≠ (TJ11 b).2.1 := by decide +kernel
theorem tyJ11_ok : ∀ k, k < 0 → parseFieldDescriptor (TJ11 k).2.2.1 = some (tyJ11 k) := by decide +kernel
abbrev cJ11_isValidCodePoint_9a6ad : ByteArray := prog_9_method_11_code
def yJ11_isValidCodePoint_9a6ad : MethodName := ⟨RJ11, "isValidCodePoint", "(I)Z"⟩
abbrev cJ11_highSurrogate_5068e : ByteArray := prog_9_method_28_code
def yJ11_highSurrogate_5068e : MethodName := ⟨RJ11, "highSurrogate", "(I)C"⟩
abbrev cJ11_lowSurrogate_5068e : ByteArray := prog_9_method_29_code
def yJ11_lowSurrogate_5068e : MethodName := ⟨RJ11, "lowSurrogate", "(I)C"⟩
def RJxb160c : String := "java/lang/Comparable"
def TJxb160c : u_T := fun k => match k with
  | _ => ("", "", "", false)
def tyJxb160c : Nat → FieldType := fun k => match k with
  | _ => .int
abbrev wsJxb160c0 : List Cond := u_ws RJxb160c TJxb160c 0
theorem nmJxb160c : ∀ a, a < 0 → ∀ b, b < 0 → a ≠ b → (TJxb160c a).2.1 ≠ (TJxb160c b).2.1 := by decide +kernel
theorem tyJxb160c_ok : ∀ k, k < 0 → parseFieldDescriptor (TJxb160c k).2.2.1 = some (tyJxb160c k) := by decide +kernel
def RJ9 : String := "java/lang/Math"
def TJ9 : u_T := fun k => match k with
  | _ => ("", "", "", false)
def tyJ9 : Nat → FieldType := fun k => match k with
  | _ => .int
abbrev wsJ90 : List Cond := u_ws RJ9 TJ9 0
theorem nmJ9 : ∀ a, a < 0 → ∀ b, b < 0 → a ≠ b → (TJ9 a).2.1 ≠ (TJ9 b).2.1 := by decide +kernel
theorem tyJ9_ok : ∀ k, k < 0 → parseFieldDescriptor (TJ9 k).2.2.1 = some (tyJ9 k) := by decide +kernel
abbrev cJ9_max_7cf53 : ByteArray := prog_14_method_65_code
def yJ9_max_7cf53 : MethodName := ⟨RJ9, "max", "(II)I"⟩
abbrev cJ9_min_7cf53 : ByteArray := prog_14_method_69_code
def yJ9_min_7cf53 : MethodName := ⟨RJ9, "min", "(II)I"⟩
def RJ0 : String := "java/lang/String"
def TJ0 : u_T := fun k => match k with
  | _ => ("", "", "", false)
def tyJ0 : Nat → FieldType := fun k => match k with
  | _ => .int
abbrev wsJ00 : List Cond := u_ws RJ0 TJ0 0
theorem nmJ0 : ∀ a, a < 0 → ∀ b, b < 0 → a ≠ b → (TJ0 a).2.1 ≠ (TJ0 b).2.1 := by decide +kernel
theorem tyJ0_ok : ∀ k, k < 0 → parseFieldDescriptor (TJ0 k).2.2.1 = some (tyJ0 k) := by decide +kernel
abbrev cJ0_length_8abf5 : ByteArray := prog_16_method_54_code
def yJ0_length_8abf5 : MethodName := ⟨RJ0, "length", "()I"⟩
abbrev cJ0_charAt_5068e : ByteArray := prog_16_method_56_code
def yJ0_charAt_5068e : MethodName := ⟨RJ0, "charAt", "(I)C"⟩
abbrev cJ0_indexOf_0f7a4 : ByteArray := prog_16_method_79_code
def yJ0_indexOf_0f7a4 : MethodName := ⟨RJ0, "indexOf", "(I)I"⟩
abbrev cJ0_indexOf_7cf53 : ByteArray := prog_16_method_80_code
def yJ0_indexOf_7cf53 : MethodName := ⟨RJ0, "indexOf", "(II)I"⟩
abbrev cJ0_lastIndexOf_0f7a4 : ByteArray := prog_16_method_82_code
def yJ0_lastIndexOf_0f7a4 : MethodName := ⟨RJ0, "lastIndexOf", "(I)I"⟩
abbrev cJ0_lastIndexOf_7cf53 : ByteArray := prog_16_method_83_code
def yJ0_lastIndexOf_7cf53 : MethodName := ⟨RJ0, "lastIndexOf", "(II)I"⟩
abbrev cJ0_coder_7d493 : ByteArray := prog_16_method_152_code
def yJ0_coder_7d493 : MethodName := ⟨RJ0, "coder", "()B"⟩
abbrev cJ0_isLatin1_aae02 : ByteArray := prog_16_method_154_code
def yJ0_isLatin1_aae02 : MethodName := ⟨RJ0, "isLatin1", "()Z"⟩
abbrev cJ0_checkIndex_df160 : ByteArray := prog_16_method_155_code
def yJ0_checkIndex_df160 : MethodName := ⟨RJ0, "checkIndex", "(II)V"⟩
abbrev cJ0_checkBoundsBeginEnd_23922 : ByteArray := prog_16_method_158_code
def yJ0_checkBoundsBeginEnd_23922 : MethodName := ⟨RJ0, "checkBoundsBeginEnd", "(III)V"⟩
def RJ1 : String := "java/lang/StringLatin1"
def TJ1 : u_T := fun k => match k with
  | _ => ("", "", "", false)
def tyJ1 : Nat → FieldType := fun k => match k with
  | _ => .int
abbrev wsJ10 : List Cond := u_ws RJ1 TJ1 0
theorem nmJ1 : ∀ a, a < 0 → ∀ b, b < 0 → a ≠ b → (TJ1 a).2.1 ≠ (TJ1 b).2.1 := by decide +kernel
theorem tyJ1_ok : ∀ k, k < 0 → parseFieldDescriptor (TJ1 k).2.2.1 = some (tyJ1 k) := by decide +kernel
abbrev cJ1_charAt_3b067 : ByteArray := prog_17_method_2_code
def yJ1_charAt_3b067 : MethodName := ⟨RJ1, "charAt", "([BI)C"⟩
abbrev cJ1_canEncode_9a6ad : ByteArray := prog_17_method_4_code
def yJ1_canEncode_9a6ad : MethodName := ⟨RJ1, "canEncode", "(I)Z"⟩
abbrev cJ1_indexOf_4cfef : ByteArray := prog_17_method_22_code
def yJ1_indexOf_4cfef : MethodName := ⟨RJ1, "indexOf", "([BIII)I"⟩
abbrev cJ1_indexOfChar_4cfef : ByteArray := prog_17_method_23_code
def yJ1_indexOfChar_4cfef : MethodName := ⟨RJ1, "indexOfChar", "([BIII)I"⟩
abbrev cJ1_lastIndexOf_7d655 : ByteArray := prog_17_method_27_code
def yJ1_lastIndexOf_7d655 : MethodName := ⟨RJ1, "lastIndexOf", "([BII)I"⟩
def RJ2 : String := "java/lang/StringUTF16"
def TJ2 : u_T := fun k => match k with
  | _ => ("", "", "", false)
def tyJ2 : Nat → FieldType := fun k => match k with
  | _ => .int
abbrev wsJ20 : List Cond := u_ws RJ2 TJ2 0
theorem nmJ2 : ∀ a, a < 0 → ∀ b, b < 0 → a ≠ b → (TJ2 a).2.1 ≠ (TJ2 b).2.1 := by decide +kernel
theorem tyJ2_ok : ∀ k, k < 0 → parseFieldDescriptor (TJ2 k).2.2.1 = some (tyJ2 k) := by decide +kernel
abbrev cJ2_getChar_3b067 : ByteArray := prog_18_method_5_code
def yJ2_getChar_3b067 : MethodName := ⟨RJ2, "getChar", "([BI)C"⟩
abbrev cJ2_length_9d52b : ByteArray := prog_18_method_6_code
def yJ2_length_9d52b : MethodName := ⟨RJ2, "length", "([B)I"⟩
abbrev cJ2_indexOf_4cfef : ByteArray := prog_18_method_40_code
def yJ2_indexOf_4cfef : MethodName := ⟨RJ2, "indexOf", "([BIII)I"⟩
abbrev cJ2_indexOfChar_4cfef : ByteArray := prog_18_method_47_code
def yJ2_indexOfChar_4cfef : MethodName := ⟨RJ2, "indexOfChar", "([BIII)I"⟩
abbrev cJ2_indexOfCharUnsafe_4cfef : ByteArray := prog_18_method_48_code
def yJ2_indexOfCharUnsafe_4cfef : MethodName := ⟨RJ2, "indexOfCharUnsafe", "([BIII)I"⟩
abbrev cJ2_indexOfSupplementary_4cfef : ByteArray := prog_18_method_49_code
def yJ2_indexOfSupplementary_4cfef : MethodName := ⟨RJ2, "indexOfSupplementary", "([BIII)I"⟩
abbrev cJ2_lastIndexOf_7d655 : ByteArray := prog_18_method_51_code
def yJ2_lastIndexOf_7d655 : MethodName := ⟨RJ2, "lastIndexOf", "([BII)I"⟩
abbrev cJ2_lastIndexOfSupplementary_7d655 : ByteArray := prog_18_method_52_code
def yJ2_lastIndexOfSupplementary_7d655 : MethodName := ⟨RJ2, "lastIndexOfSupplementary", "([BII)I"⟩
abbrev cJ2_charAt_3b067 : ByteArray := prog_18_method_83_code
def yJ2_charAt_3b067 : MethodName := ⟨RJ2, "charAt", "([BI)C"⟩
abbrev cJ2_checkIndex_2214a : ByteArray := prog_18_method_91_code
def yJ2_checkIndex_2214a : MethodName := ⟨RJ2, "checkIndex", "(I[B)V"⟩
abbrev cJ2_checkBoundsBeginEnd_d044e : ByteArray := prog_18_method_93_code
def yJ2_checkBoundsBeginEnd_d044e : MethodName := ⟨RJ2, "checkBoundsBeginEnd", "(II[B)V"⟩
def RJ10 : String := "java/lang/System"
def TJ10 : u_T := fun k => match k with
  | _ => ("", "", "", false)
def tyJ10 : Nat → FieldType := fun k => match k with
  | _ => .int
abbrev wsJ100 : List Cond := u_ws RJ10 TJ10 0
theorem nmJ10 : ∀ a, a < 0 → ∀ b, b < 0 → a ≠ b → (TJ10 a).2.1 ≠ (TJ10 b).2.1 := by decide +kernel
theorem tyJ10_ok : ∀ k, k < 0 → parseFieldDescriptor (TJ10 k).2.2.1 = some (tyJ10 k) := by decide +kernel
def RJxfd54e : String := "java/lang/constant/Constable"
def TJxfd54e : u_T := fun k => match k with
  | _ => ("", "", "", false)
def tyJxfd54e : Nat → FieldType := fun k => match k with
  | _ => .int
abbrev wsJxfd54e0 : List Cond := u_ws RJxfd54e TJxfd54e 0
theorem nmJxfd54e : ∀ a, a < 0 → ∀ b, b < 0 → a ≠ b → (TJxfd54e a).2.1 ≠ (TJxfd54e b).2.1 := by decide +kernel
theorem tyJxfd54e_ok : ∀ k, k < 0 → parseFieldDescriptor (TJxfd54e k).2.2.1 = some (tyJxfd54e k) := by decide +kernel
def RJx3cf43 : String := "java/lang/constant/ConstantDesc"
def TJx3cf43 : u_T := fun k => match k with
  | _ => ("", "", "", false)
def tyJx3cf43 : Nat → FieldType := fun k => match k with
  | _ => .int
abbrev wsJx3cf430 : List Cond := u_ws RJx3cf43 TJx3cf43 0
theorem nmJx3cf43 : ∀ a, a < 0 → ∀ b, b < 0 → a ≠ b → (TJx3cf43 a).2.1 ≠ (TJx3cf43 b).2.1 := by decide +kernel
theorem tyJx3cf43_ok : ∀ k, k < 0 → parseFieldDescriptor (TJx3cf43 k).2.2.1 = some (tyJx3cf43 k) := by decide +kernel
def RJ7 : String := "java/util/Arrays"
def TJ7 : u_T := fun k => match k with
  | _ => ("", "", "", false)
def tyJ7 : Nat → FieldType := fun k => match k with
  | _ => .int
abbrev wsJ70 : List Cond := u_ws RJ7 TJ7 0
theorem nmJ7 : ∀ a, a < 0 → ∀ b, b < 0 → a ≠ b → (TJ7 a).2.1 ≠ (TJ7 b).2.1 := by decide +kernel
theorem tyJ7_ok : ∀ k, k < 0 → parseFieldDescriptor (TJ7 k).2.2.1 = some (tyJ7 k) := by decide +kernel
abbrev cJ7_fill_53178 : ByteArray := prog_21_method_103_code
def yJ7_fill_53178 : MethodName := ⟨RJ7, "fill", "([II)V"⟩
def RJ3 : String := "jdk/internal/util/Preconditions"
def TJ3 : u_T := fun k => match k with
  | _ => ("", "", "", false)
def tyJ3 : Nat → FieldType := fun k => match k with
  | _ => .int
abbrev wsJ30 : List Cond := u_ws RJ3 TJ3 0
theorem nmJ3 : ∀ a, a < 0 → ∀ b, b < 0 → a ≠ b → (TJ3 a).2.1 ≠ (TJ3 b).2.1 := by decide +kernel
theorem tyJ3_ok : ∀ k, k < 0 → parseFieldDescriptor (TJ3 k).2.2.1 = some (tyJ3 k) := by decide +kernel
abbrev cJ3_checkIndex_8e157 : ByteArray := prog_22_method_11_code
def yJ3_checkIndex_8e157 : MethodName := ⟨RJ3, "checkIndex", "(IILjava/util/function/BiFunction;)I"⟩
abbrev cJ3_checkFromToIndex_8c36e : ByteArray := prog_22_method_12_code
def yJ3_checkFromToIndex_8c36e : MethodName := ⟨RJ3, "checkFromToIndex", "(IIILjava/util/function/BiFunction;)I"⟩
def RL : String := "BoardNotationLaw"
abbrev cL_addKind : ByteArray := method_3_code
def yL_addKind : MethodName := ⟨RL, "addKind", "(LBoardNotation;I[J)I"⟩
abbrev cL_addStep : ByteArray := method_4_code
def yL_addStep : MethodName := ⟨RL, "addStep", "(LBoardNotation;IIII[J)I"⟩
abbrev cL_put : ByteArray := method_5_code
def yL_put : MethodName := ⟨RL, "put", "(LBoardNotation;III[J)I"⟩
abbrev cL_at : ByteArray := method_6_code
def yL_at : MethodName := ⟨RL, "at", "(LBoardNotation;I[J)I"⟩
abbrev cL_state : ByteArray := method_7_code
def yL_state : MethodName := ⟨RL, "state", "(LBoardNotation;I[J)I"⟩
abbrev cL_reason : ByteArray := method_8_code
def yL_reason : MethodName := ⟨RL, "reason", "(LBoardNotation;II[J)I"⟩
abbrev cL_play : ByteArray := method_9_code
def yL_play : MethodName := ⟨RL, "play", "(LBoardNotation;II[J)I"⟩
abbrev cL_feed : ByteArray := method_10_code
def yL_feed : MethodName := ⟨RL, "feed", "(LBoardNotation;IIII[J)I"⟩
abbrev cL_found : ByteArray := method_11_code
def yL_found : MethodName := ⟨RL, "found", "(LBoardNotation;I[J)I"⟩
abbrev cL_write : ByteArray := method_12_code
def yL_write : MethodName := ⟨RL, "write", "(LBoardNotation;II[J)I"⟩
abbrev cL_byteAt : ByteArray := method_13_code
def yL_byteAt : MethodName := ⟨RL, "byteAt", "(LBoardNotation;I[J)I"⟩
abbrev cL_node : ByteArray := method_14_code
def yL_node : MethodName := ⟨RL, "node", "(LBoardNotation;II[J)I"⟩
abbrev cL_continuation : ByteArray := method_15_code
def yL_continuation : MethodName := ⟨RL, "continuation", "(LBoardNotation;II[J)I"⟩
abbrev cL_goTo : ByteArray := method_16_code
def yL_goTo : MethodName := ⟨RL, "goTo", "(LBoardNotation;I[J)I"⟩
abbrev cL_promote : ByteArray := method_17_code
def yL_promote : MethodName := ⟨RL, "promote", "(LBoardNotation;I[J)I"⟩
abbrev cL_writeGame : ByteArray := method_18_code
def yL_writeGame : MethodName := ⟨RL, "writeGame", "(LBoardNotation;[J)I"⟩
abbrev cL_law : ByteArray := code
def yL_law : MethodName := ⟨RL, "law", "([I)Z"⟩
def wsJ7_fill_53178 : List Cond := .code yJ7_fill_53178 cJ7_fill_53178 4 none :: ([])
def wsX0_init : List Cond := .code yX0_init cX0_init 2 none :: ([.methodLink RX0 3 objectInit, .instanceMethod objectInit, .code objectInit ⟨#[0xb1]⟩ 1 none, .arrayClass .int, .fieldLink RX0 9 "BoardNotation$Board" "pieces" "[I", .fieldLink RX0 15 "BoardNotation$Board" "kinds" "LBoardNotation$Kinds;", .methodLink RX0 19 yJ7_fill_53178, .static yJ7_fill_53178, .initialized RJ7, .code yJ7_fill_53178 cJ7_fill_53178 4 none] ++ wsX00)
def wsX5_isSquare : List Cond := .code yX5_isSquare cX5_isSquare 1 (some .boolean) :: ([])
def wsX0_pieceOn : List Cond := .code yX0_pieceOn cX0_pieceOn 2 (some .int) :: ([.fieldLink RX0 9 "BoardNotation$Board" "pieces" "[I", .static yX5_isSquare, .initialized RX5, .code yX5_isSquare cX5_isSquare 1 (some .boolean)] ++ wsX00)
def wsX0_isTaken : List Cond := .code yX0_isTaken cX0_isTaken 2 (some .boolean) :: ([.methodLink RX0 29 yX0_pieceOn, .instanceMethod yX0_pieceOn, .selects RX0 yX0_pieceOn yX0_pieceOn, .initialized RX0, .code yX0_pieceOn cX0_pieceOn 2 (some .int), .fieldLink RX0 9 "BoardNotation$Board" "pieces" "[I", .static yX5_isSquare, .initialized RX5, .code yX5_isSquare cX5_isSquare 1 (some .boolean)] ++ wsX00)
def wsX0_isOf : List Cond := .code yX0_isOf cX0_isOf 3 (some .boolean) :: ([.methodLink RX0 33 yX0_isTaken, .instanceMethod yX0_isTaken, .selects RX0 yX0_isTaken yX0_isTaken, .initialized RX0, .code yX0_isTaken cX0_isTaken 2 (some .boolean), .methodLink RX0 29 yX0_pieceOn, .instanceMethod yX0_pieceOn, .selects RX0 yX0_pieceOn yX0_pieceOn, .code yX0_pieceOn cX0_pieceOn 2 (some .int), .fieldLink RX0 9 "BoardNotation$Board" "pieces" "[I", .static yX5_isSquare, .initialized RX5, .code yX5_isSquare cX5_isSquare 1 (some .boolean)] ++ wsX00)
def wsX0_replace : List Cond := .code yX0_replace cX0_replace 4 (some .int) :: ([.fieldLink RX0 9 "BoardNotation$Board" "pieces" "[I", .static yX5_isSquare, .initialized RX5, .code yX5_isSquare cX5_isSquare 1 (some .boolean)] ++ wsX00)
def wsX0_move : List Cond := .code yX0_move cX0_move 4 (some .int) :: ([.fieldLink RX0 9 "BoardNotation$Board" "pieces" "[I", .static yX5_isSquare, .initialized RX5, .code yX5_isSquare cX5_isSquare 1 (some .boolean)] ++ wsX00)
def wsX0_takeBack : List Cond := .code yX0_takeBack cX0_takeBack 4 none :: ([.fieldLink RX0 9 "BoardNotation$Board" "pieces" "[I", .static yX5_isSquare, .initialized RX5, .code yX5_isSquare cX5_isSquare 1 (some .boolean)] ++ wsX00)
def wsX0_reachedFrom : List Cond := .code yX0_reachedFrom cX0_reachedFrom 16 (some .long) :: ([.fieldLink RX0 9 "BoardNotation$Board" "pieces" "[I", .fieldLink RX0 15 "BoardNotation$Board" "kinds" "LBoardNotation$Kinds;"] ++ wsX00 ++ wsX10)
def wsX0_reaches : List Cond := .code yX0_reaches cX0_reaches 3 (some .boolean) :: ([.static yX5_isSquare, .initialized RX5, .code yX5_isSquare cX5_isSquare 1 (some .boolean), .methodLink RX0 36 yX0_reachedFrom, .instanceMethod yX0_reachedFrom, .selects RX0 yX0_reachedFrom yX0_reachedFrom, .initialized RX0, .code yX0_reachedFrom cX0_reachedFrom 16 (some .long), .fieldLink RX0 9 "BoardNotation$Board" "pieces" "[I", .fieldLink RX0 15 "BoardNotation$Board" "kinds" "LBoardNotation$Kinds;"] ++ wsX00 ++ wsX10)
def wsX0_royalsOf : List Cond := .code yX0_royalsOf cX0_royalsOf 5 (some .long) :: ([.fieldLink RX0 9 "BoardNotation$Board" "pieces" "[I"] ++ wsX00)
def wsX0_inCheck : List Cond := .code yX0_inCheck cX0_inCheck 6 (some .boolean) :: ([.fieldLink RX0 9 "BoardNotation$Board" "pieces" "[I", .methodLink RX0 58 yX0_royalsOf, .instanceMethod yX0_royalsOf, .selects RX0 yX0_royalsOf yX0_royalsOf, .initialized RX0, .code yX0_royalsOf cX0_royalsOf 5 (some .long), .methodLink RX0 36 yX0_reachedFrom, .instanceMethod yX0_reachedFrom, .selects RX0 yX0_reachedFrom yX0_reachedFrom, .code yX0_reachedFrom cX0_reachedFrom 16 (some .long), .fieldLink RX0 15 "BoardNotation$Board" "kinds" "LBoardNotation$Kinds;"] ++ wsX00 ++ wsX10)
def wsX0_keepsRoyalsSafe_r1 : List Cond := [Cond.methodLink RX0 29 yX0_pieceOn, Cond.instanceMethod yX0_pieceOn, Cond.selects RX0 yX0_pieceOn yX0_pieceOn, Cond.initialized RX0, Cond.code yX0_pieceOn cX0_pieceOn 2 (some .int), Cond.fieldLink RX0 9 "BoardNotation$Board" "pieces" "[I", Cond.static yX5_isSquare, Cond.initialized RX5, Cond.code yX5_isSquare cX5_isSquare 1 (some .boolean), Cond.methodLink RX0 61 yX0_move, Cond.instanceMethod yX0_move, Cond.selects RX0 yX0_move yX0_move, Cond.code yX0_move cX0_move 4 (some .int), Cond.methodLink RX0 65 yX0_inCheck, Cond.instanceMethod yX0_inCheck, Cond.selects RX0 yX0_inCheck yX0_inCheck, Cond.code yX0_inCheck cX0_inCheck 6 (some .boolean), Cond.methodLink RX0 58 yX0_royalsOf, Cond.instanceMethod yX0_royalsOf, Cond.selects RX0 yX0_royalsOf yX0_royalsOf, Cond.code yX0_royalsOf cX0_royalsOf 5 (some .long), Cond.methodLink RX0 36 yX0_reachedFrom, Cond.instanceMethod yX0_reachedFrom, Cond.selects RX0 yX0_reachedFrom yX0_reachedFrom]
def wsX0_keepsRoyalsSafe_r2 : List Cond := [Cond.code yX0_reachedFrom cX0_reachedFrom 16 (some .long), Cond.fieldLink RX0 15 "BoardNotation$Board" "kinds" "LBoardNotation$Kinds;", Cond.methodLink RX0 68 yX0_takeBack, Cond.instanceMethod yX0_takeBack, Cond.selects RX0 yX0_takeBack yX0_takeBack, Cond.code yX0_takeBack cX0_takeBack 4 none]
def wsX0_keepsRoyalsSafe : List Cond := .code yX0_keepsRoyalsSafe cX0_keepsRoyalsSafe 6 (some .boolean) :: ((wsX0_keepsRoyalsSafe_r1 ++ wsX0_keepsRoyalsSafe_r2) ++ wsX00 ++ wsX10)
def wsX0_countLegalMoves_r1 : List Cond := [Cond.fieldLink RX0 9 "BoardNotation$Board" "pieces" "[I", Cond.methodLink RX0 36 yX0_reachedFrom, Cond.instanceMethod yX0_reachedFrom, Cond.selects RX0 yX0_reachedFrom yX0_reachedFrom, Cond.initialized RX0, Cond.code yX0_reachedFrom cX0_reachedFrom 16 (some .long), Cond.fieldLink RX0 15 "BoardNotation$Board" "kinds" "LBoardNotation$Kinds;", Cond.methodLink RX0 72 yX0_keepsRoyalsSafe, Cond.instanceMethod yX0_keepsRoyalsSafe, Cond.selects RX0 yX0_keepsRoyalsSafe yX0_keepsRoyalsSafe, Cond.code yX0_keepsRoyalsSafe cX0_keepsRoyalsSafe 6 (some .boolean), Cond.methodLink RX0 29 yX0_pieceOn, Cond.instanceMethod yX0_pieceOn, Cond.selects RX0 yX0_pieceOn yX0_pieceOn, Cond.code yX0_pieceOn cX0_pieceOn 2 (some .int), Cond.static yX5_isSquare, Cond.initialized RX5, Cond.code yX5_isSquare cX5_isSquare 1 (some .boolean), Cond.methodLink RX0 61 yX0_move, Cond.instanceMethod yX0_move, Cond.selects RX0 yX0_move yX0_move, Cond.code yX0_move cX0_move 4 (some .int), Cond.methodLink RX0 65 yX0_inCheck, Cond.instanceMethod yX0_inCheck]
def wsX0_countLegalMoves_r2 : List Cond := [Cond.selects RX0 yX0_inCheck yX0_inCheck, Cond.code yX0_inCheck cX0_inCheck 6 (some .boolean), Cond.methodLink RX0 58 yX0_royalsOf, Cond.instanceMethod yX0_royalsOf, Cond.selects RX0 yX0_royalsOf yX0_royalsOf, Cond.code yX0_royalsOf cX0_royalsOf 5 (some .long), Cond.methodLink RX0 68 yX0_takeBack, Cond.instanceMethod yX0_takeBack, Cond.selects RX0 yX0_takeBack yX0_takeBack, Cond.code yX0_takeBack cX0_takeBack 4 none]
def wsX0_countLegalMoves : List Cond := .code yX0_countLegalMoves cX0_countLegalMoves 8 (some .int) :: ((wsX0_countLegalMoves_r1 ++ wsX0_countLegalMoves_r2) ++ wsX00 ++ wsX10)
def wsX0_signBehind_r1 : List Cond := [Cond.methodLink RX0 29 yX0_pieceOn, Cond.instanceMethod yX0_pieceOn, Cond.selects RX0 yX0_pieceOn yX0_pieceOn, Cond.initialized RX0, Cond.code yX0_pieceOn cX0_pieceOn 2 (some .int), Cond.fieldLink RX0 9 "BoardNotation$Board" "pieces" "[I", Cond.static yX5_isSquare, Cond.initialized RX5, Cond.code yX5_isSquare cX5_isSquare 1 (some .boolean), Cond.methodLink RX0 61 yX0_move, Cond.instanceMethod yX0_move, Cond.selects RX0 yX0_move yX0_move, Cond.code yX0_move cX0_move 4 (some .int), Cond.methodLink RX0 65 yX0_inCheck, Cond.instanceMethod yX0_inCheck, Cond.selects RX0 yX0_inCheck yX0_inCheck, Cond.code yX0_inCheck cX0_inCheck 6 (some .boolean), Cond.methodLink RX0 58 yX0_royalsOf, Cond.instanceMethod yX0_royalsOf, Cond.selects RX0 yX0_royalsOf yX0_royalsOf, Cond.code yX0_royalsOf cX0_royalsOf 5 (some .long), Cond.methodLink RX0 36 yX0_reachedFrom, Cond.instanceMethod yX0_reachedFrom, Cond.selects RX0 yX0_reachedFrom yX0_reachedFrom]
def wsX0_signBehind_r2 : List Cond := [Cond.code yX0_reachedFrom cX0_reachedFrom 16 (some .long), Cond.fieldLink RX0 15 "BoardNotation$Board" "kinds" "LBoardNotation$Kinds;", Cond.methodLink RX0 76 yX0_countLegalMoves, Cond.instanceMethod yX0_countLegalMoves, Cond.selects RX0 yX0_countLegalMoves yX0_countLegalMoves, Cond.code yX0_countLegalMoves cX0_countLegalMoves 8 (some .int), Cond.methodLink RX0 72 yX0_keepsRoyalsSafe, Cond.instanceMethod yX0_keepsRoyalsSafe, Cond.selects RX0 yX0_keepsRoyalsSafe yX0_keepsRoyalsSafe, Cond.code yX0_keepsRoyalsSafe cX0_keepsRoyalsSafe 6 (some .boolean), Cond.methodLink RX0 68 yX0_takeBack, Cond.instanceMethod yX0_takeBack, Cond.selects RX0 yX0_takeBack yX0_takeBack, Cond.code yX0_takeBack cX0_takeBack 4 none]
def wsX0_signBehind : List Cond := .code yX0_signBehind cX0_signBehind 6 (some .int) :: ((wsX0_signBehind_r1 ++ wsX0_signBehind_r2) ++ wsX00 ++ wsX10)
def wsX1_init : List Cond := .code yX1_init cX1_init 1 none :: ([.methodLink RX1 3 objectInit, .instanceMethod objectInit, .code objectInit ⟨#[0xb1]⟩ 1 none, .arrayClass .int, .fieldLink RX1 9 "BoardNotation$Kinds" "letters" "[I", .fieldLink RX1 15 "BoardNotation$Kinds" "stepCounts" "[I", .fieldLink RX1 18 "BoardNotation$Kinds" "stepX" "[I", .fieldLink RX1 21 "BoardNotation$Kinds" "stepY" "[I", .fieldLink RX1 24 "BoardNotation$Kinds" "stepReach" "[I", .fieldLink RX1 27 "BoardNotation$Kinds" "size" "I"] ++ wsX10)
def wsX1_size : List Cond := .code yX1_size cX1_size 1 (some .int) :: ([.fieldLink RX1 27 "BoardNotation$Kinds" "size" "I"] ++ wsX10)
def wsX1_has : List Cond := .code yX1_has cX1_has 2 (some .boolean) :: ([.fieldLink RX1 27 "BoardNotation$Kinds" "size" "I"] ++ wsX10)
def wsX1_letter : List Cond := .code yX1_letter cX1_letter 2 (some .int) :: ([.fieldLink RX1 9 "BoardNotation$Kinds" "letters" "[I", .methodLink RX1 31 yX1_has, .instanceMethod yX1_has, .selects RX1 yX1_has yX1_has, .initialized RX1, .code yX1_has cX1_has 2 (some .boolean), .fieldLink RX1 27 "BoardNotation$Kinds" "size" "I"] ++ wsX10)
def wsX1_stepCount : List Cond := .code yX1_stepCount cX1_stepCount 2 (some .int) :: ([.fieldLink RX1 15 "BoardNotation$Kinds" "stepCounts" "[I", .methodLink RX1 31 yX1_has, .instanceMethod yX1_has, .selects RX1 yX1_has yX1_has, .initialized RX1, .code yX1_has cX1_has 2 (some .boolean), .fieldLink RX1 27 "BoardNotation$Kinds" "size" "I"] ++ wsX10)
def wsX1_withLetter : List Cond := .code yX1_withLetter cX1_withLetter 3 (some .int) :: ([.fieldLink RX1 27 "BoardNotation$Kinds" "size" "I", .fieldLink RX1 9 "BoardNotation$Kinds" "letters" "[I"] ++ wsX10)
def wsX1_include : List Cond := .code yX1_include cX1_include 2 (some .int) :: ([.fieldLink RX1 27 "BoardNotation$Kinds" "size" "I", .fieldLink RX1 9 "BoardNotation$Kinds" "letters" "[I"] ++ wsX10)
def wsX1_includeStep : List Cond := .code yX1_includeStep cX1_includeStep 6 (some .int) :: ([.fieldLink RX1 15 "BoardNotation$Kinds" "stepCounts" "[I", .fieldLink RX1 18 "BoardNotation$Kinds" "stepX" "[I", .fieldLink RX1 21 "BoardNotation$Kinds" "stepY" "[I", .fieldLink RX1 24 "BoardNotation$Kinds" "stepReach" "[I", .methodLink RX1 31 yX1_has, .instanceMethod yX1_has, .selects RX1 yX1_has yX1_has, .initialized RX1, .code yX1_has cX1_has 2 (some .boolean), .fieldLink RX1 27 "BoardNotation$Kinds" "size" "I"] ++ wsX10)
def wsX2_init : List Cond := .code yX2_init cX2_init 1 none :: ([.methodLink RX2 3 objectInit, .instanceMethod objectInit, .code objectInit ⟨#[0xb1]⟩ 1 none, .fieldLink RX2 9 "BoardNotation$ShortForm" "misfit" "I", .fieldLink RX2 15 "BoardNotation$ShortForm" "letter" "I", .fieldLink RX2 18 "BoardNotation$ShortForm" "fromFile" "I", .fieldLink RX2 21 "BoardNotation$ShortForm" "fromRank" "I", .fieldLink RX2 24 "BoardNotation$ShortForm" "toFile" "I", .fieldLink RX2 27 "BoardNotation$ShortForm" "toRank" "I", .fieldLink RX2 30 "BoardNotation$ShortForm" "sign" "I", .fieldLink RX2 33 "BoardNotation$ShortForm" "captures" "Z"] ++ wsX20)
def wsX2_misfit : List Cond := .code yX2_misfit cX2_misfit 1 (some .int) :: ([.fieldLink RX2 9 "BoardNotation$ShortForm" "misfit" "I"] ++ wsX20)
def wsX2_letter : List Cond := .code yX2_letter cX2_letter 1 (some .int) :: ([.fieldLink RX2 15 "BoardNotation$ShortForm" "letter" "I"] ++ wsX20)
def wsX2_to : List Cond := .code yX2_to cX2_to 1 (some .int) :: ([.fieldLink RX2 27 "BoardNotation$ShortForm" "toRank" "I", .fieldLink RX2 24 "BoardNotation$ShortForm" "toFile" "I"] ++ wsX20)
def wsX2_sign : List Cond := .code yX2_sign cX2_sign 1 (some .int) :: ([.fieldLink RX2 30 "BoardNotation$ShortForm" "sign" "I"] ++ wsX20)
def wsX2_captures : List Cond := .code yX2_captures cX2_captures 1 (some .boolean) :: ([.fieldLink RX2 33 "BoardNotation$ShortForm" "captures" "Z"] ++ wsX20)
def wsX2_allowsFrom : List Cond := .code yX2_allowsFrom cX2_allowsFrom 2 (some .boolean) :: ([.fieldLink RX2 18 "BoardNotation$ShortForm" "fromFile" "I", .fieldLink RX2 21 "BoardNotation$ShortForm" "fromRank" "I"] ++ wsX20)
def wsX2_forget : List Cond := .code yX2_forget cX2_forget 1 none :: ([.fieldLink RX2 9 "BoardNotation$ShortForm" "misfit" "I", .fieldLink RX2 15 "BoardNotation$ShortForm" "letter" "I", .fieldLink RX2 18 "BoardNotation$ShortForm" "fromFile" "I", .fieldLink RX2 21 "BoardNotation$ShortForm" "fromRank" "I", .fieldLink RX2 24 "BoardNotation$ShortForm" "toFile" "I", .fieldLink RX2 27 "BoardNotation$ShortForm" "toRank" "I", .fieldLink RX2 30 "BoardNotation$ShortForm" "sign" "I", .fieldLink RX2 33 "BoardNotation$ShortForm" "captures" "Z"] ++ wsX20)
def wsX3_get : List Cond := .code yX3_get cX3_get 2 (some .int) :: ([.fieldLink RX3 15 "BoardNotation$Text" "size" "I", .fieldLink RX3 9 "BoardNotation$Text" "bytes" "[I"] ++ wsX30)
def wsX2_isFile : List Cond := .code yX2_isFile cX2_isFile 1 (some .boolean) :: ([])
def wsX2_isRank : List Cond := .code yX2_isRank cX2_isRank 1 (some .boolean) :: ([])
def wsX2_stateBehindOrigin : List Cond := .code yX2_stateBehindOrigin cX2_stateBehindOrigin 1 (some .int) :: ([.methodLink RX2 54 yX2_isFile, .static yX2_isFile, .initialized RX2, .code yX2_isFile cX2_isFile 1 (some .boolean)])
def wsX2_isSign : List Cond := .code yX2_isSign cX2_isSign 1 (some .boolean) :: ([])
def wsX2_stateBehind : List Cond := .code yX2_stateBehind cX2_stateBehind 2 (some .int) :: ([.methodLink RX2 54 yX2_isFile, .static yX2_isFile, .initialized RX2, .code yX2_isFile cX2_isFile 1 (some .boolean), .methodLink RX2 58 yX2_isRank, .static yX2_isRank, .code yX2_isRank cX2_isRank 1 (some .boolean), .methodLink RX2 64 yX2_stateBehindOrigin, .static yX2_stateBehindOrigin, .code yX2_stateBehindOrigin cX2_stateBehindOrigin 1 (some .int), .methodLink RX2 61 yX2_isSign, .static yX2_isSign, .code yX2_isSign cX2_isSign 1 (some .boolean)])
def wsX2_keep : List Cond := .code yX2_keep cX2_keep 2 none :: ([.fieldLink RX2 24 "BoardNotation$ShortForm" "toFile" "I", .fieldLink RX2 18 "BoardNotation$ShortForm" "fromFile" "I", .fieldLink RX2 27 "BoardNotation$ShortForm" "toRank" "I", .fieldLink RX2 21 "BoardNotation$ShortForm" "fromRank" "I", .fieldLink RX2 30 "BoardNotation$ShortForm" "sign" "I", .fieldLink RX2 33 "BoardNotation$ShortForm" "captures" "Z", .fieldLink RX2 15 "BoardNotation$ShortForm" "letter" "I", .methodLink RX2 54 yX2_isFile, .static yX2_isFile, .initialized RX2, .code yX2_isFile cX2_isFile 1 (some .boolean), .methodLink RX2 58 yX2_isRank, .static yX2_isRank, .code yX2_isRank cX2_isRank 1 (some .boolean), .methodLink RX2 61 yX2_isSign, .static yX2_isSign, .code yX2_isSign cX2_isSign 1 (some .boolean)] ++ wsX20)
def wsX2_fits_r1 : List Cond := [Cond.fieldLink RX2 9 "BoardNotation$ShortForm" "misfit" "I", Cond.methodLink RX2 37 yX2_forget, Cond.instanceMethod yX2_forget, Cond.selects RX2 yX2_forget yX2_forget, Cond.initialized RX2, Cond.code yX2_forget cX2_forget 1 none, Cond.fieldLink RX2 15 "BoardNotation$ShortForm" "letter" "I", Cond.fieldLink RX2 18 "BoardNotation$ShortForm" "fromFile" "I", Cond.fieldLink RX2 21 "BoardNotation$ShortForm" "fromRank" "I", Cond.fieldLink RX2 24 "BoardNotation$ShortForm" "toFile" "I", Cond.fieldLink RX2 27 "BoardNotation$ShortForm" "toRank" "I", Cond.fieldLink RX2 30 "BoardNotation$ShortForm" "sign" "I", Cond.fieldLink RX2 33 "BoardNotation$ShortForm" "captures" "Z", Cond.methodLink RX2 40 yX3_get, Cond.instanceMethod yX3_get, Cond.selects RX3 yX3_get yX3_get, Cond.initialized RX3, Cond.code yX3_get cX3_get 2 (some .int), Cond.fieldLink RX3 15 "BoardNotation$Text" "size" "I", Cond.fieldLink RX3 9 "BoardNotation$Text" "bytes" "[I", Cond.methodLink RX2 46 yX2_stateBehind, Cond.static yX2_stateBehind, Cond.code yX2_stateBehind cX2_stateBehind 2 (some .int), Cond.methodLink RX2 54 yX2_isFile]
def wsX2_fits_r2 : List Cond := [Cond.static yX2_isFile, Cond.code yX2_isFile cX2_isFile 1 (some .boolean), Cond.methodLink RX2 58 yX2_isRank, Cond.static yX2_isRank, Cond.code yX2_isRank cX2_isRank 1 (some .boolean), Cond.methodLink RX2 64 yX2_stateBehindOrigin, Cond.static yX2_stateBehindOrigin, Cond.code yX2_stateBehindOrigin cX2_stateBehindOrigin 1 (some .int), Cond.methodLink RX2 61 yX2_isSign, Cond.static yX2_isSign, Cond.code yX2_isSign cX2_isSign 1 (some .boolean), Cond.methodLink RX2 50 yX2_keep, Cond.instanceMethod yX2_keep, Cond.selects RX2 yX2_keep yX2_keep, Cond.code yX2_keep cX2_keep 2 none]
def wsX2_fits : List Cond := .code yX2_fits cX2_fits 6 (some .boolean) :: ((wsX2_fits_r1 ++ wsX2_fits_r2) ++ wsX20 ++ wsX30)
def wsX3_init : List Cond := .code yX3_init cX3_init 1 none :: ([.methodLink RX3 3 objectInit, .instanceMethod objectInit, .code objectInit ⟨#[0xb1]⟩ 1 none, .arrayClass .int, .fieldLink RX3 9 "BoardNotation$Text" "bytes" "[I", .fieldLink RX3 15 "BoardNotation$Text" "size" "I", .fieldLink RX3 19 "BoardNotation$Text" "spilled" "Z"] ++ wsX30)
def wsX3_size : List Cond := .code yX3_size cX3_size 1 (some .int) :: ([.fieldLink RX3 15 "BoardNotation$Text" "size" "I"] ++ wsX30)
def wsX3_hasSpilled : List Cond := .code yX3_hasSpilled cX3_hasSpilled 1 (some .boolean) :: ([.fieldLink RX3 19 "BoardNotation$Text" "spilled" "Z"] ++ wsX30)
def wsX3_wipe : List Cond := .code yX3_wipe cX3_wipe 1 none :: ([.fieldLink RX3 15 "BoardNotation$Text" "size" "I", .fieldLink RX3 19 "BoardNotation$Text" "spilled" "Z"] ++ wsX30)
def wsX3_append : List Cond := .code yX3_append cX3_append 2 none :: ([.fieldLink RX3 15 "BoardNotation$Text" "size" "I", .fieldLink RX3 9 "BoardNotation$Text" "bytes" "[I", .fieldLink RX3 19 "BoardNotation$Text" "spilled" "Z"] ++ wsX30)
def wsX3_separate : List Cond := .code yX3_separate cX3_separate 1 none :: ([.fieldLink RX3 15 "BoardNotation$Text" "size" "I", .methodLink RX3 23 yX3_get, .instanceMethod yX3_get, .selects RX3 yX3_get yX3_get, .initialized RX3, .code yX3_get cX3_get 2 (some .int), .fieldLink RX3 9 "BoardNotation$Text" "bytes" "[I", .methodLink RX3 27 yX3_append, .instanceMethod yX3_append, .selects RX3 yX3_append yX3_append, .code yX3_append cX3_append 2 none, .fieldLink RX3 19 "BoardNotation$Text" "spilled" "Z"] ++ wsX30)
def wsX3_isOfWord : List Cond := .code yX3_isOfWord cX3_isOfWord 3 (some .boolean) :: ([.methodLink RX3 23 yX3_get, .instanceMethod yX3_get, .selects RX3 yX3_get yX3_get, .initialized RX3, .code yX3_get cX3_get 2 (some .int), .fieldLink RX3 15 "BoardNotation$Text" "size" "I", .fieldLink RX3 9 "BoardNotation$Text" "bytes" "[I"] ++ wsX30)
def wsX3_isWordStart : List Cond := .code yX3_isWordStart cX3_isWordStart 2 (some .boolean) :: ([.methodLink RX3 31 yX3_isOfWord, .instanceMethod yX3_isOfWord, .selects RX3 yX3_isOfWord yX3_isOfWord, .initialized RX3, .code yX3_isOfWord cX3_isOfWord 3 (some .boolean), .methodLink RX3 23 yX3_get, .instanceMethod yX3_get, .selects RX3 yX3_get yX3_get, .code yX3_get cX3_get 2 (some .int), .fieldLink RX3 15 "BoardNotation$Text" "size" "I", .fieldLink RX3 9 "BoardNotation$Text" "bytes" "[I"] ++ wsX30)
def wsX3_wordEnd : List Cond := .code yX3_wordEnd cX3_wordEnd 3 (some .int) :: ([.fieldLink RX3 15 "BoardNotation$Text" "size" "I", .methodLink RX3 31 yX3_isOfWord, .instanceMethod yX3_isOfWord, .selects RX3 yX3_isOfWord yX3_isOfWord, .initialized RX3, .code yX3_isOfWord cX3_isOfWord 3 (some .boolean), .methodLink RX3 23 yX3_get, .instanceMethod yX3_get, .selects RX3 yX3_get yX3_get, .code yX3_get cX3_get 2 (some .int), .fieldLink RX3 9 "BoardNotation$Text" "bytes" "[I"] ++ wsX30)
def wsX4_occupy : List Cond := .code yX4_occupy cX4_occupy 5 (some .int) :: ([.fieldLink RX4 36 "BoardNotation$Tree" "size" "I", .fieldLink RX4 9 "BoardNotation$Tree" "above" "[I", .fieldLink RX4 15 "BoardNotation$Tree" "from" "[I", .fieldLink RX4 18 "BoardNotation$Tree" "to" "[I", .fieldLink RX4 21 "BoardNotation$Tree" "taken" "[I", .fieldLink RX4 24 "BoardNotation$Tree" "depth" "[I", .fieldLink RX4 27 "BoardNotation$Tree" "childCount" "[I", .fieldLink RX4 30 "BoardNotation$Tree" "firstChild" "[I", .fieldLink RX4 33 "BoardNotation$Tree" "nextBeside" "[I"] ++ wsX40)
def wsX4_init : List Cond := .code yX4_init cX4_init 1 none :: ([.methodLink RX4 3 objectInit, .instanceMethod objectInit, .code objectInit ⟨#[0xb1]⟩ 1 none, .arrayClass .int, .fieldLink RX4 9 "BoardNotation$Tree" "above" "[I", .fieldLink RX4 15 "BoardNotation$Tree" "from" "[I", .fieldLink RX4 18 "BoardNotation$Tree" "to" "[I", .fieldLink RX4 21 "BoardNotation$Tree" "taken" "[I", .fieldLink RX4 24 "BoardNotation$Tree" "depth" "[I", .fieldLink RX4 27 "BoardNotation$Tree" "childCount" "[I", .fieldLink RX4 30 "BoardNotation$Tree" "firstChild" "[I", .fieldLink RX4 33 "BoardNotation$Tree" "nextBeside" "[I", .fieldLink RX4 36 "BoardNotation$Tree" "size" "I", .methodLink RX4 40 yX4_occupy, .instanceMethod yX4_occupy, .selects RX4 yX4_occupy yX4_occupy, .initialized RX4, .code yX4_occupy cX4_occupy 5 (some .int)] ++ wsX40)
def wsX4_size : List Cond := .code yX4_size cX4_size 1 (some .int) :: ([.fieldLink RX4 36 "BoardNotation$Tree" "size" "I"] ++ wsX40)
def wsX4_has : List Cond := .code yX4_has cX4_has 2 (some .boolean) :: ([.fieldLink RX4 36 "BoardNotation$Tree" "size" "I"] ++ wsX40)
def wsX4_above : List Cond := .code yX4_above cX4_above 2 (some .int) :: ([.fieldLink RX4 9 "BoardNotation$Tree" "above" "[I", .methodLink RX4 44 yX4_has, .instanceMethod yX4_has, .selects RX4 yX4_has yX4_has, .initialized RX4, .code yX4_has cX4_has 2 (some .boolean), .fieldLink RX4 36 "BoardNotation$Tree" "size" "I"] ++ wsX40)
def wsX4_from : List Cond := .code yX4_from cX4_from 2 (some .int) :: ([.fieldLink RX4 15 "BoardNotation$Tree" "from" "[I", .methodLink RX4 44 yX4_has, .instanceMethod yX4_has, .selects RX4 yX4_has yX4_has, .initialized RX4, .code yX4_has cX4_has 2 (some .boolean), .fieldLink RX4 36 "BoardNotation$Tree" "size" "I"] ++ wsX40)
def wsX4_to : List Cond := .code yX4_to cX4_to 2 (some .int) :: ([.fieldLink RX4 18 "BoardNotation$Tree" "to" "[I", .methodLink RX4 44 yX4_has, .instanceMethod yX4_has, .selects RX4 yX4_has yX4_has, .initialized RX4, .code yX4_has cX4_has 2 (some .boolean), .fieldLink RX4 36 "BoardNotation$Tree" "size" "I"] ++ wsX40)
def wsX4_taken : List Cond := .code yX4_taken cX4_taken 2 (some .int) :: ([.fieldLink RX4 21 "BoardNotation$Tree" "taken" "[I", .methodLink RX4 44 yX4_has, .instanceMethod yX4_has, .selects RX4 yX4_has yX4_has, .initialized RX4, .code yX4_has cX4_has 2 (some .boolean), .fieldLink RX4 36 "BoardNotation$Tree" "size" "I"] ++ wsX40)
def wsX4_depth : List Cond := .code yX4_depth cX4_depth 2 (some .int) :: ([.fieldLink RX4 24 "BoardNotation$Tree" "depth" "[I", .methodLink RX4 44 yX4_has, .instanceMethod yX4_has, .selects RX4 yX4_has yX4_has, .initialized RX4, .code yX4_has cX4_has 2 (some .boolean), .fieldLink RX4 36 "BoardNotation$Tree" "size" "I"] ++ wsX40)
def wsX4_childCount : List Cond := .code yX4_childCount cX4_childCount 2 (some .int) :: ([.fieldLink RX4 27 "BoardNotation$Tree" "childCount" "[I", .methodLink RX4 44 yX4_has, .instanceMethod yX4_has, .selects RX4 yX4_has yX4_has, .initialized RX4, .code yX4_has cX4_has 2 (some .boolean), .fieldLink RX4 36 "BoardNotation$Tree" "size" "I"] ++ wsX40)
def wsX4_keepTaken : List Cond := .code yX4_keepTaken cX4_keepTaken 3 none :: ([.fieldLink RX4 21 "BoardNotation$Tree" "taken" "[I", .methodLink RX4 44 yX4_has, .instanceMethod yX4_has, .selects RX4 yX4_has yX4_has, .initialized RX4, .code yX4_has cX4_has 2 (some .boolean), .fieldLink RX4 36 "BoardNotation$Tree" "size" "I"] ++ wsX40)
def wsX4_fact_r1 : List Cond := [Cond.methodLink RX4 48 yX4_above, Cond.instanceMethod yX4_above, Cond.selects RX4 yX4_above yX4_above, Cond.initialized RX4, Cond.code yX4_above cX4_above 2 (some .int), Cond.fieldLink RX4 9 "BoardNotation$Tree" "above" "[I", Cond.methodLink RX4 44 yX4_has, Cond.instanceMethod yX4_has, Cond.selects RX4 yX4_has yX4_has, Cond.code yX4_has cX4_has 2 (some .boolean), Cond.fieldLink RX4 36 "BoardNotation$Tree" "size" "I", Cond.methodLink RX4 51 yX4_from, Cond.instanceMethod yX4_from, Cond.selects RX4 yX4_from yX4_from, Cond.code yX4_from cX4_from 2 (some .int), Cond.fieldLink RX4 15 "BoardNotation$Tree" "from" "[I", Cond.methodLink RX4 53 yX4_to, Cond.instanceMethod yX4_to, Cond.selects RX4 yX4_to yX4_to, Cond.code yX4_to cX4_to 2 (some .int), Cond.fieldLink RX4 18 "BoardNotation$Tree" "to" "[I", Cond.methodLink RX4 55 yX4_depth, Cond.instanceMethod yX4_depth, Cond.selects RX4 yX4_depth yX4_depth]
def wsX4_fact_r2 : List Cond := [Cond.code yX4_depth cX4_depth 2 (some .int), Cond.fieldLink RX4 24 "BoardNotation$Tree" "depth" "[I", Cond.methodLink RX4 57 yX4_childCount, Cond.instanceMethod yX4_childCount, Cond.selects RX4 yX4_childCount yX4_childCount, Cond.code yX4_childCount cX4_childCount 2 (some .int), Cond.fieldLink RX4 27 "BoardNotation$Tree" "childCount" "[I"]
def wsX4_fact : List Cond := .code yX4_fact cX4_fact 3 (some .int) :: ((wsX4_fact_r1 ++ wsX4_fact_r2) ++ wsX40)
def wsX4_child : List Cond := .code yX4_child cX4_child 5 (some .int) :: ([.fieldLink RX4 27 "BoardNotation$Tree" "childCount" "[I", .fieldLink RX4 30 "BoardNotation$Tree" "firstChild" "[I", .fieldLink RX4 33 "BoardNotation$Tree" "nextBeside" "[I", .methodLink RX4 44 yX4_has, .instanceMethod yX4_has, .selects RX4 yX4_has yX4_has, .initialized RX4, .code yX4_has cX4_has 2 (some .boolean), .fieldLink RX4 36 "BoardNotation$Tree" "size" "I"] ++ wsX40)
def wsX4_childOfMove : List Cond := .code yX4_childOfMove cX4_childOfMove 6 (some .int) :: ([.fieldLink RX4 15 "BoardNotation$Tree" "from" "[I", .fieldLink RX4 18 "BoardNotation$Tree" "to" "[I", .fieldLink RX4 33 "BoardNotation$Tree" "nextBeside" "[I", .methodLink RX4 59 yX4_child, .instanceMethod yX4_child, .selects RX4 yX4_child yX4_child, .initialized RX4, .code yX4_child cX4_child 5 (some .int), .fieldLink RX4 27 "BoardNotation$Tree" "childCount" "[I", .fieldLink RX4 30 "BoardNotation$Tree" "firstChild" "[I", .methodLink RX4 44 yX4_has, .instanceMethod yX4_has, .selects RX4 yX4_has yX4_has, .code yX4_has cX4_has 2 (some .boolean), .fieldLink RX4 36 "BoardNotation$Tree" "size" "I", .methodLink RX4 57 yX4_childCount, .instanceMethod yX4_childCount, .selects RX4 yX4_childCount yX4_childCount, .code yX4_childCount cX4_childCount 2 (some .int)] ++ wsX40)
def wsX4_grow_r1 : List Cond := [Cond.fieldLink RX4 24 "BoardNotation$Tree" "depth" "[I", Cond.fieldLink RX4 33 "BoardNotation$Tree" "nextBeside" "[I", Cond.fieldLink RX4 30 "BoardNotation$Tree" "firstChild" "[I", Cond.fieldLink RX4 27 "BoardNotation$Tree" "childCount" "[I", Cond.methodLink RX4 57 yX4_childCount, Cond.instanceMethod yX4_childCount, Cond.selects RX4 yX4_childCount yX4_childCount, Cond.initialized RX4, Cond.code yX4_childCount cX4_childCount 2 (some .int), Cond.methodLink RX4 44 yX4_has, Cond.instanceMethod yX4_has, Cond.selects RX4 yX4_has yX4_has, Cond.code yX4_has cX4_has 2 (some .boolean), Cond.fieldLink RX4 36 "BoardNotation$Tree" "size" "I", Cond.methodLink RX4 59 yX4_child, Cond.instanceMethod yX4_child, Cond.selects RX4 yX4_child yX4_child, Cond.code yX4_child cX4_child 5 (some .int), Cond.methodLink RX4 40 yX4_occupy, Cond.instanceMethod yX4_occupy, Cond.selects RX4 yX4_occupy yX4_occupy, Cond.code yX4_occupy cX4_occupy 5 (some .int), Cond.fieldLink RX4 9 "BoardNotation$Tree" "above" "[I", Cond.fieldLink RX4 15 "BoardNotation$Tree" "from" "[I"]
def wsX4_grow_r2 : List Cond := [Cond.fieldLink RX4 18 "BoardNotation$Tree" "to" "[I", Cond.fieldLink RX4 21 "BoardNotation$Tree" "taken" "[I"]
def wsX4_grow : List Cond := .code yX4_grow cX4_grow 6 (some .int) :: ((wsX4_grow_r1 ++ wsX4_grow_r2) ++ wsX40)
def wsX4_placeOf : List Cond := .code yX4_placeOf cX4_placeOf 4 (some .int) :: ([.fieldLink RX4 33 "BoardNotation$Tree" "nextBeside" "[I", .methodLink RX4 48 yX4_above, .instanceMethod yX4_above, .selects RX4 yX4_above yX4_above, .initialized RX4, .code yX4_above cX4_above 2 (some .int), .fieldLink RX4 9 "BoardNotation$Tree" "above" "[I", .methodLink RX4 44 yX4_has, .instanceMethod yX4_has, .selects RX4 yX4_has yX4_has, .code yX4_has cX4_has 2 (some .boolean), .fieldLink RX4 36 "BoardNotation$Tree" "size" "I", .methodLink RX4 59 yX4_child, .instanceMethod yX4_child, .selects RX4 yX4_child yX4_child, .code yX4_child cX4_child 5 (some .int), .fieldLink RX4 27 "BoardNotation$Tree" "childCount" "[I", .fieldLink RX4 30 "BoardNotation$Tree" "firstChild" "[I", .methodLink RX4 57 yX4_childCount, .instanceMethod yX4_childCount, .selects RX4 yX4_childCount yX4_childCount, .code yX4_childCount cX4_childCount 2 (some .int)] ++ wsX40)
def wsX4_makeMain_r1 : List Cond := [Cond.fieldLink RX4 33 "BoardNotation$Tree" "nextBeside" "[I", Cond.fieldLink RX4 30 "BoardNotation$Tree" "firstChild" "[I", Cond.methodLink RX4 63 yX4_placeOf, Cond.instanceMethod yX4_placeOf, Cond.selects RX4 yX4_placeOf yX4_placeOf, Cond.initialized RX4, Cond.code yX4_placeOf cX4_placeOf 4 (some .int), Cond.methodLink RX4 48 yX4_above, Cond.instanceMethod yX4_above, Cond.selects RX4 yX4_above yX4_above, Cond.code yX4_above cX4_above 2 (some .int), Cond.fieldLink RX4 9 "BoardNotation$Tree" "above" "[I", Cond.methodLink RX4 44 yX4_has, Cond.instanceMethod yX4_has, Cond.selects RX4 yX4_has yX4_has, Cond.code yX4_has cX4_has 2 (some .boolean), Cond.fieldLink RX4 36 "BoardNotation$Tree" "size" "I", Cond.methodLink RX4 59 yX4_child, Cond.instanceMethod yX4_child, Cond.selects RX4 yX4_child yX4_child, Cond.code yX4_child cX4_child 5 (some .int), Cond.fieldLink RX4 27 "BoardNotation$Tree" "childCount" "[I", Cond.methodLink RX4 57 yX4_childCount, Cond.instanceMethod yX4_childCount]
def wsX4_makeMain_r2 : List Cond := [Cond.selects RX4 yX4_childCount yX4_childCount, Cond.code yX4_childCount cX4_childCount 2 (some .int)]
def wsX4_makeMain : List Cond := .code yX4_makeMain cX4_makeMain 5 (some .int) :: ((wsX4_makeMain_r1 ++ wsX4_makeMain_r2) ++ wsX40)
def wsX4_cutToRoot : List Cond := .code yX4_cutToRoot cX4_cutToRoot 1 none :: ([.fieldLink RX4 36 "BoardNotation$Tree" "size" "I", .methodLink RX4 40 yX4_occupy, .instanceMethod yX4_occupy, .selects RX4 yX4_occupy yX4_occupy, .initialized RX4, .code yX4_occupy cX4_occupy 5 (some .int), .fieldLink RX4 9 "BoardNotation$Tree" "above" "[I", .fieldLink RX4 15 "BoardNotation$Tree" "from" "[I", .fieldLink RX4 18 "BoardNotation$Tree" "to" "[I", .fieldLink RX4 21 "BoardNotation$Tree" "taken" "[I", .fieldLink RX4 24 "BoardNotation$Tree" "depth" "[I", .fieldLink RX4 27 "BoardNotation$Tree" "childCount" "[I", .fieldLink RX4 30 "BoardNotation$Tree" "firstChild" "[I", .fieldLink RX4 33 "BoardNotation$Tree" "nextBeside" "[I"] ++ wsX40)
def wsX5_init_r1 : List Cond := [Cond.methodLink RX5 3 objectInit, Cond.instanceMethod objectInit, Cond.code objectInit ⟨#[0xb1]⟩ 1 none, Cond.classLink RX5 9 RX1, Cond.instantiable RX1 6, Cond.initialized RX1, Cond.fieldLink RX5 12 "BoardNotation" "kinds" "LBoardNotation$Kinds;", Cond.classLink RX5 16 RX0, Cond.instantiable RX0 2, Cond.initialized RX0, Cond.fieldLink RX5 21 "BoardNotation" "board" "LBoardNotation$Board;", Cond.classLink RX5 25 RX4, Cond.instantiable RX4 9, Cond.initialized RX4, Cond.fieldLink RX5 28 "BoardNotation" "tree" "LBoardNotation$Tree;", Cond.classLink RX5 32 RX2, Cond.instantiable RX2 8, Cond.initialized RX2, Cond.fieldLink RX5 35 "BoardNotation" "form" "LBoardNotation$ShortForm;", Cond.arrayClass .int, Cond.fieldLink RX5 39 "BoardNotation" "path" "[I", Cond.fieldLink RX5 43 "BoardNotation" "bracketNodes" "[I", Cond.classLink RX5 46 RX3, Cond.instantiable RX3 3]
def wsX5_init_r2 : List Cond := [Cond.initialized RX3, Cond.fieldLink RX5 49 "BoardNotation" "tape" "LBoardNotation$Text;", Cond.fieldLink RX5 53 "BoardNotation" "draft" "LBoardNotation$Text;", Cond.fieldLink RX5 56 "BoardNotation" "present" "I", Cond.fieldLink RX5 60 "BoardNotation" "openBrackets" "I", Cond.fieldLink RX5 63 "BoardNotation" "moveIsDue" "Z", Cond.fieldLink RX5 67 "BoardNotation" "judgedFrom" "I", Cond.fieldLink RX5 70 "BoardNotation" "judgedTo" "I", Cond.fieldLink RX5 73 "BoardNotation" "errorPlace" "I", Cond.fieldLink RX5 76 "BoardNotation" "foundFrom" "I", Cond.fieldLink RX5 79 "BoardNotation" "foundTo" "I", Cond.instanceMethod yX1_init, Cond.code yX1_init cX1_init 1 none, Cond.methodLink RX1 3 objectInit, Cond.fieldLink RX1 9 "BoardNotation$Kinds" "letters" "[I", Cond.fieldLink RX1 15 "BoardNotation$Kinds" "stepCounts" "[I", Cond.fieldLink RX1 18 "BoardNotation$Kinds" "stepX" "[I", Cond.fieldLink RX1 21 "BoardNotation$Kinds" "stepY" "[I", Cond.fieldLink RX1 24 "BoardNotation$Kinds" "stepReach" "[I", Cond.fieldLink RX1 27 "BoardNotation$Kinds" "size" "I", Cond.methodLink RX5 18 yX0_init, Cond.instanceMethod yX0_init, Cond.code yX0_init cX0_init 2 none, Cond.methodLink RX0 3 objectInit]
def wsX5_init_r3 : List Cond := [Cond.fieldLink RX0 9 "BoardNotation$Board" "pieces" "[I", Cond.fieldLink RX0 15 "BoardNotation$Board" "kinds" "LBoardNotation$Kinds;", Cond.methodLink RX0 19 yJ7_fill_53178, Cond.static yJ7_fill_53178, Cond.initialized RJ7, Cond.code yJ7_fill_53178 cJ7_fill_53178 4 none, Cond.methodLink RX5 27 yX4_init, Cond.instanceMethod yX4_init, Cond.code yX4_init cX4_init 1 none, Cond.methodLink RX4 3 objectInit, Cond.fieldLink RX4 9 "BoardNotation$Tree" "above" "[I", Cond.fieldLink RX4 15 "BoardNotation$Tree" "from" "[I", Cond.fieldLink RX4 18 "BoardNotation$Tree" "to" "[I", Cond.fieldLink RX4 21 "BoardNotation$Tree" "taken" "[I", Cond.fieldLink RX4 24 "BoardNotation$Tree" "depth" "[I", Cond.fieldLink RX4 27 "BoardNotation$Tree" "childCount" "[I", Cond.fieldLink RX4 30 "BoardNotation$Tree" "firstChild" "[I", Cond.fieldLink RX4 33 "BoardNotation$Tree" "nextBeside" "[I", Cond.fieldLink RX4 36 "BoardNotation$Tree" "size" "I", Cond.methodLink RX4 40 yX4_occupy, Cond.instanceMethod yX4_occupy, Cond.selects RX4 yX4_occupy yX4_occupy, Cond.code yX4_occupy cX4_occupy 5 (some .int), Cond.instanceMethod yX2_init]
def wsX5_init_r4 : List Cond := [Cond.code yX2_init cX2_init 1 none, Cond.methodLink RX2 3 objectInit, Cond.fieldLink RX2 9 "BoardNotation$ShortForm" "misfit" "I", Cond.fieldLink RX2 15 "BoardNotation$ShortForm" "letter" "I", Cond.fieldLink RX2 18 "BoardNotation$ShortForm" "fromFile" "I", Cond.fieldLink RX2 21 "BoardNotation$ShortForm" "fromRank" "I", Cond.fieldLink RX2 24 "BoardNotation$ShortForm" "toFile" "I", Cond.fieldLink RX2 27 "BoardNotation$ShortForm" "toRank" "I", Cond.fieldLink RX2 30 "BoardNotation$ShortForm" "sign" "I", Cond.fieldLink RX2 33 "BoardNotation$ShortForm" "captures" "Z", Cond.instanceMethod yX3_init, Cond.code yX3_init cX3_init 1 none, Cond.methodLink RX3 3 objectInit, Cond.fieldLink RX3 9 "BoardNotation$Text" "bytes" "[I", Cond.fieldLink RX3 15 "BoardNotation$Text" "size" "I", Cond.fieldLink RX3 19 "BoardNotation$Text" "spilled" "Z"]
def wsX5_init : List Cond := .code yX5_init cX5_init 1 none :: ((wsX5_init_r1 ++ (wsX5_init_r2 ++ (wsX5_init_r3 ++ wsX5_init_r4))) ++ wsX10 ++ wsX50 ++ wsX00 ++ wsX40 ++ wsX20 ++ wsX30)
def wsX5_addKind_r1 : List Cond := [Cond.classLink RX5 86 "java/lang/IllegalArgumentException", Cond.initialized "java/lang/IllegalArgumentException", Cond.classLink RX5 98 "java/lang/IllegalStateException", Cond.initialized "java/lang/IllegalStateException", Cond.fieldLink RX5 12 "BoardNotation" "kinds" "LBoardNotation$Kinds;", Cond.fieldLink RX5 28 "BoardNotation" "tree" "LBoardNotation$Tree;", Cond.methodLink RX5 82 yX1_withLetter, Cond.instanceMethod yX1_withLetter, Cond.selects RX1 yX1_withLetter yX1_withLetter, Cond.initialized RX1, Cond.code yX1_withLetter cX1_withLetter 3 (some .int), Cond.fieldLink RX1 27 "BoardNotation$Kinds" "size" "I", Cond.fieldLink RX1 9 "BoardNotation$Kinds" "letters" "[I", Cond.methodLink RX5 93 yX1_size, Cond.instanceMethod yX1_size, Cond.selects RX1 yX1_size yX1_size, Cond.code yX1_size cX1_size 1 (some .int), Cond.methodLink RX5 97 yX4_size, Cond.instanceMethod yX4_size, Cond.selects RX4 yX4_size yX4_size, Cond.initialized RX4, Cond.code yX4_size cX4_size 1 (some .int), Cond.fieldLink RX4 36 "BoardNotation$Tree" "size" "I", Cond.methodLink RX5 103 yX1_include]
def wsX5_addKind_r2 : List Cond := [Cond.instanceMethod yX1_include, Cond.selects RX1 yX1_include yX1_include, Cond.code yX1_include cX1_include 2 (some .int)]
def wsX5_addKind : List Cond := .code yX5_addKind cX5_addKind 2 (some .int) :: ((wsX5_addKind_r1 ++ wsX5_addKind_r2) ++ wsX50 ++ wsX10 ++ wsX40 ++ (vx_atS RX5 90 "java/lang/IllegalArgumentException" ["java/lang/RuntimeException", "java/lang/Exception"]).filter goodWord ++ (vx_atS RX5 102 "java/lang/IllegalStateException" ["java/lang/RuntimeException", "java/lang/Exception"]).filter goodWord)
def wsX5_isStep : List Cond := .code yX5_isStep cX5_isStep 2 (some .boolean) :: ([])
def wsX5_addStep_r1 : List Cond := [Cond.classLink RX5 110 "java/lang/IndexOutOfBoundsException", Cond.initialized "java/lang/IndexOutOfBoundsException", Cond.classLink RX5 86 "java/lang/IllegalArgumentException", Cond.initialized "java/lang/IllegalArgumentException", Cond.classLink RX5 98 "java/lang/IllegalStateException", Cond.initialized "java/lang/IllegalStateException", Cond.fieldLink RX5 12 "BoardNotation" "kinds" "LBoardNotation$Kinds;", Cond.fieldLink RX5 28 "BoardNotation" "tree" "LBoardNotation$Tree;", Cond.methodLink RX5 106 yX1_has, Cond.instanceMethod yX1_has, Cond.selects RX1 yX1_has yX1_has, Cond.initialized RX1, Cond.code yX1_has cX1_has 2 (some .boolean), Cond.fieldLink RX1 27 "BoardNotation$Kinds" "size" "I", Cond.methodLink RX5 115 yX5_isStep, Cond.static yX5_isStep, Cond.initialized RX5, Cond.code yX5_isStep cX5_isStep 2 (some .boolean), Cond.methodLink RX5 121 yX1_stepCount, Cond.instanceMethod yX1_stepCount, Cond.selects RX1 yX1_stepCount yX1_stepCount, Cond.code yX1_stepCount cX1_stepCount 2 (some .int), Cond.fieldLink RX1 15 "BoardNotation$Kinds" "stepCounts" "[I", Cond.methodLink RX1 31 yX1_has]
def wsX5_addStep_r2 : List Cond := [Cond.methodLink RX5 97 yX4_size, Cond.instanceMethod yX4_size, Cond.selects RX4 yX4_size yX4_size, Cond.initialized RX4, Cond.code yX4_size cX4_size 1 (some .int), Cond.fieldLink RX4 36 "BoardNotation$Tree" "size" "I", Cond.methodLink RX5 126 yX1_includeStep, Cond.instanceMethod yX1_includeStep, Cond.selects RX1 yX1_includeStep yX1_includeStep, Cond.code yX1_includeStep cX1_includeStep 6 (some .int), Cond.fieldLink RX1 18 "BoardNotation$Kinds" "stepX" "[I", Cond.fieldLink RX1 21 "BoardNotation$Kinds" "stepY" "[I", Cond.fieldLink RX1 24 "BoardNotation$Kinds" "stepReach" "[I"]
def wsX5_addStep : List Cond := .code yX5_addStep cX5_addStep 5 (some .int) :: ((wsX5_addStep_r1 ++ wsX5_addStep_r2) ++ wsX50 ++ wsX10 ++ wsX40 ++ (vx_atS RX5 114 "java/lang/IndexOutOfBoundsException" ["java/lang/RuntimeException", "java/lang/Exception"]).filter goodWord ++ (vx_atS RX5 90 "java/lang/IllegalArgumentException" ["java/lang/RuntimeException", "java/lang/Exception"]).filter goodWord ++ (vx_atS RX5 102 "java/lang/IllegalStateException" ["java/lang/RuntimeException", "java/lang/Exception"]).filter goodWord)
def wsX5_put_r1 : List Cond := [Cond.classLink RX5 110 "java/lang/IndexOutOfBoundsException", Cond.initialized "java/lang/IndexOutOfBoundsException", Cond.classLink RX5 86 "java/lang/IllegalArgumentException", Cond.initialized "java/lang/IllegalArgumentException", Cond.classLink RX5 98 "java/lang/IllegalStateException", Cond.initialized "java/lang/IllegalStateException", Cond.fieldLink RX5 12 "BoardNotation" "kinds" "LBoardNotation$Kinds;", Cond.fieldLink RX5 28 "BoardNotation" "tree" "LBoardNotation$Tree;", Cond.fieldLink RX5 21 "BoardNotation" "board" "LBoardNotation$Board;", Cond.methodLink RX5 130 yX5_isSquare, Cond.static yX5_isSquare, Cond.initialized RX5, Cond.code yX5_isSquare cX5_isSquare 1 (some .boolean), Cond.methodLink RX5 106 yX1_has, Cond.instanceMethod yX1_has, Cond.selects RX1 yX1_has yX1_has, Cond.initialized RX1, Cond.code yX1_has cX1_has 2 (some .boolean), Cond.fieldLink RX1 27 "BoardNotation$Kinds" "size" "I", Cond.methodLink RX5 97 yX4_size, Cond.instanceMethod yX4_size, Cond.selects RX4 yX4_size yX4_size, Cond.initialized RX4, Cond.code yX4_size cX4_size 1 (some .int)]
def wsX5_put_r2 : List Cond := [Cond.fieldLink RX4 36 "BoardNotation$Tree" "size" "I", Cond.methodLink RX5 139 yX0_replace, Cond.instanceMethod yX0_replace, Cond.selects RX0 yX0_replace yX0_replace, Cond.initialized RX0, Cond.code yX0_replace cX0_replace 4 (some .int), Cond.fieldLink RX0 9 "BoardNotation$Board" "pieces" "[I"]
def wsX5_put : List Cond := .code yX5_put cX5_put 4 (some .int) :: ((wsX5_put_r1 ++ wsX5_put_r2) ++ wsX50 ++ wsX10 ++ wsX40 ++ wsX00 ++ (vx_atS RX5 114 "java/lang/IndexOutOfBoundsException" ["java/lang/RuntimeException", "java/lang/Exception"]).filter goodWord ++ (vx_atS RX5 90 "java/lang/IllegalArgumentException" ["java/lang/RuntimeException", "java/lang/Exception"]).filter goodWord ++ (vx_atS RX5 102 "java/lang/IllegalStateException" ["java/lang/RuntimeException", "java/lang/Exception"]).filter goodWord)
def wsX5_at : List Cond := .code yX5_at cX5_at 2 (some .int) :: ([.classLink RX5 110 "java/lang/IndexOutOfBoundsException", .initialized "java/lang/IndexOutOfBoundsException", .fieldLink RX5 21 "BoardNotation" "board" "LBoardNotation$Board;", .methodLink RX5 130 yX5_isSquare, .static yX5_isSquare, .initialized RX5, .code yX5_isSquare cX5_isSquare 1 (some .boolean), .methodLink RX5 145 yX0_pieceOn, .instanceMethod yX0_pieceOn, .selects RX0 yX0_pieceOn yX0_pieceOn, .initialized RX0, .code yX0_pieceOn cX0_pieceOn 2 (some .int), .fieldLink RX0 9 "BoardNotation$Board" "pieces" "[I"] ++ wsX50 ++ wsX00 ++ (vx_atS RX5 114 "java/lang/IndexOutOfBoundsException" ["java/lang/RuntimeException", "java/lang/Exception"]).filter goodWord)
def wsX5_turn : List Cond := .code yX5_turn cX5_turn 1 (some .int) :: ([.fieldLink RX5 28 "BoardNotation" "tree" "LBoardNotation$Tree;", .fieldLink RX5 56 "BoardNotation" "present" "I", .methodLink RX5 276 yX4_depth, .instanceMethod yX4_depth, .selects RX4 yX4_depth yX4_depth, .initialized RX4, .code yX4_depth cX4_depth 2 (some .int), .fieldLink RX4 24 "BoardNotation$Tree" "depth" "[I", .methodLink RX4 44 yX4_has, .instanceMethod yX4_has, .selects RX4 yX4_has yX4_has, .code yX4_has cX4_has 2 (some .boolean), .fieldLink RX4 36 "BoardNotation$Tree" "size" "I"] ++ wsX50 ++ wsX40)
def wsX5_state_r1 : List Cond := [Cond.classLink RX5 110 "java/lang/IndexOutOfBoundsException", Cond.initialized "java/lang/IndexOutOfBoundsException", Cond.fieldLink RX5 21 "BoardNotation" "board" "LBoardNotation$Board;", Cond.fieldLink RX5 56 "BoardNotation" "present" "I", Cond.fieldLink RX5 28 "BoardNotation" "tree" "LBoardNotation$Tree;", Cond.fieldLink RX5 12 "BoardNotation" "kinds" "LBoardNotation$Kinds;", Cond.fieldLink RX5 49 "BoardNotation" "tape" "LBoardNotation$Text;", Cond.methodLink RX5 148 yX5_turn, Cond.instanceMethod yX5_turn, Cond.selects RX5 yX5_turn yX5_turn, Cond.initialized RX5, Cond.code yX5_turn cX5_turn 1 (some .int), Cond.methodLink RX5 276 yX4_depth, Cond.instanceMethod yX4_depth, Cond.selects RX4 yX4_depth yX4_depth, Cond.initialized RX4, Cond.code yX4_depth cX4_depth 2 (some .int), Cond.fieldLink RX4 24 "BoardNotation$Tree" "depth" "[I", Cond.methodLink RX4 44 yX4_has, Cond.instanceMethod yX4_has, Cond.selects RX4 yX4_has yX4_has, Cond.code yX4_has cX4_has 2 (some .boolean), Cond.fieldLink RX4 36 "BoardNotation$Tree" "size" "I", Cond.methodLink RX5 151 yX0_inCheck]
def wsX5_state_r2 : List Cond := [Cond.instanceMethod yX0_inCheck, Cond.selects RX0 yX0_inCheck yX0_inCheck, Cond.initialized RX0, Cond.code yX0_inCheck cX0_inCheck 6 (some .boolean), Cond.fieldLink RX0 9 "BoardNotation$Board" "pieces" "[I", Cond.methodLink RX0 58 yX0_royalsOf, Cond.instanceMethod yX0_royalsOf, Cond.selects RX0 yX0_royalsOf yX0_royalsOf, Cond.code yX0_royalsOf cX0_royalsOf 5 (some .long), Cond.methodLink RX0 36 yX0_reachedFrom, Cond.instanceMethod yX0_reachedFrom, Cond.selects RX0 yX0_reachedFrom yX0_reachedFrom, Cond.code yX0_reachedFrom cX0_reachedFrom 16 (some .long), Cond.fieldLink RX0 15 "BoardNotation$Board" "kinds" "LBoardNotation$Kinds;", Cond.methodLink RX5 154 yX0_countLegalMoves, Cond.instanceMethod yX0_countLegalMoves, Cond.selects RX0 yX0_countLegalMoves yX0_countLegalMoves, Cond.code yX0_countLegalMoves cX0_countLegalMoves 8 (some .int), Cond.methodLink RX0 72 yX0_keepsRoyalsSafe, Cond.instanceMethod yX0_keepsRoyalsSafe, Cond.selects RX0 yX0_keepsRoyalsSafe yX0_keepsRoyalsSafe, Cond.code yX0_keepsRoyalsSafe cX0_keepsRoyalsSafe 6 (some .boolean), Cond.methodLink RX0 29 yX0_pieceOn, Cond.instanceMethod yX0_pieceOn]
def wsX5_state_r3 : List Cond := [Cond.selects RX0 yX0_pieceOn yX0_pieceOn, Cond.code yX0_pieceOn cX0_pieceOn 2 (some .int), Cond.static yX5_isSquare, Cond.code yX5_isSquare cX5_isSquare 1 (some .boolean), Cond.methodLink RX0 61 yX0_move, Cond.instanceMethod yX0_move, Cond.selects RX0 yX0_move yX0_move, Cond.code yX0_move cX0_move 4 (some .int), Cond.methodLink RX0 65 yX0_inCheck, Cond.methodLink RX0 68 yX0_takeBack, Cond.instanceMethod yX0_takeBack, Cond.selects RX0 yX0_takeBack yX0_takeBack, Cond.code yX0_takeBack cX0_takeBack 4 none, Cond.methodLink RX5 97 yX4_size, Cond.instanceMethod yX4_size, Cond.selects RX4 yX4_size yX4_size, Cond.code yX4_size cX4_size 1 (some .int), Cond.methodLink RX5 93 yX1_size, Cond.instanceMethod yX1_size, Cond.selects RX1 yX1_size yX1_size, Cond.initialized RX1, Cond.code yX1_size cX1_size 1 (some .int), Cond.fieldLink RX1 27 "BoardNotation$Kinds" "size" "I", Cond.methodLink RX5 157 yX3_size]
def wsX5_state_r4 : List Cond := [Cond.instanceMethod yX3_size, Cond.selects RX3 yX3_size yX3_size, Cond.initialized RX3, Cond.code yX3_size cX3_size 1 (some .int), Cond.fieldLink RX3 15 "BoardNotation$Text" "size" "I"]
def wsX5_state : List Cond := .code yX5_state cX5_state 2 (some .int) :: ((wsX5_state_r1 ++ (wsX5_state_r2 ++ (wsX5_state_r3 ++ wsX5_state_r4))) ++ wsX50 ++ wsX40 ++ wsX00 ++ wsX10 ++ wsX30 ++ (vx_atS RX5 114 "java/lang/IndexOutOfBoundsException" ["java/lang/RuntimeException", "java/lang/Exception"]).filter goodWord)
def wsX5_reasonAgainst_r1 : List Cond := [Cond.fieldLink RX5 21 "BoardNotation" "board" "LBoardNotation$Board;", Cond.methodLink RX5 148 yX5_turn, Cond.instanceMethod yX5_turn, Cond.selects RX5 yX5_turn yX5_turn, Cond.initialized RX5, Cond.code yX5_turn cX5_turn 1 (some .int), Cond.fieldLink RX5 28 "BoardNotation" "tree" "LBoardNotation$Tree;", Cond.fieldLink RX5 56 "BoardNotation" "present" "I", Cond.methodLink RX5 276 yX4_depth, Cond.instanceMethod yX4_depth, Cond.selects RX4 yX4_depth yX4_depth, Cond.initialized RX4, Cond.code yX4_depth cX4_depth 2 (some .int), Cond.fieldLink RX4 24 "BoardNotation$Tree" "depth" "[I", Cond.methodLink RX4 44 yX4_has, Cond.instanceMethod yX4_has, Cond.selects RX4 yX4_has yX4_has, Cond.code yX4_has cX4_has 2 (some .boolean), Cond.fieldLink RX4 36 "BoardNotation$Tree" "size" "I", Cond.methodLink RX5 279 yX0_isOf, Cond.instanceMethod yX0_isOf, Cond.selects RX0 yX0_isOf yX0_isOf, Cond.initialized RX0, Cond.code yX0_isOf cX0_isOf 3 (some .boolean)]
def wsX5_reasonAgainst_r2 : List Cond := [Cond.methodLink RX0 33 yX0_isTaken, Cond.instanceMethod yX0_isTaken, Cond.selects RX0 yX0_isTaken yX0_isTaken, Cond.code yX0_isTaken cX0_isTaken 2 (some .boolean), Cond.methodLink RX0 29 yX0_pieceOn, Cond.instanceMethod yX0_pieceOn, Cond.selects RX0 yX0_pieceOn yX0_pieceOn, Cond.code yX0_pieceOn cX0_pieceOn 2 (some .int), Cond.fieldLink RX0 9 "BoardNotation$Board" "pieces" "[I", Cond.static yX5_isSquare, Cond.code yX5_isSquare cX5_isSquare 1 (some .boolean), Cond.methodLink RX5 282 yX0_reaches, Cond.instanceMethod yX0_reaches, Cond.selects RX0 yX0_reaches yX0_reaches, Cond.code yX0_reaches cX0_reaches 3 (some .boolean), Cond.methodLink RX0 36 yX0_reachedFrom, Cond.instanceMethod yX0_reachedFrom, Cond.selects RX0 yX0_reachedFrom yX0_reachedFrom, Cond.code yX0_reachedFrom cX0_reachedFrom 16 (some .long), Cond.fieldLink RX0 15 "BoardNotation$Board" "kinds" "LBoardNotation$Kinds;", Cond.methodLink RX5 285 yX0_keepsRoyalsSafe, Cond.instanceMethod yX0_keepsRoyalsSafe, Cond.selects RX0 yX0_keepsRoyalsSafe yX0_keepsRoyalsSafe, Cond.code yX0_keepsRoyalsSafe cX0_keepsRoyalsSafe 6 (some .boolean)]
def wsX5_reasonAgainst_r3 : List Cond := [Cond.methodLink RX0 61 yX0_move, Cond.instanceMethod yX0_move, Cond.selects RX0 yX0_move yX0_move, Cond.code yX0_move cX0_move 4 (some .int), Cond.methodLink RX0 65 yX0_inCheck, Cond.instanceMethod yX0_inCheck, Cond.selects RX0 yX0_inCheck yX0_inCheck, Cond.code yX0_inCheck cX0_inCheck 6 (some .boolean), Cond.methodLink RX0 58 yX0_royalsOf, Cond.instanceMethod yX0_royalsOf, Cond.selects RX0 yX0_royalsOf yX0_royalsOf, Cond.code yX0_royalsOf cX0_royalsOf 5 (some .long), Cond.methodLink RX0 68 yX0_takeBack, Cond.instanceMethod yX0_takeBack, Cond.selects RX0 yX0_takeBack yX0_takeBack, Cond.code yX0_takeBack cX0_takeBack 4 none]
def wsX5_reasonAgainst : List Cond := .code yX5_reasonAgainst cX5_reasonAgainst 3 (some .int) :: ((wsX5_reasonAgainst_r1 ++ (wsX5_reasonAgainst_r2 ++ wsX5_reasonAgainst_r3)) ++ wsX50 ++ wsX40 ++ wsX00 ++ wsX10)
def wsX5_reason_r1 : List Cond := [Cond.classLink RX5 110 "java/lang/IndexOutOfBoundsException", Cond.initialized "java/lang/IndexOutOfBoundsException", Cond.methodLink RX5 130 yX5_isSquare, Cond.static yX5_isSquare, Cond.initialized RX5, Cond.code yX5_isSquare cX5_isSquare 1 (some .boolean), Cond.methodLink RX5 160 yX5_reasonAgainst, Cond.instanceMethod yX5_reasonAgainst, Cond.selects RX5 yX5_reasonAgainst yX5_reasonAgainst, Cond.code yX5_reasonAgainst cX5_reasonAgainst 3 (some .int), Cond.fieldLink RX5 21 "BoardNotation" "board" "LBoardNotation$Board;", Cond.methodLink RX5 148 yX5_turn, Cond.instanceMethod yX5_turn, Cond.selects RX5 yX5_turn yX5_turn, Cond.code yX5_turn cX5_turn 1 (some .int), Cond.fieldLink RX5 28 "BoardNotation" "tree" "LBoardNotation$Tree;", Cond.fieldLink RX5 56 "BoardNotation" "present" "I", Cond.methodLink RX5 276 yX4_depth, Cond.instanceMethod yX4_depth, Cond.selects RX4 yX4_depth yX4_depth, Cond.initialized RX4, Cond.code yX4_depth cX4_depth 2 (some .int), Cond.fieldLink RX4 24 "BoardNotation$Tree" "depth" "[I", Cond.methodLink RX4 44 yX4_has]
def wsX5_reason_r2 : List Cond := [Cond.instanceMethod yX4_has, Cond.selects RX4 yX4_has yX4_has, Cond.code yX4_has cX4_has 2 (some .boolean), Cond.fieldLink RX4 36 "BoardNotation$Tree" "size" "I", Cond.methodLink RX5 279 yX0_isOf, Cond.instanceMethod yX0_isOf, Cond.selects RX0 yX0_isOf yX0_isOf, Cond.initialized RX0, Cond.code yX0_isOf cX0_isOf 3 (some .boolean), Cond.methodLink RX0 33 yX0_isTaken, Cond.instanceMethod yX0_isTaken, Cond.selects RX0 yX0_isTaken yX0_isTaken, Cond.code yX0_isTaken cX0_isTaken 2 (some .boolean), Cond.methodLink RX0 29 yX0_pieceOn, Cond.instanceMethod yX0_pieceOn, Cond.selects RX0 yX0_pieceOn yX0_pieceOn, Cond.code yX0_pieceOn cX0_pieceOn 2 (some .int), Cond.fieldLink RX0 9 "BoardNotation$Board" "pieces" "[I", Cond.methodLink RX5 282 yX0_reaches, Cond.instanceMethod yX0_reaches, Cond.selects RX0 yX0_reaches yX0_reaches, Cond.code yX0_reaches cX0_reaches 3 (some .boolean), Cond.methodLink RX0 36 yX0_reachedFrom, Cond.instanceMethod yX0_reachedFrom]
def wsX5_reason_r3 : List Cond := [Cond.selects RX0 yX0_reachedFrom yX0_reachedFrom, Cond.code yX0_reachedFrom cX0_reachedFrom 16 (some .long), Cond.fieldLink RX0 15 "BoardNotation$Board" "kinds" "LBoardNotation$Kinds;", Cond.methodLink RX5 285 yX0_keepsRoyalsSafe, Cond.instanceMethod yX0_keepsRoyalsSafe, Cond.selects RX0 yX0_keepsRoyalsSafe yX0_keepsRoyalsSafe, Cond.code yX0_keepsRoyalsSafe cX0_keepsRoyalsSafe 6 (some .boolean), Cond.methodLink RX0 61 yX0_move, Cond.instanceMethod yX0_move, Cond.selects RX0 yX0_move yX0_move, Cond.code yX0_move cX0_move 4 (some .int), Cond.methodLink RX0 65 yX0_inCheck, Cond.instanceMethod yX0_inCheck, Cond.selects RX0 yX0_inCheck yX0_inCheck, Cond.code yX0_inCheck cX0_inCheck 6 (some .boolean), Cond.methodLink RX0 58 yX0_royalsOf, Cond.instanceMethod yX0_royalsOf, Cond.selects RX0 yX0_royalsOf yX0_royalsOf, Cond.code yX0_royalsOf cX0_royalsOf 5 (some .long), Cond.methodLink RX0 68 yX0_takeBack, Cond.instanceMethod yX0_takeBack, Cond.selects RX0 yX0_takeBack yX0_takeBack, Cond.code yX0_takeBack cX0_takeBack 4 none]
def wsX5_reason : List Cond := .code yX5_reason cX5_reason 3 (some .int) :: ((wsX5_reason_r1 ++ (wsX5_reason_r2 ++ wsX5_reason_r3)) ++ wsX50 ++ wsX40 ++ wsX00 ++ wsX10 ++ (vx_atS RX5 114 "java/lang/IndexOutOfBoundsException" ["java/lang/RuntimeException", "java/lang/Exception"]).filter goodWord)
def wsX5_stepDown_r1 : List Cond := [Cond.fieldLink RX5 28 "BoardNotation" "tree" "LBoardNotation$Tree;", Cond.fieldLink RX5 21 "BoardNotation" "board" "LBoardNotation$Board;", Cond.fieldLink RX5 56 "BoardNotation" "present" "I", Cond.methodLink RX5 237 yX4_from, Cond.instanceMethod yX4_from, Cond.selects RX4 yX4_from yX4_from, Cond.initialized RX4, Cond.code yX4_from cX4_from 2 (some .int), Cond.fieldLink RX4 15 "BoardNotation$Tree" "from" "[I", Cond.methodLink RX4 44 yX4_has, Cond.instanceMethod yX4_has, Cond.selects RX4 yX4_has yX4_has, Cond.code yX4_has cX4_has 2 (some .boolean), Cond.fieldLink RX4 36 "BoardNotation$Tree" "size" "I", Cond.methodLink RX5 240 yX4_to, Cond.instanceMethod yX4_to, Cond.selects RX4 yX4_to yX4_to, Cond.code yX4_to cX4_to 2 (some .int), Cond.fieldLink RX4 18 "BoardNotation$Tree" "to" "[I", Cond.methodLink RX5 288 yX0_move, Cond.instanceMethod yX0_move, Cond.selects RX0 yX0_move yX0_move, Cond.initialized RX0, Cond.code yX0_move cX0_move 4 (some .int)]
def wsX5_stepDown_r2 : List Cond := [Cond.fieldLink RX0 9 "BoardNotation$Board" "pieces" "[I", Cond.static yX5_isSquare, Cond.initialized RX5, Cond.code yX5_isSquare cX5_isSquare 1 (some .boolean), Cond.methodLink RX5 291 yX4_keepTaken, Cond.instanceMethod yX4_keepTaken, Cond.selects RX4 yX4_keepTaken yX4_keepTaken, Cond.code yX4_keepTaken cX4_keepTaken 3 none, Cond.fieldLink RX4 21 "BoardNotation$Tree" "taken" "[I"]
def wsX5_stepDown : List Cond := .code yX5_stepDown cX5_stepDown 2 none :: ((wsX5_stepDown_r1 ++ wsX5_stepDown_r2) ++ wsX50 ++ wsX40 ++ wsX00)
def wsX5_follow_r1 : List Cond := [Cond.fieldLink RX5 28 "BoardNotation" "tree" "LBoardNotation$Tree;", Cond.fieldLink RX5 56 "BoardNotation" "present" "I", Cond.methodLink RX5 319 yX4_childOfMove, Cond.instanceMethod yX4_childOfMove, Cond.selects RX4 yX4_childOfMove yX4_childOfMove, Cond.initialized RX4, Cond.code yX4_childOfMove cX4_childOfMove 6 (some .int), Cond.fieldLink RX4 15 "BoardNotation$Tree" "from" "[I", Cond.fieldLink RX4 18 "BoardNotation$Tree" "to" "[I", Cond.fieldLink RX4 33 "BoardNotation$Tree" "nextBeside" "[I", Cond.methodLink RX4 59 yX4_child, Cond.instanceMethod yX4_child, Cond.selects RX4 yX4_child yX4_child, Cond.code yX4_child cX4_child 5 (some .int), Cond.fieldLink RX4 27 "BoardNotation$Tree" "childCount" "[I", Cond.fieldLink RX4 30 "BoardNotation$Tree" "firstChild" "[I", Cond.methodLink RX4 44 yX4_has, Cond.instanceMethod yX4_has, Cond.selects RX4 yX4_has yX4_has, Cond.code yX4_has cX4_has 2 (some .boolean), Cond.fieldLink RX4 36 "BoardNotation$Tree" "size" "I", Cond.methodLink RX4 57 yX4_childCount, Cond.instanceMethod yX4_childCount, Cond.selects RX4 yX4_childCount yX4_childCount]
def wsX5_follow_r2 : List Cond := [Cond.code yX4_childCount cX4_childCount 2 (some .int), Cond.methodLink RX5 97 yX4_size, Cond.instanceMethod yX4_size, Cond.selects RX4 yX4_size yX4_size, Cond.code yX4_size cX4_size 1 (some .int), Cond.methodLink RX5 323 yX4_grow, Cond.instanceMethod yX4_grow, Cond.selects RX4 yX4_grow yX4_grow, Cond.code yX4_grow cX4_grow 6 (some .int), Cond.fieldLink RX4 24 "BoardNotation$Tree" "depth" "[I", Cond.methodLink RX4 40 yX4_occupy, Cond.instanceMethod yX4_occupy, Cond.selects RX4 yX4_occupy yX4_occupy, Cond.code yX4_occupy cX4_occupy 5 (some .int), Cond.fieldLink RX4 9 "BoardNotation$Tree" "above" "[I", Cond.fieldLink RX4 21 "BoardNotation$Tree" "taken" "[I", Cond.methodLink RX5 313 yX5_stepDown, Cond.instanceMethod yX5_stepDown, Cond.selects RX5 yX5_stepDown yX5_stepDown, Cond.initialized RX5, Cond.code yX5_stepDown cX5_stepDown 2 none, Cond.fieldLink RX5 21 "BoardNotation" "board" "LBoardNotation$Board;", Cond.methodLink RX5 237 yX4_from, Cond.instanceMethod yX4_from]
def wsX5_follow_r3 : List Cond := [Cond.selects RX4 yX4_from yX4_from, Cond.code yX4_from cX4_from 2 (some .int), Cond.methodLink RX5 240 yX4_to, Cond.instanceMethod yX4_to, Cond.selects RX4 yX4_to yX4_to, Cond.code yX4_to cX4_to 2 (some .int), Cond.methodLink RX5 288 yX0_move, Cond.instanceMethod yX0_move, Cond.selects RX0 yX0_move yX0_move, Cond.initialized RX0, Cond.code yX0_move cX0_move 4 (some .int), Cond.fieldLink RX0 9 "BoardNotation$Board" "pieces" "[I", Cond.static yX5_isSquare, Cond.code yX5_isSquare cX5_isSquare 1 (some .boolean), Cond.methodLink RX5 291 yX4_keepTaken, Cond.instanceMethod yX4_keepTaken, Cond.selects RX4 yX4_keepTaken yX4_keepTaken, Cond.code yX4_keepTaken cX4_keepTaken 3 none]
def wsX5_follow : List Cond := .code yX5_follow cX5_follow 4 (some .boolean) :: ((wsX5_follow_r1 ++ (wsX5_follow_r2 ++ wsX5_follow_r3)) ++ wsX50 ++ wsX40 ++ wsX00)
def wsX5_play_r1 : List Cond := [Cond.classLink RX5 110 "java/lang/IndexOutOfBoundsException", Cond.initialized "java/lang/IndexOutOfBoundsException", Cond.classLink RX5 98 "java/lang/IllegalStateException", Cond.initialized "java/lang/IllegalStateException", Cond.fieldLink RX5 56 "BoardNotation" "present" "I", Cond.methodLink RX5 130 yX5_isSquare, Cond.static yX5_isSquare, Cond.initialized RX5, Cond.code yX5_isSquare cX5_isSquare 1 (some .boolean), Cond.methodLink RX5 160 yX5_reasonAgainst, Cond.instanceMethod yX5_reasonAgainst, Cond.selects RX5 yX5_reasonAgainst yX5_reasonAgainst, Cond.code yX5_reasonAgainst cX5_reasonAgainst 3 (some .int), Cond.fieldLink RX5 21 "BoardNotation" "board" "LBoardNotation$Board;", Cond.methodLink RX5 148 yX5_turn, Cond.instanceMethod yX5_turn, Cond.selects RX5 yX5_turn yX5_turn, Cond.code yX5_turn cX5_turn 1 (some .int), Cond.fieldLink RX5 28 "BoardNotation" "tree" "LBoardNotation$Tree;", Cond.methodLink RX5 276 yX4_depth, Cond.instanceMethod yX4_depth, Cond.selects RX4 yX4_depth yX4_depth, Cond.initialized RX4, Cond.code yX4_depth cX4_depth 2 (some .int)]
def wsX5_play_r2 : List Cond := [Cond.fieldLink RX4 24 "BoardNotation$Tree" "depth" "[I", Cond.methodLink RX4 44 yX4_has, Cond.instanceMethod yX4_has, Cond.selects RX4 yX4_has yX4_has, Cond.code yX4_has cX4_has 2 (some .boolean), Cond.fieldLink RX4 36 "BoardNotation$Tree" "size" "I", Cond.methodLink RX5 279 yX0_isOf, Cond.instanceMethod yX0_isOf, Cond.selects RX0 yX0_isOf yX0_isOf, Cond.initialized RX0, Cond.code yX0_isOf cX0_isOf 3 (some .boolean), Cond.methodLink RX0 33 yX0_isTaken, Cond.instanceMethod yX0_isTaken, Cond.selects RX0 yX0_isTaken yX0_isTaken, Cond.code yX0_isTaken cX0_isTaken 2 (some .boolean), Cond.methodLink RX0 29 yX0_pieceOn, Cond.instanceMethod yX0_pieceOn, Cond.selects RX0 yX0_pieceOn yX0_pieceOn, Cond.code yX0_pieceOn cX0_pieceOn 2 (some .int), Cond.fieldLink RX0 9 "BoardNotation$Board" "pieces" "[I", Cond.methodLink RX5 282 yX0_reaches, Cond.instanceMethod yX0_reaches, Cond.selects RX0 yX0_reaches yX0_reaches, Cond.code yX0_reaches cX0_reaches 3 (some .boolean)]
def wsX5_play_r3 : List Cond := [Cond.methodLink RX0 36 yX0_reachedFrom, Cond.instanceMethod yX0_reachedFrom, Cond.selects RX0 yX0_reachedFrom yX0_reachedFrom, Cond.code yX0_reachedFrom cX0_reachedFrom 16 (some .long), Cond.fieldLink RX0 15 "BoardNotation$Board" "kinds" "LBoardNotation$Kinds;", Cond.methodLink RX5 285 yX0_keepsRoyalsSafe, Cond.instanceMethod yX0_keepsRoyalsSafe, Cond.selects RX0 yX0_keepsRoyalsSafe yX0_keepsRoyalsSafe, Cond.code yX0_keepsRoyalsSafe cX0_keepsRoyalsSafe 6 (some .boolean), Cond.methodLink RX0 61 yX0_move, Cond.instanceMethod yX0_move, Cond.selects RX0 yX0_move yX0_move, Cond.code yX0_move cX0_move 4 (some .int), Cond.methodLink RX0 65 yX0_inCheck, Cond.instanceMethod yX0_inCheck, Cond.selects RX0 yX0_inCheck yX0_inCheck, Cond.code yX0_inCheck cX0_inCheck 6 (some .boolean), Cond.methodLink RX0 58 yX0_royalsOf, Cond.instanceMethod yX0_royalsOf, Cond.selects RX0 yX0_royalsOf yX0_royalsOf, Cond.code yX0_royalsOf cX0_royalsOf 5 (some .long), Cond.methodLink RX0 68 yX0_takeBack, Cond.instanceMethod yX0_takeBack, Cond.selects RX0 yX0_takeBack yX0_takeBack]
def wsX5_play_r4 : List Cond := [Cond.code yX0_takeBack cX0_takeBack 4 none, Cond.methodLink RX5 165 yX5_follow, Cond.instanceMethod yX5_follow, Cond.selects RX5 yX5_follow yX5_follow, Cond.code yX5_follow cX5_follow 4 (some .boolean), Cond.methodLink RX5 319 yX4_childOfMove, Cond.instanceMethod yX4_childOfMove, Cond.selects RX4 yX4_childOfMove yX4_childOfMove, Cond.code yX4_childOfMove cX4_childOfMove 6 (some .int), Cond.fieldLink RX4 15 "BoardNotation$Tree" "from" "[I", Cond.fieldLink RX4 18 "BoardNotation$Tree" "to" "[I", Cond.fieldLink RX4 33 "BoardNotation$Tree" "nextBeside" "[I", Cond.methodLink RX4 59 yX4_child, Cond.instanceMethod yX4_child, Cond.selects RX4 yX4_child yX4_child, Cond.code yX4_child cX4_child 5 (some .int), Cond.fieldLink RX4 27 "BoardNotation$Tree" "childCount" "[I", Cond.fieldLink RX4 30 "BoardNotation$Tree" "firstChild" "[I", Cond.methodLink RX4 57 yX4_childCount, Cond.instanceMethod yX4_childCount, Cond.selects RX4 yX4_childCount yX4_childCount, Cond.code yX4_childCount cX4_childCount 2 (some .int), Cond.methodLink RX5 97 yX4_size, Cond.instanceMethod yX4_size]
def wsX5_play_r5 : List Cond := [Cond.selects RX4 yX4_size yX4_size, Cond.code yX4_size cX4_size 1 (some .int), Cond.methodLink RX5 323 yX4_grow, Cond.instanceMethod yX4_grow, Cond.selects RX4 yX4_grow yX4_grow, Cond.code yX4_grow cX4_grow 6 (some .int), Cond.methodLink RX4 40 yX4_occupy, Cond.instanceMethod yX4_occupy, Cond.selects RX4 yX4_occupy yX4_occupy, Cond.code yX4_occupy cX4_occupy 5 (some .int), Cond.fieldLink RX4 9 "BoardNotation$Tree" "above" "[I", Cond.fieldLink RX4 21 "BoardNotation$Tree" "taken" "[I", Cond.methodLink RX5 313 yX5_stepDown, Cond.instanceMethod yX5_stepDown, Cond.selects RX5 yX5_stepDown yX5_stepDown, Cond.code yX5_stepDown cX5_stepDown 2 none, Cond.methodLink RX5 237 yX4_from, Cond.instanceMethod yX4_from, Cond.selects RX4 yX4_from yX4_from, Cond.code yX4_from cX4_from 2 (some .int), Cond.methodLink RX5 240 yX4_to, Cond.instanceMethod yX4_to, Cond.selects RX4 yX4_to yX4_to, Cond.code yX4_to cX4_to 2 (some .int)]
def wsX5_play_r6 : List Cond := [Cond.methodLink RX5 288 yX0_move, Cond.methodLink RX5 291 yX4_keepTaken, Cond.instanceMethod yX4_keepTaken, Cond.selects RX4 yX4_keepTaken yX4_keepTaken, Cond.code yX4_keepTaken cX4_keepTaken 3 none]
def wsX5_play : List Cond := .code yX5_play cX5_play 3 (some .int) :: ((wsX5_play_r1 ++ (wsX5_play_r2 ++ (wsX5_play_r3 ++ (wsX5_play_r4 ++ (wsX5_play_r5 ++ wsX5_play_r6))))) ++ wsX50 ++ wsX40 ++ wsX00 ++ wsX10 ++ (vx_atS RX5 114 "java/lang/IndexOutOfBoundsException" ["java/lang/RuntimeException", "java/lang/Exception"]).filter goodWord ++ (vx_atS RX5 102 "java/lang/IllegalStateException" ["java/lang/RuntimeException", "java/lang/Exception"]).filter goodWord)
def wsX5_isByteOrNothing : List Cond := .code yX5_isByteOrNothing cX5_isByteOrNothing 1 (some .boolean) :: ([])
def wsX5_countByte : List Cond := .code yX5_countByte cX5_countByte 1 (some .int) :: ([])
def wsX5_appendUnlessNothing : List Cond := .code yX5_appendUnlessNothing cX5_appendUnlessNothing 2 none :: ([.fieldLink RX5 49 "BoardNotation" "tape" "LBoardNotation$Text;", .methodLink RX5 180 yX3_append, .instanceMethod yX3_append, .selects RX3 yX3_append yX3_append, .initialized RX3, .code yX3_append cX3_append 2 none, .fieldLink RX3 15 "BoardNotation$Text" "size" "I", .fieldLink RX3 9 "BoardNotation$Text" "bytes" "[I", .fieldLink RX3 19 "BoardNotation$Text" "spilled" "Z"] ++ wsX50 ++ wsX30)
def wsX5_feed_r1 : List Cond := [Cond.classLink RX5 86 "java/lang/IllegalArgumentException", Cond.initialized "java/lang/IllegalArgumentException", Cond.classLink RX5 98 "java/lang/IllegalStateException", Cond.initialized "java/lang/IllegalStateException", Cond.fieldLink RX5 49 "BoardNotation" "tape" "LBoardNotation$Text;", Cond.methodLink RX5 170 yX5_isByteOrNothing, Cond.static yX5_isByteOrNothing, Cond.initialized RX5, Cond.code yX5_isByteOrNothing cX5_isByteOrNothing 1 (some .boolean), Cond.methodLink RX5 175 yX5_countByte, Cond.static yX5_countByte, Cond.code yX5_countByte cX5_countByte 1 (some .int), Cond.methodLink RX5 157 yX3_size, Cond.instanceMethod yX3_size, Cond.selects RX3 yX3_size yX3_size, Cond.initialized RX3, Cond.code yX3_size cX3_size 1 (some .int), Cond.fieldLink RX3 15 "BoardNotation$Text" "size" "I", Cond.methodLink RX5 180 yX3_append, Cond.instanceMethod yX3_append, Cond.selects RX3 yX3_append yX3_append, Cond.code yX3_append cX3_append 2 none, Cond.fieldLink RX3 9 "BoardNotation$Text" "bytes" "[I", Cond.fieldLink RX3 19 "BoardNotation$Text" "spilled" "Z"]
def wsX5_feed_r2 : List Cond := [Cond.methodLink RX5 184 yX5_appendUnlessNothing, Cond.instanceMethod yX5_appendUnlessNothing, Cond.selects RX5 yX5_appendUnlessNothing yX5_appendUnlessNothing, Cond.code yX5_appendUnlessNothing cX5_appendUnlessNothing 2 none]
def wsX5_feed : List Cond := .code yX5_feed cX5_feed 6 (some .int) :: ((wsX5_feed_r1 ++ wsX5_feed_r2) ++ wsX50 ++ wsX30 ++ (vx_atS RX5 90 "java/lang/IllegalArgumentException" ["java/lang/RuntimeException", "java/lang/Exception"]).filter goodWord ++ (vx_atS RX5 102 "java/lang/IllegalStateException" ["java/lang/RuntimeException", "java/lang/Exception"]).filter goodWord)
def wsX5_empty : List Cond := .code yX5_empty cX5_empty 2 (some .int) :: ([.fieldLink RX5 49 "BoardNotation" "tape" "LBoardNotation$Text;", .methodLink RX5 157 yX3_size, .instanceMethod yX3_size, .selects RX3 yX3_size yX3_size, .initialized RX3, .code yX3_size cX3_size 1 (some .int), .fieldLink RX3 15 "BoardNotation$Text" "size" "I", .methodLink RX5 187 yX3_wipe, .instanceMethod yX3_wipe, .selects RX3 yX3_wipe yX3_wipe, .code yX3_wipe cX3_wipe 1 none, .fieldLink RX3 19 "BoardNotation$Text" "spilled" "Z"] ++ wsX50 ++ wsX30)
def wsX5_judge_r1 : List Cond := [Cond.fieldLink RX5 35 "BoardNotation" "form" "LBoardNotation$ShortForm;", Cond.fieldLink RX5 49 "BoardNotation" "tape" "LBoardNotation$Text;", Cond.fieldLink RX5 12 "BoardNotation" "kinds" "LBoardNotation$Kinds;", Cond.fieldLink RX5 21 "BoardNotation" "board" "LBoardNotation$Board;", Cond.fieldLink RX5 67 "BoardNotation" "judgedFrom" "I", Cond.fieldLink RX5 70 "BoardNotation" "judgedTo" "I", Cond.methodLink RX5 326 yX2_fits, Cond.instanceMethod yX2_fits, Cond.selects RX2 yX2_fits yX2_fits, Cond.initialized RX2, Cond.code yX2_fits cX2_fits 6 (some .boolean), Cond.fieldLink RX2 9 "BoardNotation$ShortForm" "misfit" "I", Cond.methodLink RX2 37 yX2_forget, Cond.instanceMethod yX2_forget, Cond.selects RX2 yX2_forget yX2_forget, Cond.code yX2_forget cX2_forget 1 none, Cond.fieldLink RX2 15 "BoardNotation$ShortForm" "letter" "I", Cond.fieldLink RX2 18 "BoardNotation$ShortForm" "fromFile" "I", Cond.fieldLink RX2 21 "BoardNotation$ShortForm" "fromRank" "I", Cond.fieldLink RX2 24 "BoardNotation$ShortForm" "toFile" "I", Cond.fieldLink RX2 27 "BoardNotation$ShortForm" "toRank" "I", Cond.fieldLink RX2 30 "BoardNotation$ShortForm" "sign" "I", Cond.fieldLink RX2 33 "BoardNotation$ShortForm" "captures" "Z", Cond.methodLink RX2 40 yX3_get]
def wsX5_judge_r2 : List Cond := [Cond.instanceMethod yX3_get, Cond.selects RX3 yX3_get yX3_get, Cond.initialized RX3, Cond.code yX3_get cX3_get 2 (some .int), Cond.fieldLink RX3 15 "BoardNotation$Text" "size" "I", Cond.fieldLink RX3 9 "BoardNotation$Text" "bytes" "[I", Cond.methodLink RX2 46 yX2_stateBehind, Cond.static yX2_stateBehind, Cond.code yX2_stateBehind cX2_stateBehind 2 (some .int), Cond.methodLink RX2 54 yX2_isFile, Cond.static yX2_isFile, Cond.code yX2_isFile cX2_isFile 1 (some .boolean), Cond.methodLink RX2 58 yX2_isRank, Cond.static yX2_isRank, Cond.code yX2_isRank cX2_isRank 1 (some .boolean), Cond.methodLink RX2 64 yX2_stateBehindOrigin, Cond.static yX2_stateBehindOrigin, Cond.code yX2_stateBehindOrigin cX2_stateBehindOrigin 1 (some .int), Cond.methodLink RX2 61 yX2_isSign, Cond.static yX2_isSign, Cond.code yX2_isSign cX2_isSign 1 (some .boolean), Cond.methodLink RX2 50 yX2_keep, Cond.instanceMethod yX2_keep, Cond.selects RX2 yX2_keep yX2_keep]
def wsX5_judge_r3 : List Cond := [Cond.code yX2_keep cX2_keep 2 none, Cond.methodLink RX5 330 yX2_letter, Cond.instanceMethod yX2_letter, Cond.selects RX2 yX2_letter yX2_letter, Cond.code yX2_letter cX2_letter 1 (some .int), Cond.methodLink RX5 82 yX1_withLetter, Cond.instanceMethod yX1_withLetter, Cond.selects RX1 yX1_withLetter yX1_withLetter, Cond.initialized RX1, Cond.code yX1_withLetter cX1_withLetter 3 (some .int), Cond.fieldLink RX1 27 "BoardNotation$Kinds" "size" "I", Cond.fieldLink RX1 9 "BoardNotation$Kinds" "letters" "[I", Cond.methodLink RX5 148 yX5_turn, Cond.instanceMethod yX5_turn, Cond.selects RX5 yX5_turn yX5_turn, Cond.initialized RX5, Cond.code yX5_turn cX5_turn 1 (some .int), Cond.fieldLink RX5 28 "BoardNotation" "tree" "LBoardNotation$Tree;", Cond.fieldLink RX5 56 "BoardNotation" "present" "I", Cond.methodLink RX5 276 yX4_depth, Cond.instanceMethod yX4_depth, Cond.selects RX4 yX4_depth yX4_depth, Cond.initialized RX4, Cond.code yX4_depth cX4_depth 2 (some .int)]
def wsX5_judge_r4 : List Cond := [Cond.fieldLink RX4 24 "BoardNotation$Tree" "depth" "[I", Cond.methodLink RX4 44 yX4_has, Cond.instanceMethod yX4_has, Cond.selects RX4 yX4_has yX4_has, Cond.code yX4_has cX4_has 2 (some .boolean), Cond.fieldLink RX4 36 "BoardNotation$Tree" "size" "I", Cond.methodLink RX5 333 yX2_to, Cond.instanceMethod yX2_to, Cond.selects RX2 yX2_to yX2_to, Cond.code yX2_to cX2_to 1 (some .int), Cond.methodLink RX5 145 yX0_pieceOn, Cond.instanceMethod yX0_pieceOn, Cond.selects RX0 yX0_pieceOn yX0_pieceOn, Cond.initialized RX0, Cond.code yX0_pieceOn cX0_pieceOn 2 (some .int), Cond.fieldLink RX0 9 "BoardNotation$Board" "pieces" "[I", Cond.static yX5_isSquare, Cond.code yX5_isSquare cX5_isSquare 1 (some .boolean), Cond.methodLink RX5 335 yX2_allowsFrom, Cond.instanceMethod yX2_allowsFrom, Cond.selects RX2 yX2_allowsFrom yX2_allowsFrom, Cond.code yX2_allowsFrom cX2_allowsFrom 2 (some .boolean), Cond.methodLink RX5 282 yX0_reaches, Cond.instanceMethod yX0_reaches]
def wsX5_judge_r5 : List Cond := [Cond.selects RX0 yX0_reaches yX0_reaches, Cond.code yX0_reaches cX0_reaches 3 (some .boolean), Cond.methodLink RX0 36 yX0_reachedFrom, Cond.instanceMethod yX0_reachedFrom, Cond.selects RX0 yX0_reachedFrom yX0_reachedFrom, Cond.code yX0_reachedFrom cX0_reachedFrom 16 (some .long), Cond.fieldLink RX0 15 "BoardNotation$Board" "kinds" "LBoardNotation$Kinds;", Cond.methodLink RX5 285 yX0_keepsRoyalsSafe, Cond.instanceMethod yX0_keepsRoyalsSafe, Cond.selects RX0 yX0_keepsRoyalsSafe yX0_keepsRoyalsSafe, Cond.code yX0_keepsRoyalsSafe cX0_keepsRoyalsSafe 6 (some .boolean), Cond.methodLink RX0 29 yX0_pieceOn, Cond.methodLink RX0 61 yX0_move, Cond.instanceMethod yX0_move, Cond.selects RX0 yX0_move yX0_move, Cond.code yX0_move cX0_move 4 (some .int), Cond.methodLink RX0 65 yX0_inCheck, Cond.instanceMethod yX0_inCheck, Cond.selects RX0 yX0_inCheck yX0_inCheck, Cond.code yX0_inCheck cX0_inCheck 6 (some .boolean), Cond.methodLink RX0 58 yX0_royalsOf, Cond.instanceMethod yX0_royalsOf, Cond.selects RX0 yX0_royalsOf yX0_royalsOf, Cond.code yX0_royalsOf cX0_royalsOf 5 (some .long)]
def wsX5_judge_r6 : List Cond := [Cond.methodLink RX0 68 yX0_takeBack, Cond.instanceMethod yX0_takeBack, Cond.selects RX0 yX0_takeBack yX0_takeBack, Cond.code yX0_takeBack cX0_takeBack 4 none, Cond.methodLink RX5 338 yX2_captures, Cond.instanceMethod yX2_captures, Cond.selects RX2 yX2_captures yX2_captures, Cond.code yX2_captures cX2_captures 1 (some .boolean), Cond.methodLink RX5 341 yX0_isTaken, Cond.instanceMethod yX0_isTaken, Cond.selects RX0 yX0_isTaken yX0_isTaken, Cond.code yX0_isTaken cX0_isTaken 2 (some .boolean), Cond.methodLink RX5 344 yX2_sign, Cond.instanceMethod yX2_sign, Cond.selects RX2 yX2_sign yX2_sign, Cond.code yX2_sign cX2_sign 1 (some .int), Cond.methodLink RX5 347 yX0_signBehind, Cond.instanceMethod yX0_signBehind, Cond.selects RX0 yX0_signBehind yX0_signBehind, Cond.code yX0_signBehind cX0_signBehind 6 (some .int), Cond.methodLink RX0 76 yX0_countLegalMoves, Cond.instanceMethod yX0_countLegalMoves, Cond.selects RX0 yX0_countLegalMoves yX0_countLegalMoves, Cond.code yX0_countLegalMoves cX0_countLegalMoves 8 (some .int)]
def wsX5_judge_r7 : List Cond := [Cond.methodLink RX0 72 yX0_keepsRoyalsSafe]
def wsX5_judge : List Cond := .code yX5_judge cX5_judge 10 (some .int) :: ((wsX5_judge_r1 ++ (wsX5_judge_r2 ++ (wsX5_judge_r3 ++ (wsX5_judge_r4 ++ (wsX5_judge_r5 ++ (wsX5_judge_r6 ++ wsX5_judge_r7)))))) ++ wsX50 ++ wsX20 ++ wsX30 ++ wsX10 ++ wsX40 ++ wsX00)
def wsX5_read_r1 : List Cond := [Cond.fieldLink RX5 49 "BoardNotation" "tape" "LBoardNotation$Text;", Cond.fieldLink RX5 73 "BoardNotation" "errorPlace" "I", Cond.fieldLink RX5 67 "BoardNotation" "judgedFrom" "I", Cond.fieldLink RX5 76 "BoardNotation" "foundFrom" "I", Cond.fieldLink RX5 70 "BoardNotation" "judgedTo" "I", Cond.fieldLink RX5 79 "BoardNotation" "foundTo" "I", Cond.fieldLink RX5 35 "BoardNotation" "form" "LBoardNotation$ShortForm;", Cond.methodLink RX5 157 yX3_size, Cond.instanceMethod yX3_size, Cond.selects RX3 yX3_size yX3_size, Cond.initialized RX3, Cond.code yX3_size cX3_size 1 (some .int), Cond.fieldLink RX3 15 "BoardNotation$Text" "size" "I", Cond.methodLink RX5 190 yX5_judge, Cond.instanceMethod yX5_judge, Cond.selects RX5 yX5_judge yX5_judge, Cond.initialized RX5, Cond.code yX5_judge cX5_judge 10 (some .int), Cond.fieldLink RX5 12 "BoardNotation" "kinds" "LBoardNotation$Kinds;", Cond.fieldLink RX5 21 "BoardNotation" "board" "LBoardNotation$Board;", Cond.methodLink RX5 326 yX2_fits, Cond.instanceMethod yX2_fits, Cond.selects RX2 yX2_fits yX2_fits, Cond.initialized RX2]
def wsX5_read_r2 : List Cond := [Cond.code yX2_fits cX2_fits 6 (some .boolean), Cond.fieldLink RX2 9 "BoardNotation$ShortForm" "misfit" "I", Cond.methodLink RX2 37 yX2_forget, Cond.instanceMethod yX2_forget, Cond.selects RX2 yX2_forget yX2_forget, Cond.code yX2_forget cX2_forget 1 none, Cond.fieldLink RX2 15 "BoardNotation$ShortForm" "letter" "I", Cond.fieldLink RX2 18 "BoardNotation$ShortForm" "fromFile" "I", Cond.fieldLink RX2 21 "BoardNotation$ShortForm" "fromRank" "I", Cond.fieldLink RX2 24 "BoardNotation$ShortForm" "toFile" "I", Cond.fieldLink RX2 27 "BoardNotation$ShortForm" "toRank" "I", Cond.fieldLink RX2 30 "BoardNotation$ShortForm" "sign" "I", Cond.fieldLink RX2 33 "BoardNotation$ShortForm" "captures" "Z", Cond.methodLink RX2 40 yX3_get, Cond.instanceMethod yX3_get, Cond.selects RX3 yX3_get yX3_get, Cond.code yX3_get cX3_get 2 (some .int), Cond.fieldLink RX3 9 "BoardNotation$Text" "bytes" "[I", Cond.methodLink RX2 46 yX2_stateBehind, Cond.static yX2_stateBehind, Cond.code yX2_stateBehind cX2_stateBehind 2 (some .int), Cond.methodLink RX2 54 yX2_isFile, Cond.static yX2_isFile, Cond.code yX2_isFile cX2_isFile 1 (some .boolean)]
def wsX5_read_r3 : List Cond := [Cond.methodLink RX2 58 yX2_isRank, Cond.static yX2_isRank, Cond.code yX2_isRank cX2_isRank 1 (some .boolean), Cond.methodLink RX2 64 yX2_stateBehindOrigin, Cond.static yX2_stateBehindOrigin, Cond.code yX2_stateBehindOrigin cX2_stateBehindOrigin 1 (some .int), Cond.methodLink RX2 61 yX2_isSign, Cond.static yX2_isSign, Cond.code yX2_isSign cX2_isSign 1 (some .boolean), Cond.methodLink RX2 50 yX2_keep, Cond.instanceMethod yX2_keep, Cond.selects RX2 yX2_keep yX2_keep, Cond.code yX2_keep cX2_keep 2 none, Cond.methodLink RX5 330 yX2_letter, Cond.instanceMethod yX2_letter, Cond.selects RX2 yX2_letter yX2_letter, Cond.code yX2_letter cX2_letter 1 (some .int), Cond.methodLink RX5 82 yX1_withLetter, Cond.instanceMethod yX1_withLetter, Cond.selects RX1 yX1_withLetter yX1_withLetter, Cond.initialized RX1, Cond.code yX1_withLetter cX1_withLetter 3 (some .int), Cond.fieldLink RX1 27 "BoardNotation$Kinds" "size" "I", Cond.fieldLink RX1 9 "BoardNotation$Kinds" "letters" "[I"]
def wsX5_read_r4 : List Cond := [Cond.methodLink RX5 148 yX5_turn, Cond.instanceMethod yX5_turn, Cond.selects RX5 yX5_turn yX5_turn, Cond.code yX5_turn cX5_turn 1 (some .int), Cond.fieldLink RX5 28 "BoardNotation" "tree" "LBoardNotation$Tree;", Cond.fieldLink RX5 56 "BoardNotation" "present" "I", Cond.methodLink RX5 276 yX4_depth, Cond.instanceMethod yX4_depth, Cond.selects RX4 yX4_depth yX4_depth, Cond.initialized RX4, Cond.code yX4_depth cX4_depth 2 (some .int), Cond.fieldLink RX4 24 "BoardNotation$Tree" "depth" "[I", Cond.methodLink RX4 44 yX4_has, Cond.instanceMethod yX4_has, Cond.selects RX4 yX4_has yX4_has, Cond.code yX4_has cX4_has 2 (some .boolean), Cond.fieldLink RX4 36 "BoardNotation$Tree" "size" "I", Cond.methodLink RX5 333 yX2_to, Cond.instanceMethod yX2_to, Cond.selects RX2 yX2_to yX2_to, Cond.code yX2_to cX2_to 1 (some .int), Cond.methodLink RX5 145 yX0_pieceOn, Cond.instanceMethod yX0_pieceOn, Cond.selects RX0 yX0_pieceOn yX0_pieceOn]
def wsX5_read_r5 : List Cond := [Cond.initialized RX0, Cond.code yX0_pieceOn cX0_pieceOn 2 (some .int), Cond.fieldLink RX0 9 "BoardNotation$Board" "pieces" "[I", Cond.static yX5_isSquare, Cond.code yX5_isSquare cX5_isSquare 1 (some .boolean), Cond.methodLink RX5 335 yX2_allowsFrom, Cond.instanceMethod yX2_allowsFrom, Cond.selects RX2 yX2_allowsFrom yX2_allowsFrom, Cond.code yX2_allowsFrom cX2_allowsFrom 2 (some .boolean), Cond.methodLink RX5 282 yX0_reaches, Cond.instanceMethod yX0_reaches, Cond.selects RX0 yX0_reaches yX0_reaches, Cond.code yX0_reaches cX0_reaches 3 (some .boolean), Cond.methodLink RX0 36 yX0_reachedFrom, Cond.instanceMethod yX0_reachedFrom, Cond.selects RX0 yX0_reachedFrom yX0_reachedFrom, Cond.code yX0_reachedFrom cX0_reachedFrom 16 (some .long), Cond.fieldLink RX0 15 "BoardNotation$Board" "kinds" "LBoardNotation$Kinds;", Cond.methodLink RX5 285 yX0_keepsRoyalsSafe, Cond.instanceMethod yX0_keepsRoyalsSafe, Cond.selects RX0 yX0_keepsRoyalsSafe yX0_keepsRoyalsSafe, Cond.code yX0_keepsRoyalsSafe cX0_keepsRoyalsSafe 6 (some .boolean), Cond.methodLink RX0 29 yX0_pieceOn, Cond.methodLink RX0 61 yX0_move]
def wsX5_read_r6 : List Cond := [Cond.instanceMethod yX0_move, Cond.selects RX0 yX0_move yX0_move, Cond.code yX0_move cX0_move 4 (some .int), Cond.methodLink RX0 65 yX0_inCheck, Cond.instanceMethod yX0_inCheck, Cond.selects RX0 yX0_inCheck yX0_inCheck, Cond.code yX0_inCheck cX0_inCheck 6 (some .boolean), Cond.methodLink RX0 58 yX0_royalsOf, Cond.instanceMethod yX0_royalsOf, Cond.selects RX0 yX0_royalsOf yX0_royalsOf, Cond.code yX0_royalsOf cX0_royalsOf 5 (some .long), Cond.methodLink RX0 68 yX0_takeBack, Cond.instanceMethod yX0_takeBack, Cond.selects RX0 yX0_takeBack yX0_takeBack, Cond.code yX0_takeBack cX0_takeBack 4 none, Cond.methodLink RX5 338 yX2_captures, Cond.instanceMethod yX2_captures, Cond.selects RX2 yX2_captures yX2_captures, Cond.code yX2_captures cX2_captures 1 (some .boolean), Cond.methodLink RX5 341 yX0_isTaken, Cond.instanceMethod yX0_isTaken, Cond.selects RX0 yX0_isTaken yX0_isTaken, Cond.code yX0_isTaken cX0_isTaken 2 (some .boolean), Cond.methodLink RX5 344 yX2_sign]
def wsX5_read_r7 : List Cond := [Cond.instanceMethod yX2_sign, Cond.selects RX2 yX2_sign yX2_sign, Cond.code yX2_sign cX2_sign 1 (some .int), Cond.methodLink RX5 347 yX0_signBehind, Cond.instanceMethod yX0_signBehind, Cond.selects RX0 yX0_signBehind yX0_signBehind, Cond.code yX0_signBehind cX0_signBehind 6 (some .int), Cond.methodLink RX0 76 yX0_countLegalMoves, Cond.instanceMethod yX0_countLegalMoves, Cond.selects RX0 yX0_countLegalMoves yX0_countLegalMoves, Cond.code yX0_countLegalMoves cX0_countLegalMoves 8 (some .int), Cond.methodLink RX0 72 yX0_keepsRoyalsSafe, Cond.methodLink RX5 193 yX2_misfit, Cond.instanceMethod yX2_misfit, Cond.selects RX2 yX2_misfit yX2_misfit, Cond.code yX2_misfit cX2_misfit 1 (some .int)]
def wsX5_read : List Cond := .code yX5_read cX5_read 2 (some .int) :: ((wsX5_read_r1 ++ (wsX5_read_r2 ++ (wsX5_read_r3 ++ (wsX5_read_r4 ++ (wsX5_read_r5 ++ (wsX5_read_r6 ++ wsX5_read_r7)))))) ++ wsX50 ++ wsX30 ++ wsX20 ++ wsX10 ++ wsX40 ++ wsX00)
def wsX5_found : List Cond := .code yX5_found cX5_found 2 (some .int) :: ([.classLink RX5 110 "java/lang/IndexOutOfBoundsException", .initialized "java/lang/IndexOutOfBoundsException", .fieldLink RX5 73 "BoardNotation" "errorPlace" "I", .fieldLink RX5 76 "BoardNotation" "foundFrom" "I", .fieldLink RX5 79 "BoardNotation" "foundTo" "I"] ++ wsX50 ++ (vx_atS RX5 114 "java/lang/IndexOutOfBoundsException" ["java/lang/RuntimeException", "java/lang/Exception"]).filter goodWord)
def wsX5_writeOrigin_r1 : List Cond := [Cond.fieldLink RX5 21 "BoardNotation" "board" "LBoardNotation$Board;", Cond.methodLink RX5 145 yX0_pieceOn, Cond.instanceMethod yX0_pieceOn, Cond.selects RX0 yX0_pieceOn yX0_pieceOn, Cond.initialized RX0, Cond.code yX0_pieceOn cX0_pieceOn 2 (some .int), Cond.fieldLink RX0 9 "BoardNotation$Board" "pieces" "[I", Cond.static yX5_isSquare, Cond.initialized RX5, Cond.code yX5_isSquare cX5_isSquare 1 (some .boolean), Cond.methodLink RX5 282 yX0_reaches, Cond.instanceMethod yX0_reaches, Cond.selects RX0 yX0_reaches yX0_reaches, Cond.code yX0_reaches cX0_reaches 3 (some .boolean), Cond.methodLink RX0 36 yX0_reachedFrom, Cond.instanceMethod yX0_reachedFrom, Cond.selects RX0 yX0_reachedFrom yX0_reachedFrom, Cond.code yX0_reachedFrom cX0_reachedFrom 16 (some .long), Cond.fieldLink RX0 15 "BoardNotation$Board" "kinds" "LBoardNotation$Kinds;", Cond.methodLink RX5 285 yX0_keepsRoyalsSafe, Cond.instanceMethod yX0_keepsRoyalsSafe, Cond.selects RX0 yX0_keepsRoyalsSafe yX0_keepsRoyalsSafe, Cond.code yX0_keepsRoyalsSafe cX0_keepsRoyalsSafe 6 (some .boolean), Cond.methodLink RX0 29 yX0_pieceOn]
def wsX5_writeOrigin_r2 : List Cond := [Cond.methodLink RX0 61 yX0_move, Cond.instanceMethod yX0_move, Cond.selects RX0 yX0_move yX0_move, Cond.code yX0_move cX0_move 4 (some .int), Cond.methodLink RX0 65 yX0_inCheck, Cond.instanceMethod yX0_inCheck, Cond.selects RX0 yX0_inCheck yX0_inCheck, Cond.code yX0_inCheck cX0_inCheck 6 (some .boolean), Cond.methodLink RX0 58 yX0_royalsOf, Cond.instanceMethod yX0_royalsOf, Cond.selects RX0 yX0_royalsOf yX0_royalsOf, Cond.code yX0_royalsOf cX0_royalsOf 5 (some .long), Cond.methodLink RX0 68 yX0_takeBack, Cond.instanceMethod yX0_takeBack, Cond.selects RX0 yX0_takeBack yX0_takeBack, Cond.code yX0_takeBack cX0_takeBack 4 none, Cond.methodLink RX5 180 yX3_append, Cond.instanceMethod yX3_append, Cond.selects RX3 yX3_append yX3_append, Cond.initialized RX3, Cond.code yX3_append cX3_append 2 none, Cond.fieldLink RX3 15 "BoardNotation$Text" "size" "I", Cond.fieldLink RX3 9 "BoardNotation$Text" "bytes" "[I", Cond.fieldLink RX3 19 "BoardNotation$Text" "spilled" "Z"]
def wsX5_writeOrigin : List Cond := .code yX5_writeOrigin cX5_writeOrigin 9 none :: ((wsX5_writeOrigin_r1 ++ wsX5_writeOrigin_r2) ++ wsX50 ++ wsX00 ++ wsX10 ++ wsX30)
def wsX5_writeMove_r1 : List Cond := [Cond.fieldLink RX5 21 "BoardNotation" "board" "LBoardNotation$Board;", Cond.fieldLink RX5 12 "BoardNotation" "kinds" "LBoardNotation$Kinds;", Cond.methodLink RX5 145 yX0_pieceOn, Cond.instanceMethod yX0_pieceOn, Cond.selects RX0 yX0_pieceOn yX0_pieceOn, Cond.initialized RX0, Cond.code yX0_pieceOn cX0_pieceOn 2 (some .int), Cond.fieldLink RX0 9 "BoardNotation$Board" "pieces" "[I", Cond.static yX5_isSquare, Cond.initialized RX5, Cond.code yX5_isSquare cX5_isSquare 1 (some .boolean), Cond.methodLink RX5 350 yX1_letter, Cond.instanceMethod yX1_letter, Cond.selects RX1 yX1_letter yX1_letter, Cond.initialized RX1, Cond.code yX1_letter cX1_letter 2 (some .int), Cond.fieldLink RX1 9 "BoardNotation$Kinds" "letters" "[I", Cond.methodLink RX1 31 yX1_has, Cond.instanceMethod yX1_has, Cond.selects RX1 yX1_has yX1_has, Cond.code yX1_has cX1_has 2 (some .boolean), Cond.fieldLink RX1 27 "BoardNotation$Kinds" "size" "I", Cond.methodLink RX5 180 yX3_append, Cond.instanceMethod yX3_append]
def wsX5_writeMove_r2 : List Cond := [Cond.selects RX3 yX3_append yX3_append, Cond.initialized RX3, Cond.code yX3_append cX3_append 2 none, Cond.fieldLink RX3 15 "BoardNotation$Text" "size" "I", Cond.fieldLink RX3 9 "BoardNotation$Text" "bytes" "[I", Cond.fieldLink RX3 19 "BoardNotation$Text" "spilled" "Z", Cond.methodLink RX5 352 yX5_writeOrigin, Cond.instanceMethod yX5_writeOrigin, Cond.selects RX5 yX5_writeOrigin yX5_writeOrigin, Cond.code yX5_writeOrigin cX5_writeOrigin 9 none, Cond.methodLink RX5 282 yX0_reaches, Cond.instanceMethod yX0_reaches, Cond.selects RX0 yX0_reaches yX0_reaches, Cond.code yX0_reaches cX0_reaches 3 (some .boolean), Cond.methodLink RX0 36 yX0_reachedFrom, Cond.instanceMethod yX0_reachedFrom, Cond.selects RX0 yX0_reachedFrom yX0_reachedFrom, Cond.code yX0_reachedFrom cX0_reachedFrom 16 (some .long), Cond.fieldLink RX0 15 "BoardNotation$Board" "kinds" "LBoardNotation$Kinds;", Cond.methodLink RX5 285 yX0_keepsRoyalsSafe, Cond.instanceMethod yX0_keepsRoyalsSafe, Cond.selects RX0 yX0_keepsRoyalsSafe yX0_keepsRoyalsSafe, Cond.code yX0_keepsRoyalsSafe cX0_keepsRoyalsSafe 6 (some .boolean), Cond.methodLink RX0 29 yX0_pieceOn]
def wsX5_writeMove_r3 : List Cond := [Cond.methodLink RX0 61 yX0_move, Cond.instanceMethod yX0_move, Cond.selects RX0 yX0_move yX0_move, Cond.code yX0_move cX0_move 4 (some .int), Cond.methodLink RX0 65 yX0_inCheck, Cond.instanceMethod yX0_inCheck, Cond.selects RX0 yX0_inCheck yX0_inCheck, Cond.code yX0_inCheck cX0_inCheck 6 (some .boolean), Cond.methodLink RX0 58 yX0_royalsOf, Cond.instanceMethod yX0_royalsOf, Cond.selects RX0 yX0_royalsOf yX0_royalsOf, Cond.code yX0_royalsOf cX0_royalsOf 5 (some .long), Cond.methodLink RX0 68 yX0_takeBack, Cond.instanceMethod yX0_takeBack, Cond.selects RX0 yX0_takeBack yX0_takeBack, Cond.code yX0_takeBack cX0_takeBack 4 none, Cond.methodLink RX5 341 yX0_isTaken, Cond.instanceMethod yX0_isTaken, Cond.selects RX0 yX0_isTaken yX0_isTaken, Cond.code yX0_isTaken cX0_isTaken 2 (some .boolean), Cond.methodLink RX5 347 yX0_signBehind, Cond.instanceMethod yX0_signBehind, Cond.selects RX0 yX0_signBehind yX0_signBehind, Cond.code yX0_signBehind cX0_signBehind 6 (some .int)]
def wsX5_writeMove_r4 : List Cond := [Cond.methodLink RX0 76 yX0_countLegalMoves, Cond.instanceMethod yX0_countLegalMoves, Cond.selects RX0 yX0_countLegalMoves yX0_countLegalMoves, Cond.code yX0_countLegalMoves cX0_countLegalMoves 8 (some .int), Cond.methodLink RX0 72 yX0_keepsRoyalsSafe]
def wsX5_writeMove : List Cond := .code yX5_writeMove cX5_writeMove 6 none :: ((wsX5_writeMove_r1 ++ (wsX5_writeMove_r2 ++ (wsX5_writeMove_r3 ++ wsX5_writeMove_r4))) ++ wsX50 ++ wsX00 ++ wsX10 ++ wsX30)
def wsX5_write_r1 : List Cond := [Cond.classLink RX5 110 "java/lang/IndexOutOfBoundsException", Cond.initialized "java/lang/IndexOutOfBoundsException", Cond.classLink RX5 98 "java/lang/IllegalStateException", Cond.initialized "java/lang/IllegalStateException", Cond.fieldLink RX5 49 "BoardNotation" "tape" "LBoardNotation$Text;", Cond.methodLink RX5 130 yX5_isSquare, Cond.static yX5_isSquare, Cond.initialized RX5, Cond.code yX5_isSquare cX5_isSquare 1 (some .boolean), Cond.methodLink RX5 160 yX5_reasonAgainst, Cond.instanceMethod yX5_reasonAgainst, Cond.selects RX5 yX5_reasonAgainst yX5_reasonAgainst, Cond.code yX5_reasonAgainst cX5_reasonAgainst 3 (some .int), Cond.fieldLink RX5 21 "BoardNotation" "board" "LBoardNotation$Board;", Cond.methodLink RX5 148 yX5_turn, Cond.instanceMethod yX5_turn, Cond.selects RX5 yX5_turn yX5_turn, Cond.code yX5_turn cX5_turn 1 (some .int), Cond.fieldLink RX5 28 "BoardNotation" "tree" "LBoardNotation$Tree;", Cond.fieldLink RX5 56 "BoardNotation" "present" "I", Cond.methodLink RX5 276 yX4_depth, Cond.instanceMethod yX4_depth, Cond.selects RX4 yX4_depth yX4_depth, Cond.initialized RX4]
def wsX5_write_r2 : List Cond := [Cond.code yX4_depth cX4_depth 2 (some .int), Cond.fieldLink RX4 24 "BoardNotation$Tree" "depth" "[I", Cond.methodLink RX4 44 yX4_has, Cond.instanceMethod yX4_has, Cond.selects RX4 yX4_has yX4_has, Cond.code yX4_has cX4_has 2 (some .boolean), Cond.fieldLink RX4 36 "BoardNotation$Tree" "size" "I", Cond.methodLink RX5 279 yX0_isOf, Cond.instanceMethod yX0_isOf, Cond.selects RX0 yX0_isOf yX0_isOf, Cond.initialized RX0, Cond.code yX0_isOf cX0_isOf 3 (some .boolean), Cond.methodLink RX0 33 yX0_isTaken, Cond.instanceMethod yX0_isTaken, Cond.selects RX0 yX0_isTaken yX0_isTaken, Cond.code yX0_isTaken cX0_isTaken 2 (some .boolean), Cond.methodLink RX0 29 yX0_pieceOn, Cond.instanceMethod yX0_pieceOn, Cond.selects RX0 yX0_pieceOn yX0_pieceOn, Cond.code yX0_pieceOn cX0_pieceOn 2 (some .int), Cond.fieldLink RX0 9 "BoardNotation$Board" "pieces" "[I", Cond.methodLink RX5 282 yX0_reaches, Cond.instanceMethod yX0_reaches, Cond.selects RX0 yX0_reaches yX0_reaches]
def wsX5_write_r3 : List Cond := [Cond.code yX0_reaches cX0_reaches 3 (some .boolean), Cond.methodLink RX0 36 yX0_reachedFrom, Cond.instanceMethod yX0_reachedFrom, Cond.selects RX0 yX0_reachedFrom yX0_reachedFrom, Cond.code yX0_reachedFrom cX0_reachedFrom 16 (some .long), Cond.fieldLink RX0 15 "BoardNotation$Board" "kinds" "LBoardNotation$Kinds;", Cond.methodLink RX5 285 yX0_keepsRoyalsSafe, Cond.instanceMethod yX0_keepsRoyalsSafe, Cond.selects RX0 yX0_keepsRoyalsSafe yX0_keepsRoyalsSafe, Cond.code yX0_keepsRoyalsSafe cX0_keepsRoyalsSafe 6 (some .boolean), Cond.methodLink RX0 61 yX0_move, Cond.instanceMethod yX0_move, Cond.selects RX0 yX0_move yX0_move, Cond.code yX0_move cX0_move 4 (some .int), Cond.methodLink RX0 65 yX0_inCheck, Cond.instanceMethod yX0_inCheck, Cond.selects RX0 yX0_inCheck yX0_inCheck, Cond.code yX0_inCheck cX0_inCheck 6 (some .boolean), Cond.methodLink RX0 58 yX0_royalsOf, Cond.instanceMethod yX0_royalsOf, Cond.selects RX0 yX0_royalsOf yX0_royalsOf, Cond.code yX0_royalsOf cX0_royalsOf 5 (some .long), Cond.methodLink RX0 68 yX0_takeBack, Cond.instanceMethod yX0_takeBack]
def wsX5_write_r4 : List Cond := [Cond.selects RX0 yX0_takeBack yX0_takeBack, Cond.code yX0_takeBack cX0_takeBack 4 none, Cond.methodLink RX5 187 yX3_wipe, Cond.instanceMethod yX3_wipe, Cond.selects RX3 yX3_wipe yX3_wipe, Cond.initialized RX3, Cond.code yX3_wipe cX3_wipe 1 none, Cond.fieldLink RX3 15 "BoardNotation$Text" "size" "I", Cond.fieldLink RX3 19 "BoardNotation$Text" "spilled" "Z", Cond.methodLink RX5 198 yX5_writeMove, Cond.instanceMethod yX5_writeMove, Cond.selects RX5 yX5_writeMove yX5_writeMove, Cond.code yX5_writeMove cX5_writeMove 6 none, Cond.fieldLink RX5 12 "BoardNotation" "kinds" "LBoardNotation$Kinds;", Cond.methodLink RX5 145 yX0_pieceOn, Cond.methodLink RX5 350 yX1_letter, Cond.instanceMethod yX1_letter, Cond.selects RX1 yX1_letter yX1_letter, Cond.initialized RX1, Cond.code yX1_letter cX1_letter 2 (some .int), Cond.fieldLink RX1 9 "BoardNotation$Kinds" "letters" "[I", Cond.methodLink RX1 31 yX1_has, Cond.instanceMethod yX1_has, Cond.selects RX1 yX1_has yX1_has]
def wsX5_write_r5 : List Cond := [Cond.code yX1_has cX1_has 2 (some .boolean), Cond.fieldLink RX1 27 "BoardNotation$Kinds" "size" "I", Cond.methodLink RX5 180 yX3_append, Cond.instanceMethod yX3_append, Cond.selects RX3 yX3_append yX3_append, Cond.code yX3_append cX3_append 2 none, Cond.fieldLink RX3 9 "BoardNotation$Text" "bytes" "[I", Cond.methodLink RX5 352 yX5_writeOrigin, Cond.instanceMethod yX5_writeOrigin, Cond.selects RX5 yX5_writeOrigin yX5_writeOrigin, Cond.code yX5_writeOrigin cX5_writeOrigin 9 none, Cond.methodLink RX5 341 yX0_isTaken, Cond.methodLink RX5 347 yX0_signBehind, Cond.instanceMethod yX0_signBehind, Cond.selects RX0 yX0_signBehind yX0_signBehind, Cond.code yX0_signBehind cX0_signBehind 6 (some .int), Cond.methodLink RX0 76 yX0_countLegalMoves, Cond.instanceMethod yX0_countLegalMoves, Cond.selects RX0 yX0_countLegalMoves yX0_countLegalMoves, Cond.code yX0_countLegalMoves cX0_countLegalMoves 8 (some .int), Cond.methodLink RX0 72 yX0_keepsRoyalsSafe, Cond.methodLink RX5 157 yX3_size, Cond.instanceMethod yX3_size, Cond.selects RX3 yX3_size yX3_size]
def wsX5_write_r6 : List Cond := [Cond.code yX3_size cX3_size 1 (some .int)]
def wsX5_write : List Cond := .code yX5_write cX5_write 3 (some .int) :: ((wsX5_write_r1 ++ (wsX5_write_r2 ++ (wsX5_write_r3 ++ (wsX5_write_r4 ++ (wsX5_write_r5 ++ wsX5_write_r6))))) ++ wsX50 ++ wsX40 ++ wsX00 ++ wsX10 ++ wsX30 ++ (vx_atS RX5 114 "java/lang/IndexOutOfBoundsException" ["java/lang/RuntimeException", "java/lang/Exception"]).filter goodWord ++ (vx_atS RX5 102 "java/lang/IllegalStateException" ["java/lang/RuntimeException", "java/lang/Exception"]).filter goodWord)
def wsX5_byteAt : List Cond := .code yX5_byteAt cX5_byteAt 2 (some .int) :: ([.classLink RX5 110 "java/lang/IndexOutOfBoundsException", .initialized "java/lang/IndexOutOfBoundsException", .fieldLink RX5 49 "BoardNotation" "tape" "LBoardNotation$Text;", .methodLink RX5 157 yX3_size, .instanceMethod yX3_size, .selects RX3 yX3_size yX3_size, .initialized RX3, .code yX3_size cX3_size 1 (some .int), .fieldLink RX3 15 "BoardNotation$Text" "size" "I", .methodLink RX5 204 yX3_get, .instanceMethod yX3_get, .selects RX3 yX3_get yX3_get, .code yX3_get cX3_get 2 (some .int), .fieldLink RX3 9 "BoardNotation$Text" "bytes" "[I"] ++ wsX50 ++ wsX30 ++ (vx_atS RX5 114 "java/lang/IndexOutOfBoundsException" ["java/lang/RuntimeException", "java/lang/Exception"]).filter goodWord)
def wsX5_node_r1 : List Cond := [Cond.classLink RX5 110 "java/lang/IndexOutOfBoundsException", Cond.initialized "java/lang/IndexOutOfBoundsException", Cond.fieldLink RX5 28 "BoardNotation" "tree" "LBoardNotation$Tree;", Cond.methodLink RX5 207 yX4_has, Cond.instanceMethod yX4_has, Cond.selects RX4 yX4_has yX4_has, Cond.initialized RX4, Cond.code yX4_has cX4_has 2 (some .boolean), Cond.fieldLink RX4 36 "BoardNotation$Tree" "size" "I", Cond.methodLink RX5 210 yX4_fact, Cond.instanceMethod yX4_fact, Cond.selects RX4 yX4_fact yX4_fact, Cond.code yX4_fact cX4_fact 3 (some .int), Cond.methodLink RX4 48 yX4_above, Cond.instanceMethod yX4_above, Cond.selects RX4 yX4_above yX4_above, Cond.code yX4_above cX4_above 2 (some .int), Cond.fieldLink RX4 9 "BoardNotation$Tree" "above" "[I", Cond.methodLink RX4 44 yX4_has, Cond.methodLink RX4 51 yX4_from, Cond.instanceMethod yX4_from, Cond.selects RX4 yX4_from yX4_from, Cond.code yX4_from cX4_from 2 (some .int), Cond.fieldLink RX4 15 "BoardNotation$Tree" "from" "[I"]
def wsX5_node_r2 : List Cond := [Cond.methodLink RX4 53 yX4_to, Cond.instanceMethod yX4_to, Cond.selects RX4 yX4_to yX4_to, Cond.code yX4_to cX4_to 2 (some .int), Cond.fieldLink RX4 18 "BoardNotation$Tree" "to" "[I", Cond.methodLink RX4 55 yX4_depth, Cond.instanceMethod yX4_depth, Cond.selects RX4 yX4_depth yX4_depth, Cond.code yX4_depth cX4_depth 2 (some .int), Cond.fieldLink RX4 24 "BoardNotation$Tree" "depth" "[I", Cond.methodLink RX4 57 yX4_childCount, Cond.instanceMethod yX4_childCount, Cond.selects RX4 yX4_childCount yX4_childCount, Cond.code yX4_childCount cX4_childCount 2 (some .int), Cond.fieldLink RX4 27 "BoardNotation$Tree" "childCount" "[I"]
def wsX5_node : List Cond := .code yX5_node cX5_node 3 (some .int) :: ((wsX5_node_r1 ++ wsX5_node_r2) ++ wsX50 ++ wsX40 ++ (vx_atS RX5 114 "java/lang/IndexOutOfBoundsException" ["java/lang/RuntimeException", "java/lang/Exception"]).filter goodWord)
def wsX5_continuation : List Cond := .code yX5_continuation cX5_continuation 3 (some .int) :: ([.classLink RX5 110 "java/lang/IndexOutOfBoundsException", .initialized "java/lang/IndexOutOfBoundsException", .fieldLink RX5 28 "BoardNotation" "tree" "LBoardNotation$Tree;", .methodLink RX5 207 yX4_has, .instanceMethod yX4_has, .selects RX4 yX4_has yX4_has, .initialized RX4, .code yX4_has cX4_has 2 (some .boolean), .fieldLink RX4 36 "BoardNotation$Tree" "size" "I", .methodLink RX5 213 yX4_childCount, .instanceMethod yX4_childCount, .selects RX4 yX4_childCount yX4_childCount, .code yX4_childCount cX4_childCount 2 (some .int), .fieldLink RX4 27 "BoardNotation$Tree" "childCount" "[I", .methodLink RX4 44 yX4_has, .methodLink RX5 218 yX4_child, .instanceMethod yX4_child, .selects RX4 yX4_child yX4_child, .code yX4_child cX4_child 5 (some .int), .fieldLink RX4 30 "BoardNotation$Tree" "firstChild" "[I", .fieldLink RX4 33 "BoardNotation$Tree" "nextBeside" "[I"] ++ wsX50 ++ wsX40 ++ (vx_atS RX5 114 "java/lang/IndexOutOfBoundsException" ["java/lang/RuntimeException", "java/lang/Exception"]).filter goodWord)
def wsX5_stepUp_r1 : List Cond := [Cond.fieldLink RX5 56 "BoardNotation" "present" "I", Cond.fieldLink RX5 21 "BoardNotation" "board" "LBoardNotation$Board;", Cond.fieldLink RX5 28 "BoardNotation" "tree" "LBoardNotation$Tree;", Cond.methodLink RX5 237 yX4_from, Cond.instanceMethod yX4_from, Cond.selects RX4 yX4_from yX4_from, Cond.initialized RX4, Cond.code yX4_from cX4_from 2 (some .int), Cond.fieldLink RX4 15 "BoardNotation$Tree" "from" "[I", Cond.methodLink RX4 44 yX4_has, Cond.instanceMethod yX4_has, Cond.selects RX4 yX4_has yX4_has, Cond.code yX4_has cX4_has 2 (some .boolean), Cond.fieldLink RX4 36 "BoardNotation$Tree" "size" "I", Cond.methodLink RX5 240 yX4_to, Cond.instanceMethod yX4_to, Cond.selects RX4 yX4_to yX4_to, Cond.code yX4_to cX4_to 2 (some .int), Cond.fieldLink RX4 18 "BoardNotation$Tree" "to" "[I", Cond.methodLink RX5 295 yX4_taken, Cond.instanceMethod yX4_taken, Cond.selects RX4 yX4_taken yX4_taken, Cond.code yX4_taken cX4_taken 2 (some .int), Cond.fieldLink RX4 21 "BoardNotation$Tree" "taken" "[I"]
def wsX5_stepUp_r2 : List Cond := [Cond.methodLink RX5 298 yX0_takeBack, Cond.instanceMethod yX0_takeBack, Cond.selects RX0 yX0_takeBack yX0_takeBack, Cond.initialized RX0, Cond.code yX0_takeBack cX0_takeBack 4 none, Cond.fieldLink RX0 9 "BoardNotation$Board" "pieces" "[I", Cond.static yX5_isSquare, Cond.initialized RX5, Cond.code yX5_isSquare cX5_isSquare 1 (some .boolean), Cond.methodLink RX5 302 yX4_above, Cond.instanceMethod yX4_above, Cond.selects RX4 yX4_above yX4_above, Cond.code yX4_above cX4_above 2 (some .int), Cond.fieldLink RX4 9 "BoardNotation$Tree" "above" "[I"]
def wsX5_stepUp : List Cond := .code yX5_stepUp cX5_stepUp 1 none :: ((wsX5_stepUp_r1 ++ wsX5_stepUp_r2) ++ wsX50 ++ wsX40 ++ wsX00)
def wsX5_visit_r1 : List Cond := [Cond.fieldLink RX5 28 "BoardNotation" "tree" "LBoardNotation$Tree;", Cond.fieldLink RX5 56 "BoardNotation" "present" "I", Cond.fieldLink RX5 39 "BoardNotation" "path" "[I", Cond.methodLink RX5 308 Lib.Math.min.name, Cond.static Lib.Math.min.name, Cond.initialized "java/lang/Math", Cond.code Lib.Math.min.name Lib.Math.min.code 2 (some .int), Cond.methodLink RX5 276 yX4_depth, Cond.instanceMethod yX4_depth, Cond.selects RX4 yX4_depth yX4_depth, Cond.initialized RX4, Cond.code yX4_depth cX4_depth 2 (some .int), Cond.fieldLink RX4 24 "BoardNotation$Tree" "depth" "[I", Cond.methodLink RX4 44 yX4_has, Cond.instanceMethod yX4_has, Cond.selects RX4 yX4_has yX4_has, Cond.code yX4_has cX4_has 2 (some .boolean), Cond.fieldLink RX4 36 "BoardNotation$Tree" "size" "I", Cond.methodLink RX5 305 yX5_stepUp, Cond.instanceMethod yX5_stepUp, Cond.selects RX5 yX5_stepUp yX5_stepUp, Cond.initialized RX5, Cond.code yX5_stepUp cX5_stepUp 1 none, Cond.fieldLink RX5 21 "BoardNotation" "board" "LBoardNotation$Board;"]
def wsX5_visit_r2 : List Cond := [Cond.methodLink RX5 237 yX4_from, Cond.instanceMethod yX4_from, Cond.selects RX4 yX4_from yX4_from, Cond.code yX4_from cX4_from 2 (some .int), Cond.fieldLink RX4 15 "BoardNotation$Tree" "from" "[I", Cond.methodLink RX5 240 yX4_to, Cond.instanceMethod yX4_to, Cond.selects RX4 yX4_to yX4_to, Cond.code yX4_to cX4_to 2 (some .int), Cond.fieldLink RX4 18 "BoardNotation$Tree" "to" "[I", Cond.methodLink RX5 295 yX4_taken, Cond.instanceMethod yX4_taken, Cond.selects RX4 yX4_taken yX4_taken, Cond.code yX4_taken cX4_taken 2 (some .int), Cond.fieldLink RX4 21 "BoardNotation$Tree" "taken" "[I", Cond.methodLink RX5 298 yX0_takeBack, Cond.instanceMethod yX0_takeBack, Cond.selects RX0 yX0_takeBack yX0_takeBack, Cond.initialized RX0, Cond.code yX0_takeBack cX0_takeBack 4 none, Cond.fieldLink RX0 9 "BoardNotation$Board" "pieces" "[I", Cond.static yX5_isSquare, Cond.code yX5_isSquare cX5_isSquare 1 (some .boolean), Cond.methodLink RX5 302 yX4_above]
def wsX5_visit_r3 : List Cond := [Cond.instanceMethod yX4_above, Cond.selects RX4 yX4_above yX4_above, Cond.code yX4_above cX4_above 2 (some .int), Cond.fieldLink RX4 9 "BoardNotation$Tree" "above" "[I", Cond.methodLink RX5 313 yX5_stepDown, Cond.instanceMethod yX5_stepDown, Cond.selects RX5 yX5_stepDown yX5_stepDown, Cond.code yX5_stepDown cX5_stepDown 2 none, Cond.methodLink RX5 288 yX0_move, Cond.instanceMethod yX0_move, Cond.selects RX0 yX0_move yX0_move, Cond.code yX0_move cX0_move 4 (some .int), Cond.methodLink RX5 291 yX4_keepTaken, Cond.instanceMethod yX4_keepTaken, Cond.selects RX4 yX4_keepTaken yX4_keepTaken, Cond.code yX4_keepTaken cX4_keepTaken 3 none]
def wsX5_visit : List Cond := .code yX5_visit cX5_visit 5 none :: ((wsX5_visit_r1 ++ (wsX5_visit_r2 ++ wsX5_visit_r3)) ++ wsX50 ++ wsX40 ++ wsX00)
def wsX5_goTo_r1 : List Cond := [Cond.classLink RX5 110 "java/lang/IndexOutOfBoundsException", Cond.initialized "java/lang/IndexOutOfBoundsException", Cond.fieldLink RX5 28 "BoardNotation" "tree" "LBoardNotation$Tree;", Cond.methodLink RX5 207 yX4_has, Cond.instanceMethod yX4_has, Cond.selects RX4 yX4_has yX4_has, Cond.initialized RX4, Cond.code yX4_has cX4_has 2 (some .boolean), Cond.fieldLink RX4 36 "BoardNotation$Tree" "size" "I", Cond.methodLink RX5 223 yX5_visit, Cond.instanceMethod yX5_visit, Cond.selects RX5 yX5_visit yX5_visit, Cond.initialized RX5, Cond.code yX5_visit cX5_visit 5 none, Cond.fieldLink RX5 56 "BoardNotation" "present" "I", Cond.fieldLink RX5 39 "BoardNotation" "path" "[I", Cond.methodLink RX5 308 Lib.Math.min.name, Cond.static Lib.Math.min.name, Cond.initialized "java/lang/Math", Cond.code Lib.Math.min.name Lib.Math.min.code 2 (some .int), Cond.methodLink RX5 276 yX4_depth, Cond.instanceMethod yX4_depth, Cond.selects RX4 yX4_depth yX4_depth, Cond.code yX4_depth cX4_depth 2 (some .int)]
def wsX5_goTo_r2 : List Cond := [Cond.fieldLink RX4 24 "BoardNotation$Tree" "depth" "[I", Cond.methodLink RX4 44 yX4_has, Cond.methodLink RX5 305 yX5_stepUp, Cond.instanceMethod yX5_stepUp, Cond.selects RX5 yX5_stepUp yX5_stepUp, Cond.code yX5_stepUp cX5_stepUp 1 none, Cond.fieldLink RX5 21 "BoardNotation" "board" "LBoardNotation$Board;", Cond.methodLink RX5 237 yX4_from, Cond.instanceMethod yX4_from, Cond.selects RX4 yX4_from yX4_from, Cond.code yX4_from cX4_from 2 (some .int), Cond.fieldLink RX4 15 "BoardNotation$Tree" "from" "[I", Cond.methodLink RX5 240 yX4_to, Cond.instanceMethod yX4_to, Cond.selects RX4 yX4_to yX4_to, Cond.code yX4_to cX4_to 2 (some .int), Cond.fieldLink RX4 18 "BoardNotation$Tree" "to" "[I", Cond.methodLink RX5 295 yX4_taken, Cond.instanceMethod yX4_taken, Cond.selects RX4 yX4_taken yX4_taken, Cond.code yX4_taken cX4_taken 2 (some .int), Cond.fieldLink RX4 21 "BoardNotation$Tree" "taken" "[I", Cond.methodLink RX5 298 yX0_takeBack, Cond.instanceMethod yX0_takeBack]
def wsX5_goTo_r3 : List Cond := [Cond.selects RX0 yX0_takeBack yX0_takeBack, Cond.initialized RX0, Cond.code yX0_takeBack cX0_takeBack 4 none, Cond.fieldLink RX0 9 "BoardNotation$Board" "pieces" "[I", Cond.static yX5_isSquare, Cond.code yX5_isSquare cX5_isSquare 1 (some .boolean), Cond.methodLink RX5 302 yX4_above, Cond.instanceMethod yX4_above, Cond.selects RX4 yX4_above yX4_above, Cond.code yX4_above cX4_above 2 (some .int), Cond.fieldLink RX4 9 "BoardNotation$Tree" "above" "[I", Cond.methodLink RX5 313 yX5_stepDown, Cond.instanceMethod yX5_stepDown, Cond.selects RX5 yX5_stepDown yX5_stepDown, Cond.code yX5_stepDown cX5_stepDown 2 none, Cond.methodLink RX5 288 yX0_move, Cond.instanceMethod yX0_move, Cond.selects RX0 yX0_move yX0_move, Cond.code yX0_move cX0_move 4 (some .int), Cond.methodLink RX5 291 yX4_keepTaken, Cond.instanceMethod yX4_keepTaken, Cond.selects RX4 yX4_keepTaken yX4_keepTaken, Cond.code yX4_keepTaken cX4_keepTaken 3 none, Cond.methodLink RX5 148 yX5_turn]
def wsX5_goTo_r4 : List Cond := [Cond.instanceMethod yX5_turn, Cond.selects RX5 yX5_turn yX5_turn, Cond.code yX5_turn cX5_turn 1 (some .int)]
def wsX5_goTo : List Cond := .code yX5_goTo cX5_goTo 2 (some .int) :: ((wsX5_goTo_r1 ++ (wsX5_goTo_r2 ++ (wsX5_goTo_r3 ++ wsX5_goTo_r4))) ++ wsX50 ++ wsX40 ++ wsX00 ++ (vx_atS RX5 114 "java/lang/IndexOutOfBoundsException" ["java/lang/RuntimeException", "java/lang/Exception"]).filter goodWord)
def wsX5_promote_r1 : List Cond := [Cond.classLink RX5 110 "java/lang/IndexOutOfBoundsException", Cond.initialized "java/lang/IndexOutOfBoundsException", Cond.fieldLink RX5 28 "BoardNotation" "tree" "LBoardNotation$Tree;", Cond.methodLink RX5 207 yX4_has, Cond.instanceMethod yX4_has, Cond.selects RX4 yX4_has yX4_has, Cond.initialized RX4, Cond.code yX4_has cX4_has 2 (some .boolean), Cond.fieldLink RX4 36 "BoardNotation$Tree" "size" "I", Cond.methodLink RX5 228 yX4_makeMain, Cond.instanceMethod yX4_makeMain, Cond.selects RX4 yX4_makeMain yX4_makeMain, Cond.code yX4_makeMain cX4_makeMain 5 (some .int), Cond.fieldLink RX4 33 "BoardNotation$Tree" "nextBeside" "[I", Cond.fieldLink RX4 30 "BoardNotation$Tree" "firstChild" "[I", Cond.methodLink RX4 63 yX4_placeOf, Cond.instanceMethod yX4_placeOf, Cond.selects RX4 yX4_placeOf yX4_placeOf, Cond.code yX4_placeOf cX4_placeOf 4 (some .int), Cond.methodLink RX4 48 yX4_above, Cond.instanceMethod yX4_above, Cond.selects RX4 yX4_above yX4_above, Cond.code yX4_above cX4_above 2 (some .int), Cond.fieldLink RX4 9 "BoardNotation$Tree" "above" "[I"]
def wsX5_promote_r2 : List Cond := [Cond.methodLink RX4 44 yX4_has, Cond.methodLink RX4 59 yX4_child, Cond.instanceMethod yX4_child, Cond.selects RX4 yX4_child yX4_child, Cond.code yX4_child cX4_child 5 (some .int), Cond.fieldLink RX4 27 "BoardNotation$Tree" "childCount" "[I", Cond.methodLink RX4 57 yX4_childCount, Cond.instanceMethod yX4_childCount, Cond.selects RX4 yX4_childCount yX4_childCount, Cond.code yX4_childCount cX4_childCount 2 (some .int)]
def wsX5_promote : List Cond := .code yX5_promote cX5_promote 2 (some .int) :: ((wsX5_promote_r1 ++ wsX5_promote_r2) ++ wsX50 ++ wsX40 ++ (vx_atS RX5 114 "java/lang/IndexOutOfBoundsException" ["java/lang/RuntimeException", "java/lang/Exception"]).filter goodWord)
def wsX5_writeOpening : List Cond := .code yX5_writeOpening cX5_writeOpening 2 none :: ([.fieldLink RX5 53 "BoardNotation" "draft" "LBoardNotation$Text;", .methodLink RX5 234 yX3_separate, .instanceMethod yX3_separate, .selects RX3 yX3_separate yX3_separate, .initialized RX3, .code yX3_separate cX3_separate 1 none, .fieldLink RX3 15 "BoardNotation$Text" "size" "I", .methodLink RX3 23 yX3_get, .instanceMethod yX3_get, .selects RX3 yX3_get yX3_get, .code yX3_get cX3_get 2 (some .int), .fieldLink RX3 9 "BoardNotation$Text" "bytes" "[I", .methodLink RX3 27 yX3_append, .instanceMethod yX3_append, .selects RX3 yX3_append yX3_append, .code yX3_append cX3_append 2 none, .fieldLink RX3 19 "BoardNotation$Text" "spilled" "Z", .methodLink RX5 180 yX3_append] ++ wsX50 ++ wsX30)
def wsX5_leaveLine_r1 : List Cond := [Cond.fieldLink RX5 28 "BoardNotation" "tree" "LBoardNotation$Tree;", Cond.fieldLink RX5 56 "BoardNotation" "present" "I", Cond.fieldLink RX5 53 "BoardNotation" "draft" "LBoardNotation$Text;", Cond.methodLink RX5 276 yX4_depth, Cond.instanceMethod yX4_depth, Cond.selects RX4 yX4_depth yX4_depth, Cond.initialized RX4, Cond.code yX4_depth cX4_depth 2 (some .int), Cond.fieldLink RX4 24 "BoardNotation$Tree" "depth" "[I", Cond.methodLink RX4 44 yX4_has, Cond.instanceMethod yX4_has, Cond.selects RX4 yX4_has yX4_has, Cond.code yX4_has cX4_has 2 (some .boolean), Cond.fieldLink RX4 36 "BoardNotation$Tree" "size" "I", Cond.methodLink RX5 359 yX4_placeOf, Cond.instanceMethod yX4_placeOf, Cond.selects RX4 yX4_placeOf yX4_placeOf, Cond.code yX4_placeOf cX4_placeOf 4 (some .int), Cond.fieldLink RX4 33 "BoardNotation$Tree" "nextBeside" "[I", Cond.methodLink RX4 48 yX4_above, Cond.instanceMethod yX4_above, Cond.selects RX4 yX4_above yX4_above, Cond.code yX4_above cX4_above 2 (some .int), Cond.fieldLink RX4 9 "BoardNotation$Tree" "above" "[I"]
def wsX5_leaveLine_r2 : List Cond := [Cond.methodLink RX4 59 yX4_child, Cond.instanceMethod yX4_child, Cond.selects RX4 yX4_child yX4_child, Cond.code yX4_child cX4_child 5 (some .int), Cond.fieldLink RX4 27 "BoardNotation$Tree" "childCount" "[I", Cond.fieldLink RX4 30 "BoardNotation$Tree" "firstChild" "[I", Cond.methodLink RX4 57 yX4_childCount, Cond.instanceMethod yX4_childCount, Cond.selects RX4 yX4_childCount yX4_childCount, Cond.code yX4_childCount cX4_childCount 2 (some .int), Cond.methodLink RX5 305 yX5_stepUp, Cond.instanceMethod yX5_stepUp, Cond.selects RX5 yX5_stepUp yX5_stepUp, Cond.initialized RX5, Cond.code yX5_stepUp cX5_stepUp 1 none, Cond.fieldLink RX5 21 "BoardNotation" "board" "LBoardNotation$Board;", Cond.methodLink RX5 237 yX4_from, Cond.instanceMethod yX4_from, Cond.selects RX4 yX4_from yX4_from, Cond.code yX4_from cX4_from 2 (some .int), Cond.fieldLink RX4 15 "BoardNotation$Tree" "from" "[I", Cond.methodLink RX5 240 yX4_to, Cond.instanceMethod yX4_to, Cond.selects RX4 yX4_to yX4_to]
def wsX5_leaveLine_r3 : List Cond := [Cond.code yX4_to cX4_to 2 (some .int), Cond.fieldLink RX4 18 "BoardNotation$Tree" "to" "[I", Cond.methodLink RX5 295 yX4_taken, Cond.instanceMethod yX4_taken, Cond.selects RX4 yX4_taken yX4_taken, Cond.code yX4_taken cX4_taken 2 (some .int), Cond.fieldLink RX4 21 "BoardNotation$Tree" "taken" "[I", Cond.methodLink RX5 298 yX0_takeBack, Cond.instanceMethod yX0_takeBack, Cond.selects RX0 yX0_takeBack yX0_takeBack, Cond.initialized RX0, Cond.code yX0_takeBack cX0_takeBack 4 none, Cond.fieldLink RX0 9 "BoardNotation$Board" "pieces" "[I", Cond.static yX5_isSquare, Cond.code yX5_isSquare cX5_isSquare 1 (some .boolean), Cond.methodLink RX5 302 yX4_above, Cond.methodLink RX5 180 yX3_append, Cond.instanceMethod yX3_append, Cond.selects RX3 yX3_append yX3_append, Cond.initialized RX3, Cond.code yX3_append cX3_append 2 none, Cond.fieldLink RX3 15 "BoardNotation$Text" "size" "I", Cond.fieldLink RX3 9 "BoardNotation$Text" "bytes" "[I", Cond.fieldLink RX3 19 "BoardNotation$Text" "spilled" "Z"]
def wsX5_leaveLine : List Cond := .code yX5_leaveLine cX5_leaveLine 3 (some .int) :: ((wsX5_leaveLine_r1 ++ (wsX5_leaveLine_r2 ++ wsX5_leaveLine_r3)) ++ wsX50 ++ wsX40 ++ wsX00 ++ wsX30)
def wsX5_goOn_r1 : List Cond := [Cond.fieldLink RX5 28 "BoardNotation" "tree" "LBoardNotation$Tree;", Cond.fieldLink RX5 56 "BoardNotation" "present" "I", Cond.methodLink RX5 218 yX4_child, Cond.instanceMethod yX4_child, Cond.selects RX4 yX4_child yX4_child, Cond.initialized RX4, Cond.code yX4_child cX4_child 5 (some .int), Cond.fieldLink RX4 27 "BoardNotation$Tree" "childCount" "[I", Cond.fieldLink RX4 30 "BoardNotation$Tree" "firstChild" "[I", Cond.fieldLink RX4 33 "BoardNotation$Tree" "nextBeside" "[I", Cond.methodLink RX4 44 yX4_has, Cond.instanceMethod yX4_has, Cond.selects RX4 yX4_has yX4_has, Cond.code yX4_has cX4_has 2 (some .boolean), Cond.fieldLink RX4 36 "BoardNotation$Tree" "size" "I", Cond.methodLink RX5 356 yX5_leaveLine, Cond.instanceMethod yX5_leaveLine, Cond.selects RX5 yX5_leaveLine yX5_leaveLine, Cond.initialized RX5, Cond.code yX5_leaveLine cX5_leaveLine 3 (some .int), Cond.fieldLink RX5 53 "BoardNotation" "draft" "LBoardNotation$Text;", Cond.methodLink RX5 276 yX4_depth, Cond.instanceMethod yX4_depth, Cond.selects RX4 yX4_depth yX4_depth]
def wsX5_goOn_r2 : List Cond := [Cond.code yX4_depth cX4_depth 2 (some .int), Cond.fieldLink RX4 24 "BoardNotation$Tree" "depth" "[I", Cond.methodLink RX5 359 yX4_placeOf, Cond.instanceMethod yX4_placeOf, Cond.selects RX4 yX4_placeOf yX4_placeOf, Cond.code yX4_placeOf cX4_placeOf 4 (some .int), Cond.methodLink RX4 48 yX4_above, Cond.instanceMethod yX4_above, Cond.selects RX4 yX4_above yX4_above, Cond.code yX4_above cX4_above 2 (some .int), Cond.fieldLink RX4 9 "BoardNotation$Tree" "above" "[I", Cond.methodLink RX4 59 yX4_child, Cond.methodLink RX4 57 yX4_childCount, Cond.instanceMethod yX4_childCount, Cond.selects RX4 yX4_childCount yX4_childCount, Cond.code yX4_childCount cX4_childCount 2 (some .int), Cond.methodLink RX5 305 yX5_stepUp, Cond.instanceMethod yX5_stepUp, Cond.selects RX5 yX5_stepUp yX5_stepUp, Cond.code yX5_stepUp cX5_stepUp 1 none, Cond.fieldLink RX5 21 "BoardNotation" "board" "LBoardNotation$Board;", Cond.methodLink RX5 237 yX4_from, Cond.instanceMethod yX4_from, Cond.selects RX4 yX4_from yX4_from]
def wsX5_goOn_r3 : List Cond := [Cond.code yX4_from cX4_from 2 (some .int), Cond.fieldLink RX4 15 "BoardNotation$Tree" "from" "[I", Cond.methodLink RX5 240 yX4_to, Cond.instanceMethod yX4_to, Cond.selects RX4 yX4_to yX4_to, Cond.code yX4_to cX4_to 2 (some .int), Cond.fieldLink RX4 18 "BoardNotation$Tree" "to" "[I", Cond.methodLink RX5 295 yX4_taken, Cond.instanceMethod yX4_taken, Cond.selects RX4 yX4_taken yX4_taken, Cond.code yX4_taken cX4_taken 2 (some .int), Cond.fieldLink RX4 21 "BoardNotation$Tree" "taken" "[I", Cond.methodLink RX5 298 yX0_takeBack, Cond.instanceMethod yX0_takeBack, Cond.selects RX0 yX0_takeBack yX0_takeBack, Cond.initialized RX0, Cond.code yX0_takeBack cX0_takeBack 4 none, Cond.fieldLink RX0 9 "BoardNotation$Board" "pieces" "[I", Cond.static yX5_isSquare, Cond.code yX5_isSquare cX5_isSquare 1 (some .boolean), Cond.methodLink RX5 302 yX4_above, Cond.methodLink RX5 180 yX3_append, Cond.instanceMethod yX3_append, Cond.selects RX3 yX3_append yX3_append]
def wsX5_goOn_r4 : List Cond := [Cond.initialized RX3, Cond.code yX3_append cX3_append 2 none, Cond.fieldLink RX3 15 "BoardNotation$Text" "size" "I", Cond.fieldLink RX3 9 "BoardNotation$Text" "bytes" "[I", Cond.fieldLink RX3 19 "BoardNotation$Text" "spilled" "Z", Cond.methodLink RX5 313 yX5_stepDown, Cond.instanceMethod yX5_stepDown, Cond.selects RX5 yX5_stepDown yX5_stepDown, Cond.code yX5_stepDown cX5_stepDown 2 none, Cond.methodLink RX5 288 yX0_move, Cond.instanceMethod yX0_move, Cond.selects RX0 yX0_move yX0_move, Cond.code yX0_move cX0_move 4 (some .int), Cond.methodLink RX5 291 yX4_keepTaken, Cond.instanceMethod yX4_keepTaken, Cond.selects RX4 yX4_keepTaken yX4_keepTaken, Cond.code yX4_keepTaken cX4_keepTaken 3 none]
def wsX5_goOn : List Cond := .code yX5_goOn cX5_goOn 4 (some .int) :: ((wsX5_goOn_r1 ++ (wsX5_goOn_r2 ++ (wsX5_goOn_r3 ++ wsX5_goOn_r4))) ++ wsX50 ++ wsX40 ++ wsX00 ++ wsX30)
def wsX5_writeGame_r1 : List Cond := [Cond.classLink RX5 98 "java/lang/IllegalStateException", Cond.initialized "java/lang/IllegalStateException", Cond.fieldLink RX5 56 "BoardNotation" "present" "I", Cond.fieldLink RX5 53 "BoardNotation" "draft" "LBoardNotation$Text;", Cond.fieldLink RX5 28 "BoardNotation" "tree" "LBoardNotation$Tree;", Cond.fieldLink RX5 49 "BoardNotation" "tape" "LBoardNotation$Text;", Cond.methodLink RX5 223 yX5_visit, Cond.instanceMethod yX5_visit, Cond.selects RX5 yX5_visit yX5_visit, Cond.initialized RX5, Cond.code yX5_visit cX5_visit 5 none, Cond.fieldLink RX5 39 "BoardNotation" "path" "[I", Cond.methodLink RX5 308 Lib.Math.min.name, Cond.static Lib.Math.min.name, Cond.initialized "java/lang/Math", Cond.code Lib.Math.min.name Lib.Math.min.code 2 (some .int), Cond.methodLink RX5 276 yX4_depth, Cond.instanceMethod yX4_depth, Cond.selects RX4 yX4_depth yX4_depth, Cond.initialized RX4, Cond.code yX4_depth cX4_depth 2 (some .int), Cond.fieldLink RX4 24 "BoardNotation$Tree" "depth" "[I", Cond.methodLink RX4 44 yX4_has, Cond.instanceMethod yX4_has]
def wsX5_writeGame_r2 : List Cond := [Cond.selects RX4 yX4_has yX4_has, Cond.code yX4_has cX4_has 2 (some .boolean), Cond.fieldLink RX4 36 "BoardNotation$Tree" "size" "I", Cond.methodLink RX5 305 yX5_stepUp, Cond.instanceMethod yX5_stepUp, Cond.selects RX5 yX5_stepUp yX5_stepUp, Cond.code yX5_stepUp cX5_stepUp 1 none, Cond.fieldLink RX5 21 "BoardNotation" "board" "LBoardNotation$Board;", Cond.methodLink RX5 237 yX4_from, Cond.instanceMethod yX4_from, Cond.selects RX4 yX4_from yX4_from, Cond.code yX4_from cX4_from 2 (some .int), Cond.fieldLink RX4 15 "BoardNotation$Tree" "from" "[I", Cond.methodLink RX5 240 yX4_to, Cond.instanceMethod yX4_to, Cond.selects RX4 yX4_to yX4_to, Cond.code yX4_to cX4_to 2 (some .int), Cond.fieldLink RX4 18 "BoardNotation$Tree" "to" "[I", Cond.methodLink RX5 295 yX4_taken, Cond.instanceMethod yX4_taken, Cond.selects RX4 yX4_taken yX4_taken, Cond.code yX4_taken cX4_taken 2 (some .int), Cond.fieldLink RX4 21 "BoardNotation$Tree" "taken" "[I", Cond.methodLink RX5 298 yX0_takeBack]
def wsX5_writeGame_r3 : List Cond := [Cond.instanceMethod yX0_takeBack, Cond.selects RX0 yX0_takeBack yX0_takeBack, Cond.initialized RX0, Cond.code yX0_takeBack cX0_takeBack 4 none, Cond.fieldLink RX0 9 "BoardNotation$Board" "pieces" "[I", Cond.static yX5_isSquare, Cond.code yX5_isSquare cX5_isSquare 1 (some .boolean), Cond.methodLink RX5 302 yX4_above, Cond.instanceMethod yX4_above, Cond.selects RX4 yX4_above yX4_above, Cond.code yX4_above cX4_above 2 (some .int), Cond.fieldLink RX4 9 "BoardNotation$Tree" "above" "[I", Cond.methodLink RX5 313 yX5_stepDown, Cond.instanceMethod yX5_stepDown, Cond.selects RX5 yX5_stepDown yX5_stepDown, Cond.code yX5_stepDown cX5_stepDown 2 none, Cond.methodLink RX5 288 yX0_move, Cond.instanceMethod yX0_move, Cond.selects RX0 yX0_move yX0_move, Cond.code yX0_move cX0_move 4 (some .int), Cond.methodLink RX5 291 yX4_keepTaken, Cond.instanceMethod yX4_keepTaken, Cond.selects RX4 yX4_keepTaken yX4_keepTaken, Cond.code yX4_keepTaken cX4_keepTaken 3 none]
def wsX5_writeGame_r4 : List Cond := [Cond.methodLink RX5 187 yX3_wipe, Cond.instanceMethod yX3_wipe, Cond.selects RX3 yX3_wipe yX3_wipe, Cond.initialized RX3, Cond.code yX3_wipe cX3_wipe 1 none, Cond.fieldLink RX3 15 "BoardNotation$Text" "size" "I", Cond.fieldLink RX3 19 "BoardNotation$Text" "spilled" "Z", Cond.methodLink RX5 218 yX4_child, Cond.instanceMethod yX4_child, Cond.selects RX4 yX4_child yX4_child, Cond.code yX4_child cX4_child 5 (some .int), Cond.fieldLink RX4 27 "BoardNotation$Tree" "childCount" "[I", Cond.fieldLink RX4 30 "BoardNotation$Tree" "firstChild" "[I", Cond.fieldLink RX4 33 "BoardNotation$Tree" "nextBeside" "[I", Cond.methodLink RX5 231 yX5_writeOpening, Cond.instanceMethod yX5_writeOpening, Cond.selects RX5 yX5_writeOpening yX5_writeOpening, Cond.code yX5_writeOpening cX5_writeOpening 2 none, Cond.methodLink RX5 234 yX3_separate, Cond.instanceMethod yX3_separate, Cond.selects RX3 yX3_separate yX3_separate, Cond.code yX3_separate cX3_separate 1 none, Cond.methodLink RX3 23 yX3_get, Cond.instanceMethod yX3_get]
def wsX5_writeGame_r5 : List Cond := [Cond.selects RX3 yX3_get yX3_get, Cond.code yX3_get cX3_get 2 (some .int), Cond.fieldLink RX3 9 "BoardNotation$Text" "bytes" "[I", Cond.methodLink RX3 27 yX3_append, Cond.instanceMethod yX3_append, Cond.selects RX3 yX3_append yX3_append, Cond.code yX3_append cX3_append 2 none, Cond.methodLink RX5 180 yX3_append, Cond.methodLink RX5 198 yX5_writeMove, Cond.instanceMethod yX5_writeMove, Cond.selects RX5 yX5_writeMove yX5_writeMove, Cond.code yX5_writeMove cX5_writeMove 6 none, Cond.fieldLink RX5 12 "BoardNotation" "kinds" "LBoardNotation$Kinds;", Cond.methodLink RX5 145 yX0_pieceOn, Cond.instanceMethod yX0_pieceOn, Cond.selects RX0 yX0_pieceOn yX0_pieceOn, Cond.code yX0_pieceOn cX0_pieceOn 2 (some .int), Cond.methodLink RX5 350 yX1_letter, Cond.instanceMethod yX1_letter, Cond.selects RX1 yX1_letter yX1_letter, Cond.initialized RX1, Cond.code yX1_letter cX1_letter 2 (some .int), Cond.fieldLink RX1 9 "BoardNotation$Kinds" "letters" "[I", Cond.methodLink RX1 31 yX1_has]
def wsX5_writeGame_r6 : List Cond := [Cond.instanceMethod yX1_has, Cond.selects RX1 yX1_has yX1_has, Cond.code yX1_has cX1_has 2 (some .boolean), Cond.fieldLink RX1 27 "BoardNotation$Kinds" "size" "I", Cond.methodLink RX5 352 yX5_writeOrigin, Cond.instanceMethod yX5_writeOrigin, Cond.selects RX5 yX5_writeOrigin yX5_writeOrigin, Cond.code yX5_writeOrigin cX5_writeOrigin 9 none, Cond.methodLink RX5 282 yX0_reaches, Cond.instanceMethod yX0_reaches, Cond.selects RX0 yX0_reaches yX0_reaches, Cond.code yX0_reaches cX0_reaches 3 (some .boolean), Cond.methodLink RX0 36 yX0_reachedFrom, Cond.instanceMethod yX0_reachedFrom, Cond.selects RX0 yX0_reachedFrom yX0_reachedFrom, Cond.code yX0_reachedFrom cX0_reachedFrom 16 (some .long), Cond.fieldLink RX0 15 "BoardNotation$Board" "kinds" "LBoardNotation$Kinds;", Cond.methodLink RX5 285 yX0_keepsRoyalsSafe, Cond.instanceMethod yX0_keepsRoyalsSafe, Cond.selects RX0 yX0_keepsRoyalsSafe yX0_keepsRoyalsSafe, Cond.code yX0_keepsRoyalsSafe cX0_keepsRoyalsSafe 6 (some .boolean), Cond.methodLink RX0 29 yX0_pieceOn, Cond.methodLink RX0 61 yX0_move, Cond.methodLink RX0 65 yX0_inCheck]
def wsX5_writeGame_r7 : List Cond := [Cond.instanceMethod yX0_inCheck, Cond.selects RX0 yX0_inCheck yX0_inCheck, Cond.code yX0_inCheck cX0_inCheck 6 (some .boolean), Cond.methodLink RX0 58 yX0_royalsOf, Cond.instanceMethod yX0_royalsOf, Cond.selects RX0 yX0_royalsOf yX0_royalsOf, Cond.code yX0_royalsOf cX0_royalsOf 5 (some .long), Cond.methodLink RX0 68 yX0_takeBack, Cond.methodLink RX5 341 yX0_isTaken, Cond.instanceMethod yX0_isTaken, Cond.selects RX0 yX0_isTaken yX0_isTaken, Cond.code yX0_isTaken cX0_isTaken 2 (some .boolean), Cond.methodLink RX5 347 yX0_signBehind, Cond.instanceMethod yX0_signBehind, Cond.selects RX0 yX0_signBehind yX0_signBehind, Cond.code yX0_signBehind cX0_signBehind 6 (some .int), Cond.methodLink RX0 76 yX0_countLegalMoves, Cond.instanceMethod yX0_countLegalMoves, Cond.selects RX0 yX0_countLegalMoves yX0_countLegalMoves, Cond.code yX0_countLegalMoves cX0_countLegalMoves 8 (some .int), Cond.methodLink RX0 72 yX0_keepsRoyalsSafe, Cond.methodLink RX5 243 yX5_goOn, Cond.instanceMethod yX5_goOn, Cond.selects RX5 yX5_goOn yX5_goOn]
def wsX5_writeGame_r8 : List Cond := [Cond.code yX5_goOn cX5_goOn 4 (some .int), Cond.methodLink RX5 356 yX5_leaveLine, Cond.instanceMethod yX5_leaveLine, Cond.selects RX5 yX5_leaveLine yX5_leaveLine, Cond.code yX5_leaveLine cX5_leaveLine 3 (some .int), Cond.methodLink RX5 359 yX4_placeOf, Cond.instanceMethod yX4_placeOf, Cond.selects RX4 yX4_placeOf yX4_placeOf, Cond.code yX4_placeOf cX4_placeOf 4 (some .int), Cond.methodLink RX4 48 yX4_above, Cond.methodLink RX4 59 yX4_child, Cond.methodLink RX4 57 yX4_childCount, Cond.instanceMethod yX4_childCount, Cond.selects RX4 yX4_childCount yX4_childCount, Cond.code yX4_childCount cX4_childCount 2 (some .int), Cond.methodLink RX5 246 yX3_hasSpilled, Cond.instanceMethod yX3_hasSpilled, Cond.selects RX3 yX3_hasSpilled yX3_hasSpilled, Cond.code yX3_hasSpilled cX3_hasSpilled 1 (some .boolean), Cond.methodLink RX5 157 yX3_size, Cond.instanceMethod yX3_size, Cond.selects RX3 yX3_size yX3_size, Cond.code yX3_size cX3_size 1 (some .int)]
def wsX5_writeGame : List Cond := .code yX5_writeGame cX5_writeGame 5 (some .int) :: ((wsX5_writeGame_r1 ++ (wsX5_writeGame_r2 ++ (wsX5_writeGame_r3 ++ (wsX5_writeGame_r4 ++ (wsX5_writeGame_r5 ++ (wsX5_writeGame_r6 ++ (wsX5_writeGame_r7 ++ wsX5_writeGame_r8))))))) ++ wsX50 ++ wsX40 ++ wsX00 ++ wsX30 ++ wsX10 ++ (vx_atS RX5 102 "java/lang/IllegalStateException" ["java/lang/RuntimeException", "java/lang/Exception"]).filter goodWord)
def wsX5_beginAnew_r1 : List Cond := [Cond.fieldLink RX5 28 "BoardNotation" "tree" "LBoardNotation$Tree;", Cond.methodLink RX5 223 yX5_visit, Cond.instanceMethod yX5_visit, Cond.selects RX5 yX5_visit yX5_visit, Cond.initialized RX5, Cond.code yX5_visit cX5_visit 5 none, Cond.fieldLink RX5 56 "BoardNotation" "present" "I", Cond.fieldLink RX5 39 "BoardNotation" "path" "[I", Cond.methodLink RX5 308 Lib.Math.min.name, Cond.static Lib.Math.min.name, Cond.initialized "java/lang/Math", Cond.code Lib.Math.min.name Lib.Math.min.code 2 (some .int), Cond.methodLink RX5 276 yX4_depth, Cond.instanceMethod yX4_depth, Cond.selects RX4 yX4_depth yX4_depth, Cond.initialized RX4, Cond.code yX4_depth cX4_depth 2 (some .int), Cond.fieldLink RX4 24 "BoardNotation$Tree" "depth" "[I", Cond.methodLink RX4 44 yX4_has, Cond.instanceMethod yX4_has, Cond.selects RX4 yX4_has yX4_has, Cond.code yX4_has cX4_has 2 (some .boolean), Cond.fieldLink RX4 36 "BoardNotation$Tree" "size" "I", Cond.methodLink RX5 305 yX5_stepUp]
def wsX5_beginAnew_r2 : List Cond := [Cond.instanceMethod yX5_stepUp, Cond.selects RX5 yX5_stepUp yX5_stepUp, Cond.code yX5_stepUp cX5_stepUp 1 none, Cond.fieldLink RX5 21 "BoardNotation" "board" "LBoardNotation$Board;", Cond.methodLink RX5 237 yX4_from, Cond.instanceMethod yX4_from, Cond.selects RX4 yX4_from yX4_from, Cond.code yX4_from cX4_from 2 (some .int), Cond.fieldLink RX4 15 "BoardNotation$Tree" "from" "[I", Cond.methodLink RX5 240 yX4_to, Cond.instanceMethod yX4_to, Cond.selects RX4 yX4_to yX4_to, Cond.code yX4_to cX4_to 2 (some .int), Cond.fieldLink RX4 18 "BoardNotation$Tree" "to" "[I", Cond.methodLink RX5 295 yX4_taken, Cond.instanceMethod yX4_taken, Cond.selects RX4 yX4_taken yX4_taken, Cond.code yX4_taken cX4_taken 2 (some .int), Cond.fieldLink RX4 21 "BoardNotation$Tree" "taken" "[I", Cond.methodLink RX5 298 yX0_takeBack, Cond.instanceMethod yX0_takeBack, Cond.selects RX0 yX0_takeBack yX0_takeBack, Cond.initialized RX0, Cond.code yX0_takeBack cX0_takeBack 4 none]
def wsX5_beginAnew_r3 : List Cond := [Cond.fieldLink RX0 9 "BoardNotation$Board" "pieces" "[I", Cond.static yX5_isSquare, Cond.code yX5_isSquare cX5_isSquare 1 (some .boolean), Cond.methodLink RX5 302 yX4_above, Cond.instanceMethod yX4_above, Cond.selects RX4 yX4_above yX4_above, Cond.code yX4_above cX4_above 2 (some .int), Cond.fieldLink RX4 9 "BoardNotation$Tree" "above" "[I", Cond.methodLink RX5 313 yX5_stepDown, Cond.instanceMethod yX5_stepDown, Cond.selects RX5 yX5_stepDown yX5_stepDown, Cond.code yX5_stepDown cX5_stepDown 2 none, Cond.methodLink RX5 288 yX0_move, Cond.instanceMethod yX0_move, Cond.selects RX0 yX0_move yX0_move, Cond.code yX0_move cX0_move 4 (some .int), Cond.methodLink RX5 291 yX4_keepTaken, Cond.instanceMethod yX4_keepTaken, Cond.selects RX4 yX4_keepTaken yX4_keepTaken, Cond.code yX4_keepTaken cX4_keepTaken 3 none, Cond.methodLink RX5 316 yX4_cutToRoot, Cond.instanceMethod yX4_cutToRoot, Cond.selects RX4 yX4_cutToRoot yX4_cutToRoot, Cond.code yX4_cutToRoot cX4_cutToRoot 1 none]
def wsX5_beginAnew_r4 : List Cond := [Cond.methodLink RX4 40 yX4_occupy, Cond.instanceMethod yX4_occupy, Cond.selects RX4 yX4_occupy yX4_occupy, Cond.code yX4_occupy cX4_occupy 5 (some .int), Cond.fieldLink RX4 27 "BoardNotation$Tree" "childCount" "[I", Cond.fieldLink RX4 30 "BoardNotation$Tree" "firstChild" "[I", Cond.fieldLink RX4 33 "BoardNotation$Tree" "nextBeside" "[I"]
def wsX5_beginAnew : List Cond := .code yX5_beginAnew cX5_beginAnew 1 none :: ((wsX5_beginAnew_r1 ++ (wsX5_beginAnew_r2 ++ (wsX5_beginAnew_r3 ++ wsX5_beginAnew_r4))) ++ wsX50 ++ wsX40 ++ wsX00)
def wsX5_openVariation_r1 : List Cond := [Cond.fieldLink RX5 63 "BoardNotation" "moveIsDue" "Z", Cond.fieldLink RX5 56 "BoardNotation" "present" "I", Cond.fieldLink RX5 60 "BoardNotation" "openBrackets" "I", Cond.fieldLink RX5 43 "BoardNotation" "bracketNodes" "[I", Cond.methodLink RX5 305 yX5_stepUp, Cond.instanceMethod yX5_stepUp, Cond.selects RX5 yX5_stepUp yX5_stepUp, Cond.initialized RX5, Cond.code yX5_stepUp cX5_stepUp 1 none, Cond.fieldLink RX5 21 "BoardNotation" "board" "LBoardNotation$Board;", Cond.fieldLink RX5 28 "BoardNotation" "tree" "LBoardNotation$Tree;", Cond.methodLink RX5 237 yX4_from, Cond.instanceMethod yX4_from, Cond.selects RX4 yX4_from yX4_from, Cond.initialized RX4, Cond.code yX4_from cX4_from 2 (some .int), Cond.fieldLink RX4 15 "BoardNotation$Tree" "from" "[I", Cond.methodLink RX4 44 yX4_has, Cond.instanceMethod yX4_has, Cond.selects RX4 yX4_has yX4_has, Cond.code yX4_has cX4_has 2 (some .boolean), Cond.fieldLink RX4 36 "BoardNotation$Tree" "size" "I", Cond.methodLink RX5 240 yX4_to, Cond.instanceMethod yX4_to]
def wsX5_openVariation_r2 : List Cond := [Cond.selects RX4 yX4_to yX4_to, Cond.code yX4_to cX4_to 2 (some .int), Cond.fieldLink RX4 18 "BoardNotation$Tree" "to" "[I", Cond.methodLink RX5 295 yX4_taken, Cond.instanceMethod yX4_taken, Cond.selects RX4 yX4_taken yX4_taken, Cond.code yX4_taken cX4_taken 2 (some .int), Cond.fieldLink RX4 21 "BoardNotation$Tree" "taken" "[I", Cond.methodLink RX5 298 yX0_takeBack, Cond.instanceMethod yX0_takeBack, Cond.selects RX0 yX0_takeBack yX0_takeBack, Cond.initialized RX0, Cond.code yX0_takeBack cX0_takeBack 4 none, Cond.fieldLink RX0 9 "BoardNotation$Board" "pieces" "[I", Cond.static yX5_isSquare, Cond.code yX5_isSquare cX5_isSquare 1 (some .boolean), Cond.methodLink RX5 302 yX4_above, Cond.instanceMethod yX4_above, Cond.selects RX4 yX4_above yX4_above, Cond.code yX4_above cX4_above 2 (some .int), Cond.fieldLink RX4 9 "BoardNotation$Tree" "above" "[I"]
def wsX5_openVariation : List Cond := .code yX5_openVariation cX5_openVariation 1 (some .int) :: ((wsX5_openVariation_r1 ++ wsX5_openVariation_r2) ++ wsX50 ++ wsX40 ++ wsX00)
def wsX5_closeVariation_r1 : List Cond := [Cond.fieldLink RX5 63 "BoardNotation" "moveIsDue" "Z", Cond.fieldLink RX5 60 "BoardNotation" "openBrackets" "I", Cond.fieldLink RX5 43 "BoardNotation" "bracketNodes" "[I", Cond.methodLink RX5 223 yX5_visit, Cond.instanceMethod yX5_visit, Cond.selects RX5 yX5_visit yX5_visit, Cond.initialized RX5, Cond.code yX5_visit cX5_visit 5 none, Cond.fieldLink RX5 28 "BoardNotation" "tree" "LBoardNotation$Tree;", Cond.fieldLink RX5 56 "BoardNotation" "present" "I", Cond.fieldLink RX5 39 "BoardNotation" "path" "[I", Cond.methodLink RX5 308 Lib.Math.min.name, Cond.static Lib.Math.min.name, Cond.initialized "java/lang/Math", Cond.code Lib.Math.min.name Lib.Math.min.code 2 (some .int), Cond.methodLink RX5 276 yX4_depth, Cond.instanceMethod yX4_depth, Cond.selects RX4 yX4_depth yX4_depth, Cond.initialized RX4, Cond.code yX4_depth cX4_depth 2 (some .int), Cond.fieldLink RX4 24 "BoardNotation$Tree" "depth" "[I", Cond.methodLink RX4 44 yX4_has, Cond.instanceMethod yX4_has, Cond.selects RX4 yX4_has yX4_has]
def wsX5_closeVariation_r2 : List Cond := [Cond.code yX4_has cX4_has 2 (some .boolean), Cond.fieldLink RX4 36 "BoardNotation$Tree" "size" "I", Cond.methodLink RX5 305 yX5_stepUp, Cond.instanceMethod yX5_stepUp, Cond.selects RX5 yX5_stepUp yX5_stepUp, Cond.code yX5_stepUp cX5_stepUp 1 none, Cond.fieldLink RX5 21 "BoardNotation" "board" "LBoardNotation$Board;", Cond.methodLink RX5 237 yX4_from, Cond.instanceMethod yX4_from, Cond.selects RX4 yX4_from yX4_from, Cond.code yX4_from cX4_from 2 (some .int), Cond.fieldLink RX4 15 "BoardNotation$Tree" "from" "[I", Cond.methodLink RX5 240 yX4_to, Cond.instanceMethod yX4_to, Cond.selects RX4 yX4_to yX4_to, Cond.code yX4_to cX4_to 2 (some .int), Cond.fieldLink RX4 18 "BoardNotation$Tree" "to" "[I", Cond.methodLink RX5 295 yX4_taken, Cond.instanceMethod yX4_taken, Cond.selects RX4 yX4_taken yX4_taken, Cond.code yX4_taken cX4_taken 2 (some .int), Cond.fieldLink RX4 21 "BoardNotation$Tree" "taken" "[I", Cond.methodLink RX5 298 yX0_takeBack, Cond.instanceMethod yX0_takeBack]
def wsX5_closeVariation_r3 : List Cond := [Cond.selects RX0 yX0_takeBack yX0_takeBack, Cond.initialized RX0, Cond.code yX0_takeBack cX0_takeBack 4 none, Cond.fieldLink RX0 9 "BoardNotation$Board" "pieces" "[I", Cond.static yX5_isSquare, Cond.code yX5_isSquare cX5_isSquare 1 (some .boolean), Cond.methodLink RX5 302 yX4_above, Cond.instanceMethod yX4_above, Cond.selects RX4 yX4_above yX4_above, Cond.code yX4_above cX4_above 2 (some .int), Cond.fieldLink RX4 9 "BoardNotation$Tree" "above" "[I", Cond.methodLink RX5 313 yX5_stepDown, Cond.instanceMethod yX5_stepDown, Cond.selects RX5 yX5_stepDown yX5_stepDown, Cond.code yX5_stepDown cX5_stepDown 2 none, Cond.methodLink RX5 288 yX0_move, Cond.instanceMethod yX0_move, Cond.selects RX0 yX0_move yX0_move, Cond.code yX0_move cX0_move 4 (some .int), Cond.methodLink RX5 291 yX4_keepTaken, Cond.instanceMethod yX4_keepTaken, Cond.selects RX4 yX4_keepTaken yX4_keepTaken, Cond.code yX4_keepTaken cX4_keepTaken 3 none]
def wsX5_closeVariation : List Cond := .code yX5_closeVariation cX5_closeVariation 1 (some .int) :: ((wsX5_closeVariation_r1 ++ (wsX5_closeVariation_r2 ++ wsX5_closeVariation_r3)) ++ wsX50 ++ wsX40 ++ wsX00)
def wsX5_readGame_r1 : List Cond := [Cond.fieldLink RX5 60 "BoardNotation" "openBrackets" "I", Cond.fieldLink RX5 63 "BoardNotation" "moveIsDue" "Z", Cond.fieldLink RX5 73 "BoardNotation" "errorPlace" "I", Cond.fieldLink RX5 49 "BoardNotation" "tape" "LBoardNotation$Text;", Cond.fieldLink RX5 67 "BoardNotation" "judgedFrom" "I", Cond.fieldLink RX5 70 "BoardNotation" "judgedTo" "I", Cond.methodLink RX5 250 yX5_beginAnew, Cond.instanceMethod yX5_beginAnew, Cond.selects RX5 yX5_beginAnew yX5_beginAnew, Cond.initialized RX5, Cond.code yX5_beginAnew cX5_beginAnew 1 none, Cond.fieldLink RX5 28 "BoardNotation" "tree" "LBoardNotation$Tree;", Cond.methodLink RX5 223 yX5_visit, Cond.instanceMethod yX5_visit, Cond.selects RX5 yX5_visit yX5_visit, Cond.code yX5_visit cX5_visit 5 none, Cond.fieldLink RX5 56 "BoardNotation" "present" "I", Cond.fieldLink RX5 39 "BoardNotation" "path" "[I", Cond.methodLink RX5 308 Lib.Math.min.name, Cond.static Lib.Math.min.name, Cond.initialized "java/lang/Math", Cond.code Lib.Math.min.name Lib.Math.min.code 2 (some .int), Cond.methodLink RX5 276 yX4_depth, Cond.instanceMethod yX4_depth]
def wsX5_readGame_r2 : List Cond := [Cond.selects RX4 yX4_depth yX4_depth, Cond.initialized RX4, Cond.code yX4_depth cX4_depth 2 (some .int), Cond.fieldLink RX4 24 "BoardNotation$Tree" "depth" "[I", Cond.methodLink RX4 44 yX4_has, Cond.instanceMethod yX4_has, Cond.selects RX4 yX4_has yX4_has, Cond.code yX4_has cX4_has 2 (some .boolean), Cond.fieldLink RX4 36 "BoardNotation$Tree" "size" "I", Cond.methodLink RX5 305 yX5_stepUp, Cond.instanceMethod yX5_stepUp, Cond.selects RX5 yX5_stepUp yX5_stepUp, Cond.code yX5_stepUp cX5_stepUp 1 none, Cond.fieldLink RX5 21 "BoardNotation" "board" "LBoardNotation$Board;", Cond.methodLink RX5 237 yX4_from, Cond.instanceMethod yX4_from, Cond.selects RX4 yX4_from yX4_from, Cond.code yX4_from cX4_from 2 (some .int), Cond.fieldLink RX4 15 "BoardNotation$Tree" "from" "[I", Cond.methodLink RX5 240 yX4_to, Cond.instanceMethod yX4_to, Cond.selects RX4 yX4_to yX4_to, Cond.code yX4_to cX4_to 2 (some .int), Cond.fieldLink RX4 18 "BoardNotation$Tree" "to" "[I"]
def wsX5_readGame_r3 : List Cond := [Cond.methodLink RX5 295 yX4_taken, Cond.instanceMethod yX4_taken, Cond.selects RX4 yX4_taken yX4_taken, Cond.code yX4_taken cX4_taken 2 (some .int), Cond.fieldLink RX4 21 "BoardNotation$Tree" "taken" "[I", Cond.methodLink RX5 298 yX0_takeBack, Cond.instanceMethod yX0_takeBack, Cond.selects RX0 yX0_takeBack yX0_takeBack, Cond.initialized RX0, Cond.code yX0_takeBack cX0_takeBack 4 none, Cond.fieldLink RX0 9 "BoardNotation$Board" "pieces" "[I", Cond.static yX5_isSquare, Cond.code yX5_isSquare cX5_isSquare 1 (some .boolean), Cond.methodLink RX5 302 yX4_above, Cond.instanceMethod yX4_above, Cond.selects RX4 yX4_above yX4_above, Cond.code yX4_above cX4_above 2 (some .int), Cond.fieldLink RX4 9 "BoardNotation$Tree" "above" "[I", Cond.methodLink RX5 313 yX5_stepDown, Cond.instanceMethod yX5_stepDown, Cond.selects RX5 yX5_stepDown yX5_stepDown, Cond.code yX5_stepDown cX5_stepDown 2 none, Cond.methodLink RX5 288 yX0_move, Cond.instanceMethod yX0_move]
def wsX5_readGame_r4 : List Cond := [Cond.selects RX0 yX0_move yX0_move, Cond.code yX0_move cX0_move 4 (some .int), Cond.methodLink RX5 291 yX4_keepTaken, Cond.instanceMethod yX4_keepTaken, Cond.selects RX4 yX4_keepTaken yX4_keepTaken, Cond.code yX4_keepTaken cX4_keepTaken 3 none, Cond.methodLink RX5 316 yX4_cutToRoot, Cond.instanceMethod yX4_cutToRoot, Cond.selects RX4 yX4_cutToRoot yX4_cutToRoot, Cond.code yX4_cutToRoot cX4_cutToRoot 1 none, Cond.methodLink RX4 40 yX4_occupy, Cond.instanceMethod yX4_occupy, Cond.selects RX4 yX4_occupy yX4_occupy, Cond.code yX4_occupy cX4_occupy 5 (some .int), Cond.fieldLink RX4 27 "BoardNotation$Tree" "childCount" "[I", Cond.fieldLink RX4 30 "BoardNotation$Tree" "firstChild" "[I", Cond.fieldLink RX4 33 "BoardNotation$Tree" "nextBeside" "[I", Cond.methodLink RX5 157 yX3_size, Cond.instanceMethod yX3_size, Cond.selects RX3 yX3_size yX3_size, Cond.initialized RX3, Cond.code yX3_size cX3_size 1 (some .int), Cond.fieldLink RX3 15 "BoardNotation$Text" "size" "I", Cond.methodLink RX5 204 yX3_get]
def wsX5_readGame_r5 : List Cond := [Cond.instanceMethod yX3_get, Cond.selects RX3 yX3_get yX3_get, Cond.code yX3_get cX3_get 2 (some .int), Cond.fieldLink RX3 9 "BoardNotation$Text" "bytes" "[I", Cond.methodLink RX5 253 yX5_openVariation, Cond.instanceMethod yX5_openVariation, Cond.selects RX5 yX5_openVariation yX5_openVariation, Cond.code yX5_openVariation cX5_openVariation 1 (some .int), Cond.fieldLink RX5 43 "BoardNotation" "bracketNodes" "[I", Cond.methodLink RX5 256 yX5_closeVariation, Cond.instanceMethod yX5_closeVariation, Cond.selects RX5 yX5_closeVariation yX5_closeVariation, Cond.code yX5_closeVariation cX5_closeVariation 1 (some .int), Cond.methodLink RX5 259 yX3_isWordStart, Cond.instanceMethod yX3_isWordStart, Cond.selects RX3 yX3_isWordStart yX3_isWordStart, Cond.code yX3_isWordStart cX3_isWordStart 2 (some .boolean), Cond.methodLink RX3 31 yX3_isOfWord, Cond.instanceMethod yX3_isOfWord, Cond.selects RX3 yX3_isOfWord yX3_isOfWord, Cond.code yX3_isOfWord cX3_isOfWord 3 (some .boolean), Cond.methodLink RX3 23 yX3_get, Cond.methodLink RX5 262 yX3_wordEnd, Cond.instanceMethod yX3_wordEnd]
def wsX5_readGame_r6 : List Cond := [Cond.selects RX3 yX3_wordEnd yX3_wordEnd, Cond.code yX3_wordEnd cX3_wordEnd 3 (some .int), Cond.methodLink RX5 190 yX5_judge, Cond.instanceMethod yX5_judge, Cond.selects RX5 yX5_judge yX5_judge, Cond.code yX5_judge cX5_judge 10 (some .int), Cond.fieldLink RX5 35 "BoardNotation" "form" "LBoardNotation$ShortForm;", Cond.fieldLink RX5 12 "BoardNotation" "kinds" "LBoardNotation$Kinds;", Cond.methodLink RX5 326 yX2_fits, Cond.instanceMethod yX2_fits, Cond.selects RX2 yX2_fits yX2_fits, Cond.initialized RX2, Cond.code yX2_fits cX2_fits 6 (some .boolean), Cond.fieldLink RX2 9 "BoardNotation$ShortForm" "misfit" "I", Cond.methodLink RX2 37 yX2_forget, Cond.instanceMethod yX2_forget, Cond.selects RX2 yX2_forget yX2_forget, Cond.code yX2_forget cX2_forget 1 none, Cond.fieldLink RX2 15 "BoardNotation$ShortForm" "letter" "I", Cond.fieldLink RX2 18 "BoardNotation$ShortForm" "fromFile" "I", Cond.fieldLink RX2 21 "BoardNotation$ShortForm" "fromRank" "I", Cond.fieldLink RX2 24 "BoardNotation$ShortForm" "toFile" "I", Cond.fieldLink RX2 27 "BoardNotation$ShortForm" "toRank" "I", Cond.fieldLink RX2 30 "BoardNotation$ShortForm" "sign" "I"]
def wsX5_readGame_r7 : List Cond := [Cond.fieldLink RX2 33 "BoardNotation$ShortForm" "captures" "Z", Cond.methodLink RX2 40 yX3_get, Cond.methodLink RX2 46 yX2_stateBehind, Cond.static yX2_stateBehind, Cond.code yX2_stateBehind cX2_stateBehind 2 (some .int), Cond.methodLink RX2 54 yX2_isFile, Cond.static yX2_isFile, Cond.code yX2_isFile cX2_isFile 1 (some .boolean), Cond.methodLink RX2 58 yX2_isRank, Cond.static yX2_isRank, Cond.code yX2_isRank cX2_isRank 1 (some .boolean), Cond.methodLink RX2 64 yX2_stateBehindOrigin, Cond.static yX2_stateBehindOrigin, Cond.code yX2_stateBehindOrigin cX2_stateBehindOrigin 1 (some .int), Cond.methodLink RX2 61 yX2_isSign, Cond.static yX2_isSign, Cond.code yX2_isSign cX2_isSign 1 (some .boolean), Cond.methodLink RX2 50 yX2_keep, Cond.instanceMethod yX2_keep, Cond.selects RX2 yX2_keep yX2_keep, Cond.code yX2_keep cX2_keep 2 none, Cond.methodLink RX5 330 yX2_letter, Cond.instanceMethod yX2_letter, Cond.selects RX2 yX2_letter yX2_letter]
def wsX5_readGame_r8 : List Cond := [Cond.code yX2_letter cX2_letter 1 (some .int), Cond.methodLink RX5 82 yX1_withLetter, Cond.instanceMethod yX1_withLetter, Cond.selects RX1 yX1_withLetter yX1_withLetter, Cond.initialized RX1, Cond.code yX1_withLetter cX1_withLetter 3 (some .int), Cond.fieldLink RX1 27 "BoardNotation$Kinds" "size" "I", Cond.fieldLink RX1 9 "BoardNotation$Kinds" "letters" "[I", Cond.methodLink RX5 148 yX5_turn, Cond.instanceMethod yX5_turn, Cond.selects RX5 yX5_turn yX5_turn, Cond.code yX5_turn cX5_turn 1 (some .int), Cond.methodLink RX5 333 yX2_to, Cond.instanceMethod yX2_to, Cond.selects RX2 yX2_to yX2_to, Cond.code yX2_to cX2_to 1 (some .int), Cond.methodLink RX5 145 yX0_pieceOn, Cond.instanceMethod yX0_pieceOn, Cond.selects RX0 yX0_pieceOn yX0_pieceOn, Cond.code yX0_pieceOn cX0_pieceOn 2 (some .int), Cond.methodLink RX5 335 yX2_allowsFrom, Cond.instanceMethod yX2_allowsFrom, Cond.selects RX2 yX2_allowsFrom yX2_allowsFrom, Cond.code yX2_allowsFrom cX2_allowsFrom 2 (some .boolean)]
def wsX5_readGame_r9 : List Cond := [Cond.methodLink RX5 282 yX0_reaches, Cond.instanceMethod yX0_reaches, Cond.selects RX0 yX0_reaches yX0_reaches, Cond.code yX0_reaches cX0_reaches 3 (some .boolean), Cond.methodLink RX0 36 yX0_reachedFrom, Cond.instanceMethod yX0_reachedFrom, Cond.selects RX0 yX0_reachedFrom yX0_reachedFrom, Cond.code yX0_reachedFrom cX0_reachedFrom 16 (some .long), Cond.fieldLink RX0 15 "BoardNotation$Board" "kinds" "LBoardNotation$Kinds;", Cond.methodLink RX5 285 yX0_keepsRoyalsSafe, Cond.instanceMethod yX0_keepsRoyalsSafe, Cond.selects RX0 yX0_keepsRoyalsSafe yX0_keepsRoyalsSafe, Cond.code yX0_keepsRoyalsSafe cX0_keepsRoyalsSafe 6 (some .boolean), Cond.methodLink RX0 29 yX0_pieceOn, Cond.methodLink RX0 61 yX0_move, Cond.methodLink RX0 65 yX0_inCheck, Cond.instanceMethod yX0_inCheck, Cond.selects RX0 yX0_inCheck yX0_inCheck, Cond.code yX0_inCheck cX0_inCheck 6 (some .boolean), Cond.methodLink RX0 58 yX0_royalsOf, Cond.instanceMethod yX0_royalsOf, Cond.selects RX0 yX0_royalsOf yX0_royalsOf, Cond.code yX0_royalsOf cX0_royalsOf 5 (some .long), Cond.methodLink RX0 68 yX0_takeBack]
def wsX5_readGame_r10 : List Cond := [Cond.methodLink RX5 338 yX2_captures, Cond.instanceMethod yX2_captures, Cond.selects RX2 yX2_captures yX2_captures, Cond.code yX2_captures cX2_captures 1 (some .boolean), Cond.methodLink RX5 341 yX0_isTaken, Cond.instanceMethod yX0_isTaken, Cond.selects RX0 yX0_isTaken yX0_isTaken, Cond.code yX0_isTaken cX0_isTaken 2 (some .boolean), Cond.methodLink RX5 344 yX2_sign, Cond.instanceMethod yX2_sign, Cond.selects RX2 yX2_sign yX2_sign, Cond.code yX2_sign cX2_sign 1 (some .int), Cond.methodLink RX5 347 yX0_signBehind, Cond.instanceMethod yX0_signBehind, Cond.selects RX0 yX0_signBehind yX0_signBehind, Cond.code yX0_signBehind cX0_signBehind 6 (some .int), Cond.methodLink RX0 76 yX0_countLegalMoves, Cond.instanceMethod yX0_countLegalMoves, Cond.selects RX0 yX0_countLegalMoves yX0_countLegalMoves, Cond.code yX0_countLegalMoves cX0_countLegalMoves 8 (some .int), Cond.methodLink RX0 72 yX0_keepsRoyalsSafe, Cond.methodLink RX5 165 yX5_follow, Cond.instanceMethod yX5_follow, Cond.selects RX5 yX5_follow yX5_follow]
def wsX5_readGame_r11 : List Cond := [Cond.code yX5_follow cX5_follow 4 (some .boolean), Cond.methodLink RX5 319 yX4_childOfMove, Cond.instanceMethod yX4_childOfMove, Cond.selects RX4 yX4_childOfMove yX4_childOfMove, Cond.code yX4_childOfMove cX4_childOfMove 6 (some .int), Cond.methodLink RX4 59 yX4_child, Cond.instanceMethod yX4_child, Cond.selects RX4 yX4_child yX4_child, Cond.code yX4_child cX4_child 5 (some .int), Cond.methodLink RX4 57 yX4_childCount, Cond.instanceMethod yX4_childCount, Cond.selects RX4 yX4_childCount yX4_childCount, Cond.code yX4_childCount cX4_childCount 2 (some .int), Cond.methodLink RX5 97 yX4_size, Cond.instanceMethod yX4_size, Cond.selects RX4 yX4_size yX4_size, Cond.code yX4_size cX4_size 1 (some .int), Cond.methodLink RX5 323 yX4_grow, Cond.instanceMethod yX4_grow, Cond.selects RX4 yX4_grow yX4_grow, Cond.code yX4_grow cX4_grow 6 (some .int)]
def wsX5_readGame : List Cond := .code yX5_readGame cX5_readGame 3 (some .int) :: ((wsX5_readGame_r1 ++ (wsX5_readGame_r2 ++ (wsX5_readGame_r3 ++ (wsX5_readGame_r4 ++ (wsX5_readGame_r5 ++ (wsX5_readGame_r6 ++ (wsX5_readGame_r7 ++ (wsX5_readGame_r8 ++ (wsX5_readGame_r9 ++ (wsX5_readGame_r10 ++ wsX5_readGame_r11)))))))))) ++ wsX50 ++ wsX40 ++ wsX00 ++ wsX30 ++ wsX20 ++ wsX10)
def wsX5_clear_r1 : List Cond := [Cond.fieldLink RX5 28 "BoardNotation" "tree" "LBoardNotation$Tree;", Cond.methodLink RX5 97 yX4_size, Cond.instanceMethod yX4_size, Cond.selects RX4 yX4_size yX4_size, Cond.initialized RX4, Cond.code yX4_size cX4_size 1 (some .int), Cond.fieldLink RX4 36 "BoardNotation$Tree" "size" "I", Cond.methodLink RX5 250 yX5_beginAnew, Cond.instanceMethod yX5_beginAnew, Cond.selects RX5 yX5_beginAnew yX5_beginAnew, Cond.initialized RX5, Cond.code yX5_beginAnew cX5_beginAnew 1 none, Cond.methodLink RX5 223 yX5_visit, Cond.instanceMethod yX5_visit, Cond.selects RX5 yX5_visit yX5_visit, Cond.code yX5_visit cX5_visit 5 none, Cond.fieldLink RX5 56 "BoardNotation" "present" "I", Cond.fieldLink RX5 39 "BoardNotation" "path" "[I", Cond.methodLink RX5 308 Lib.Math.min.name, Cond.static Lib.Math.min.name, Cond.initialized "java/lang/Math", Cond.code Lib.Math.min.name Lib.Math.min.code 2 (some .int), Cond.methodLink RX5 276 yX4_depth, Cond.instanceMethod yX4_depth]
def wsX5_clear_r2 : List Cond := [Cond.selects RX4 yX4_depth yX4_depth, Cond.code yX4_depth cX4_depth 2 (some .int), Cond.fieldLink RX4 24 "BoardNotation$Tree" "depth" "[I", Cond.methodLink RX4 44 yX4_has, Cond.instanceMethod yX4_has, Cond.selects RX4 yX4_has yX4_has, Cond.code yX4_has cX4_has 2 (some .boolean), Cond.methodLink RX5 305 yX5_stepUp, Cond.instanceMethod yX5_stepUp, Cond.selects RX5 yX5_stepUp yX5_stepUp, Cond.code yX5_stepUp cX5_stepUp 1 none, Cond.fieldLink RX5 21 "BoardNotation" "board" "LBoardNotation$Board;", Cond.methodLink RX5 237 yX4_from, Cond.instanceMethod yX4_from, Cond.selects RX4 yX4_from yX4_from, Cond.code yX4_from cX4_from 2 (some .int), Cond.fieldLink RX4 15 "BoardNotation$Tree" "from" "[I", Cond.methodLink RX5 240 yX4_to, Cond.instanceMethod yX4_to, Cond.selects RX4 yX4_to yX4_to, Cond.code yX4_to cX4_to 2 (some .int), Cond.fieldLink RX4 18 "BoardNotation$Tree" "to" "[I", Cond.methodLink RX5 295 yX4_taken, Cond.instanceMethod yX4_taken]
def wsX5_clear_r3 : List Cond := [Cond.selects RX4 yX4_taken yX4_taken, Cond.code yX4_taken cX4_taken 2 (some .int), Cond.fieldLink RX4 21 "BoardNotation$Tree" "taken" "[I", Cond.methodLink RX5 298 yX0_takeBack, Cond.instanceMethod yX0_takeBack, Cond.selects RX0 yX0_takeBack yX0_takeBack, Cond.initialized RX0, Cond.code yX0_takeBack cX0_takeBack 4 none, Cond.fieldLink RX0 9 "BoardNotation$Board" "pieces" "[I", Cond.static yX5_isSquare, Cond.code yX5_isSquare cX5_isSquare 1 (some .boolean), Cond.methodLink RX5 302 yX4_above, Cond.instanceMethod yX4_above, Cond.selects RX4 yX4_above yX4_above, Cond.code yX4_above cX4_above 2 (some .int), Cond.fieldLink RX4 9 "BoardNotation$Tree" "above" "[I", Cond.methodLink RX5 313 yX5_stepDown, Cond.instanceMethod yX5_stepDown, Cond.selects RX5 yX5_stepDown yX5_stepDown, Cond.code yX5_stepDown cX5_stepDown 2 none, Cond.methodLink RX5 288 yX0_move, Cond.instanceMethod yX0_move, Cond.selects RX0 yX0_move yX0_move, Cond.code yX0_move cX0_move 4 (some .int)]
def wsX5_clear_r4 : List Cond := [Cond.methodLink RX5 291 yX4_keepTaken, Cond.instanceMethod yX4_keepTaken, Cond.selects RX4 yX4_keepTaken yX4_keepTaken, Cond.code yX4_keepTaken cX4_keepTaken 3 none, Cond.methodLink RX5 316 yX4_cutToRoot, Cond.instanceMethod yX4_cutToRoot, Cond.selects RX4 yX4_cutToRoot yX4_cutToRoot, Cond.code yX4_cutToRoot cX4_cutToRoot 1 none, Cond.methodLink RX4 40 yX4_occupy, Cond.instanceMethod yX4_occupy, Cond.selects RX4 yX4_occupy yX4_occupy, Cond.code yX4_occupy cX4_occupy 5 (some .int), Cond.fieldLink RX4 27 "BoardNotation$Tree" "childCount" "[I", Cond.fieldLink RX4 30 "BoardNotation$Tree" "firstChild" "[I", Cond.fieldLink RX4 33 "BoardNotation$Tree" "nextBeside" "[I"]
def wsX5_clear : List Cond := .code yX5_clear cX5_clear 2 (some .int) :: ((wsX5_clear_r1 ++ (wsX5_clear_r2 ++ (wsX5_clear_r3 ++ wsX5_clear_r4))) ++ wsX50 ++ wsX40 ++ wsX00)
def wsX5_branching : List Cond := .code yX5_branching cX5_branching 3 (some .double) :: ([.fieldLink RX5 28 "BoardNotation" "tree" "LBoardNotation$Tree;", .methodLink RX5 97 yX4_size, .instanceMethod yX4_size, .selects RX4 yX4_size yX4_size, .initialized RX4, .code yX4_size cX4_size 1 (some .int), .fieldLink RX4 36 "BoardNotation$Tree" "size" "I", .methodLink RX5 213 yX4_childCount, .instanceMethod yX4_childCount, .selects RX4 yX4_childCount yX4_childCount, .code yX4_childCount cX4_childCount 2 (some .int), .fieldLink RX4 27 "BoardNotation$Tree" "childCount" "[I", .methodLink RX4 44 yX4_has, .instanceMethod yX4_has, .selects RX4 yX4_has yX4_has, .code yX4_has cX4_has 2 (some .boolean)] ++ wsX50 ++ wsX40)
def wsX5_digestNode_r1 : List Cond := [Cond.constantLong RX5 267 (31), Cond.fieldLink RX5 28 "BoardNotation" "tree" "LBoardNotation$Tree;", Cond.methodLink RX5 210 yX4_fact, Cond.instanceMethod yX4_fact, Cond.selects RX4 yX4_fact yX4_fact, Cond.initialized RX4, Cond.code yX4_fact cX4_fact 3 (some .int), Cond.methodLink RX4 48 yX4_above, Cond.instanceMethod yX4_above, Cond.selects RX4 yX4_above yX4_above, Cond.code yX4_above cX4_above 2 (some .int), Cond.fieldLink RX4 9 "BoardNotation$Tree" "above" "[I", Cond.methodLink RX4 44 yX4_has, Cond.instanceMethod yX4_has, Cond.selects RX4 yX4_has yX4_has, Cond.code yX4_has cX4_has 2 (some .boolean), Cond.fieldLink RX4 36 "BoardNotation$Tree" "size" "I", Cond.methodLink RX4 51 yX4_from, Cond.instanceMethod yX4_from, Cond.selects RX4 yX4_from yX4_from, Cond.code yX4_from cX4_from 2 (some .int), Cond.fieldLink RX4 15 "BoardNotation$Tree" "from" "[I", Cond.methodLink RX4 53 yX4_to, Cond.instanceMethod yX4_to]
def wsX5_digestNode_r2 : List Cond := [Cond.selects RX4 yX4_to yX4_to, Cond.code yX4_to cX4_to 2 (some .int), Cond.fieldLink RX4 18 "BoardNotation$Tree" "to" "[I", Cond.methodLink RX4 55 yX4_depth, Cond.instanceMethod yX4_depth, Cond.selects RX4 yX4_depth yX4_depth, Cond.code yX4_depth cX4_depth 2 (some .int), Cond.fieldLink RX4 24 "BoardNotation$Tree" "depth" "[I", Cond.methodLink RX4 57 yX4_childCount, Cond.instanceMethod yX4_childCount, Cond.selects RX4 yX4_childCount yX4_childCount, Cond.code yX4_childCount cX4_childCount 2 (some .int), Cond.fieldLink RX4 27 "BoardNotation$Tree" "childCount" "[I", Cond.methodLink RX5 213 yX4_childCount, Cond.methodLink RX5 218 yX4_child, Cond.instanceMethod yX4_child, Cond.selects RX4 yX4_child yX4_child, Cond.code yX4_child cX4_child 5 (some .int), Cond.fieldLink RX4 30 "BoardNotation$Tree" "firstChild" "[I", Cond.fieldLink RX4 33 "BoardNotation$Tree" "nextBeside" "[I"]
def wsX5_digestNode : List Cond := .code yX5_digestNode cX5_digestNode 7 (some .long) :: ((wsX5_digestNode_r1 ++ wsX5_digestNode_r2) ++ wsX50 ++ wsX40)
def wsX5_digest_r1 : List Cond := [Cond.constantLong RX5 265 (353), Cond.constantLong RX5 267 (31), Cond.fieldLink RX5 21 "BoardNotation" "board" "LBoardNotation$Board;", Cond.fieldLink RX5 28 "BoardNotation" "tree" "LBoardNotation$Tree;", Cond.fieldLink RX5 49 "BoardNotation" "tape" "LBoardNotation$Text;", Cond.methodLink RX5 269 yX5_state, Cond.instanceMethod yX5_state, Cond.selects RX5 yX5_state yX5_state, Cond.initialized RX5, Cond.code yX5_state cX5_state 2 (some .int), Cond.classLink RX5 110 "java/lang/IndexOutOfBoundsException", Cond.initialized "java/lang/IndexOutOfBoundsException", Cond.fieldLink RX5 56 "BoardNotation" "present" "I", Cond.fieldLink RX5 12 "BoardNotation" "kinds" "LBoardNotation$Kinds;", Cond.methodLink RX5 148 yX5_turn, Cond.instanceMethod yX5_turn, Cond.selects RX5 yX5_turn yX5_turn, Cond.code yX5_turn cX5_turn 1 (some .int), Cond.methodLink RX5 276 yX4_depth, Cond.instanceMethod yX4_depth, Cond.selects RX4 yX4_depth yX4_depth, Cond.initialized RX4, Cond.code yX4_depth cX4_depth 2 (some .int), Cond.fieldLink RX4 24 "BoardNotation$Tree" "depth" "[I"]
def wsX5_digest_r2 : List Cond := [Cond.methodLink RX4 44 yX4_has, Cond.instanceMethod yX4_has, Cond.selects RX4 yX4_has yX4_has, Cond.code yX4_has cX4_has 2 (some .boolean), Cond.fieldLink RX4 36 "BoardNotation$Tree" "size" "I", Cond.methodLink RX5 151 yX0_inCheck, Cond.instanceMethod yX0_inCheck, Cond.selects RX0 yX0_inCheck yX0_inCheck, Cond.initialized RX0, Cond.code yX0_inCheck cX0_inCheck 6 (some .boolean), Cond.fieldLink RX0 9 "BoardNotation$Board" "pieces" "[I", Cond.methodLink RX0 58 yX0_royalsOf, Cond.instanceMethod yX0_royalsOf, Cond.selects RX0 yX0_royalsOf yX0_royalsOf, Cond.code yX0_royalsOf cX0_royalsOf 5 (some .long), Cond.methodLink RX0 36 yX0_reachedFrom, Cond.instanceMethod yX0_reachedFrom, Cond.selects RX0 yX0_reachedFrom yX0_reachedFrom, Cond.code yX0_reachedFrom cX0_reachedFrom 16 (some .long), Cond.fieldLink RX0 15 "BoardNotation$Board" "kinds" "LBoardNotation$Kinds;", Cond.methodLink RX5 154 yX0_countLegalMoves, Cond.instanceMethod yX0_countLegalMoves, Cond.selects RX0 yX0_countLegalMoves yX0_countLegalMoves, Cond.code yX0_countLegalMoves cX0_countLegalMoves 8 (some .int)]
def wsX5_digest_r3 : List Cond := [Cond.methodLink RX0 72 yX0_keepsRoyalsSafe, Cond.instanceMethod yX0_keepsRoyalsSafe, Cond.selects RX0 yX0_keepsRoyalsSafe yX0_keepsRoyalsSafe, Cond.code yX0_keepsRoyalsSafe cX0_keepsRoyalsSafe 6 (some .boolean), Cond.methodLink RX0 29 yX0_pieceOn, Cond.instanceMethod yX0_pieceOn, Cond.selects RX0 yX0_pieceOn yX0_pieceOn, Cond.code yX0_pieceOn cX0_pieceOn 2 (some .int), Cond.static yX5_isSquare, Cond.code yX5_isSquare cX5_isSquare 1 (some .boolean), Cond.methodLink RX0 61 yX0_move, Cond.instanceMethod yX0_move, Cond.selects RX0 yX0_move yX0_move, Cond.code yX0_move cX0_move 4 (some .int), Cond.methodLink RX0 65 yX0_inCheck, Cond.methodLink RX0 68 yX0_takeBack, Cond.instanceMethod yX0_takeBack, Cond.selects RX0 yX0_takeBack yX0_takeBack, Cond.code yX0_takeBack cX0_takeBack 4 none, Cond.methodLink RX5 97 yX4_size, Cond.instanceMethod yX4_size, Cond.selects RX4 yX4_size yX4_size, Cond.code yX4_size cX4_size 1 (some .int), Cond.methodLink RX5 93 yX1_size]
def wsX5_digest_r4 : List Cond := [Cond.instanceMethod yX1_size, Cond.selects RX1 yX1_size yX1_size, Cond.initialized RX1, Cond.code yX1_size cX1_size 1 (some .int), Cond.fieldLink RX1 27 "BoardNotation$Kinds" "size" "I", Cond.methodLink RX5 157 yX3_size, Cond.instanceMethod yX3_size, Cond.selects RX3 yX3_size yX3_size, Cond.initialized RX3, Cond.code yX3_size cX3_size 1 (some .int), Cond.fieldLink RX3 15 "BoardNotation$Text" "size" "I", Cond.methodLink RX5 145 yX0_pieceOn, Cond.methodLink RX5 272 yX5_digestNode, Cond.instanceMethod yX5_digestNode, Cond.selects RX5 yX5_digestNode yX5_digestNode, Cond.code yX5_digestNode cX5_digestNode 7 (some .long), Cond.methodLink RX5 210 yX4_fact, Cond.instanceMethod yX4_fact, Cond.selects RX4 yX4_fact yX4_fact, Cond.code yX4_fact cX4_fact 3 (some .int), Cond.methodLink RX4 48 yX4_above, Cond.instanceMethod yX4_above, Cond.selects RX4 yX4_above yX4_above, Cond.code yX4_above cX4_above 2 (some .int)]
def wsX5_digest_r5 : List Cond := [Cond.fieldLink RX4 9 "BoardNotation$Tree" "above" "[I", Cond.methodLink RX4 51 yX4_from, Cond.instanceMethod yX4_from, Cond.selects RX4 yX4_from yX4_from, Cond.code yX4_from cX4_from 2 (some .int), Cond.fieldLink RX4 15 "BoardNotation$Tree" "from" "[I", Cond.methodLink RX4 53 yX4_to, Cond.instanceMethod yX4_to, Cond.selects RX4 yX4_to yX4_to, Cond.code yX4_to cX4_to 2 (some .int), Cond.fieldLink RX4 18 "BoardNotation$Tree" "to" "[I", Cond.methodLink RX4 55 yX4_depth, Cond.methodLink RX4 57 yX4_childCount, Cond.instanceMethod yX4_childCount, Cond.selects RX4 yX4_childCount yX4_childCount, Cond.code yX4_childCount cX4_childCount 2 (some .int), Cond.fieldLink RX4 27 "BoardNotation$Tree" "childCount" "[I", Cond.methodLink RX5 213 yX4_childCount, Cond.methodLink RX5 218 yX4_child, Cond.instanceMethod yX4_child, Cond.selects RX4 yX4_child yX4_child, Cond.code yX4_child cX4_child 5 (some .int), Cond.fieldLink RX4 30 "BoardNotation$Tree" "firstChild" "[I", Cond.fieldLink RX4 33 "BoardNotation$Tree" "nextBeside" "[I"]
def wsX5_digest_r6 : List Cond := [Cond.methodLink RX5 204 yX3_get, Cond.instanceMethod yX3_get, Cond.selects RX3 yX3_get yX3_get, Cond.code yX3_get cX3_get 2 (some .int), Cond.fieldLink RX3 9 "BoardNotation$Text" "bytes" "[I"]
def wsX5_digest : List Cond := .code yX5_digest cX5_digest 4 (some .long) :: ((wsX5_digest_r1 ++ (wsX5_digest_r2 ++ (wsX5_digest_r3 ++ (wsX5_digest_r4 ++ (wsX5_digest_r5 ++ wsX5_digest_r6))))) ++ wsX50 ++ wsX40 ++ wsX00 ++ wsX10 ++ wsX30 ++ (vx_atS RX5 114 "java/lang/IndexOutOfBoundsException" ["java/lang/RuntimeException", "java/lang/Exception"]).filter goodWord)
def wsX6_init_r1 : List Cond := [Cond.methodLink RX6 1 objectInit, Cond.instanceMethod objectInit, Cond.code objectInit ⟨#[0xb1]⟩ 1 none, Cond.arrayClass .int, Cond.fieldLink RX6 9 "BoardNotationModel" "letters" "[I", Cond.fieldLink RX6 13 "BoardNotationModel" "manySteps" "[I", Cond.fieldLink RX6 16 "BoardNotationModel" "steps" "[I", Cond.fieldLink RX6 19 "BoardNotationModel" "first" "[I", Cond.fieldLink RX6 22 "BoardNotationModel" "board" "[I", Cond.fieldLink RX6 25 "BoardNotationModel" "trial" "[I", Cond.fieldLink RX6 28 "BoardNotationModel" "nodes" "I", Cond.fieldLink RX6 32 "BoardNotationModel" "table" "[I", Cond.constant RX6 35 (40000), Cond.fieldLink RX6 36 "BoardNotationModel" "continuations" "[I", Cond.fieldLink RX6 39 "BoardNotationModel" "tape" "[I", Cond.fieldLink RX6 42 "BoardNotationModel" "errorAt" "I", Cond.fieldLink RX6 45 "BoardNotationModel" "readFrom" "I", Cond.fieldLink RX6 48 "BoardNotationModel" "readTo" "I", Cond.fieldLink RX6 51 "BoardNotationModel" "way" "[I", Cond.fieldLink RX6 54 "BoardNotationModel" "paper" "[I", Cond.fieldLink RX6 57 "BoardNotationModel" "pile" "[I", Cond.methodLink RX6 60 arraycopyName, Cond.native arraycopyName, Cond.static arraycopyName]
def wsX6_init_r2 : List Cond := [Cond.initialized "java/lang/System"]
def wsX6_init : List Cond := .code yX6_init cX6_init 2 none :: ((wsX6_init_r1 ++ wsX6_init_r2) ++ wsX60)
def wsX6_thrown : List Cond := .code yX6_thrown cX6_thrown 1 (some .int) :: ([.fieldLink RX6 66 "BoardNotationModel" "thrown" "I"] ++ wsX60)
def wsX6_fail : List Cond := .code yX6_fail cX6_fail 2 (some .int) :: ([.fieldLink RX6 66 "BoardNotationModel" "thrown" "I"] ++ wsX60)
def wsX6_isIn : List Cond := .code yX6_isIn cX6_isIn 3 (some .boolean) :: ([])
def wsX6_isSquare : List Cond := .code yX6_isSquare cX6_isSquare 1 (some .boolean) :: ([.methodLink RX6 69 yX6_isIn, .static yX6_isIn, .initialized RX6, .code yX6_isIn cX6_isIn 3 (some .boolean)])
def wsX6_isNode : List Cond := .code yX6_isNode cX6_isNode 2 (some .boolean) :: ([.fieldLink RX6 28 "BoardNotationModel" "nodes" "I", .methodLink RX6 69 yX6_isIn, .static yX6_isIn, .initialized RX6, .code yX6_isIn cX6_isIn 3 (some .boolean)] ++ wsX60)
def wsX6_kindOf : List Cond := .code yX6_kindOf cX6_kindOf 3 (some .int) :: ([.fieldLink RX6 80 "BoardNotationModel" "kinds" "I", .fieldLink RX6 9 "BoardNotationModel" "letters" "[I"] ++ wsX60)
def wsX6_addKind : List Cond := .code yX6_addKind cX6_addKind 2 (some .int) :: ([.fieldLink RX6 66 "BoardNotationModel" "thrown" "I", .fieldLink RX6 80 "BoardNotationModel" "kinds" "I", .fieldLink RX6 28 "BoardNotationModel" "nodes" "I", .fieldLink RX6 9 "BoardNotationModel" "letters" "[I", .methodLink RX6 69 yX6_isIn, .static yX6_isIn, .initialized RX6, .code yX6_isIn cX6_isIn 3 (some .boolean), .methodLink RX6 73 yX6_kindOf, .instanceMethod yX6_kindOf, .selects RX6 yX6_kindOf yX6_kindOf, .code yX6_kindOf cX6_kindOf 3 (some .int), .methodLink RX6 77 yX6_fail, .instanceMethod yX6_fail, .selects RX6 yX6_fail yX6_fail, .code yX6_fail cX6_fail 2 (some .int)] ++ wsX60)
def wsX6_addStep : List Cond := .code yX6_addStep cX6_addStep 6 (some .int) :: ([.fieldLink RX6 66 "BoardNotationModel" "thrown" "I", .fieldLink RX6 80 "BoardNotationModel" "kinds" "I", .fieldLink RX6 13 "BoardNotationModel" "manySteps" "[I", .fieldLink RX6 28 "BoardNotationModel" "nodes" "I", .fieldLink RX6 16 "BoardNotationModel" "steps" "[I", .methodLink RX6 69 yX6_isIn, .static yX6_isIn, .initialized RX6, .code yX6_isIn cX6_isIn 3 (some .boolean), .methodLink RX6 77 yX6_fail, .instanceMethod yX6_fail, .selects RX6 yX6_fail yX6_fail, .code yX6_fail cX6_fail 2 (some .int)] ++ wsX60)
def wsX6_put : List Cond := .code yX6_put cX6_put 5 (some .int) :: ([.fieldLink RX6 66 "BoardNotationModel" "thrown" "I", .fieldLink RX6 80 "BoardNotationModel" "kinds" "I", .fieldLink RX6 28 "BoardNotationModel" "nodes" "I", .fieldLink RX6 19 "BoardNotationModel" "first" "[I", .fieldLink RX6 22 "BoardNotationModel" "board" "[I", .methodLink RX6 83 yX6_isSquare, .static yX6_isSquare, .initialized RX6, .code yX6_isSquare cX6_isSquare 1 (some .boolean), .methodLink RX6 69 yX6_isIn, .static yX6_isIn, .code yX6_isIn cX6_isIn 3 (some .boolean), .methodLink RX6 77 yX6_fail, .instanceMethod yX6_fail, .selects RX6 yX6_fail yX6_fail, .code yX6_fail cX6_fail 2 (some .int)] ++ wsX60)
def wsX6_get : List Cond := .code yX6_get cX6_get 3 (some .int) :: ([.fieldLink RX6 32 "BoardNotationModel" "table" "[I"] ++ wsX60)
def wsX6_sideOf : List Cond := .code yX6_sideOf cX6_sideOf 1 (some .int) :: ([])
def wsX6_play : List Cond := .code yX6_play cX6_play 3 none :: ([])
def wsX6_set : List Cond := .code yX6_set cX6_set 4 none :: ([.fieldLink RX6 19 "BoardNotationModel" "first" "[I", .fieldLink RX6 22 "BoardNotationModel" "board" "[I", .methodLink RX6 60 arraycopyName, .native arraycopyName, .static arraycopyName, .initialized "java/lang/System", .fieldLink RX6 51 "BoardNotationModel" "way" "[I", .methodLink RX6 87 yX6_get, .instanceMethod yX6_get, .selects RX6 yX6_get yX6_get, .initialized RX6, .code yX6_get cX6_get 3 (some .int), .fieldLink RX6 32 "BoardNotationModel" "table" "[I", .methodLink RX6 91 yX6_play, .static yX6_play, .code yX6_play cX6_play 3 none] ++ wsX60)
def wsX6_turn : List Cond := .code yX6_turn cX6_turn 1 (some .int) :: ([.fieldLink RX6 95 "BoardNotationModel" "present" "I", .methodLink RX6 87 yX6_get, .instanceMethod yX6_get, .selects RX6 yX6_get yX6_get, .initialized RX6, .code yX6_get cX6_get 3 (some .int), .fieldLink RX6 32 "BoardNotationModel" "table" "[I"] ++ wsX60)
def wsX6_target : List Cond := .code yX6_target cX6_target 8 (some .int) :: ([.fieldLink RX6 16 "BoardNotationModel" "steps" "[I", .methodLink RX6 69 yX6_isIn, .static yX6_isIn, .initialized RX6, .code yX6_isIn cX6_isIn 3 (some .boolean)] ++ wsX60)
def wsX6_reach : List Cond := .code yX6_reach cX6_reach 3 (some .int) :: ([.fieldLink RX6 16 "BoardNotationModel" "steps" "[I"] ++ wsX60)
def wsX6_reaches : List Cond := .code yX6_reaches cX6_reaches 9 (some .boolean) :: ([.fieldLink RX6 13 "BoardNotationModel" "manySteps" "[I", .methodLink RX6 98 yX6_sideOf, .static yX6_sideOf, .initialized RX6, .code yX6_sideOf cX6_sideOf 1 (some .int), .methodLink RX6 101 yX6_reach, .instanceMethod yX6_reach, .selects RX6 yX6_reach yX6_reach, .code yX6_reach cX6_reach 3 (some .int), .fieldLink RX6 16 "BoardNotationModel" "steps" "[I", .methodLink RX6 104 yX6_target, .instanceMethod yX6_target, .selects RX6 yX6_target yX6_target, .code yX6_target cX6_target 8 (some .int), .methodLink RX6 69 yX6_isIn, .static yX6_isIn, .code yX6_isIn cX6_isIn 3 (some .boolean)] ++ wsX60)
def wsX6_isChecked : List Cond := .code yX6_isChecked cX6_isChecked 5 (some .boolean) :: ([.methodLink RX6 98 yX6_sideOf, .static yX6_sideOf, .initialized RX6, .code yX6_sideOf cX6_sideOf 1 (some .int), .methodLink RX6 108 yX6_reaches, .instanceMethod yX6_reaches, .selects RX6 yX6_reaches yX6_reaches, .code yX6_reaches cX6_reaches 9 (some .boolean), .fieldLink RX6 13 "BoardNotationModel" "manySteps" "[I", .methodLink RX6 101 yX6_reach, .instanceMethod yX6_reach, .selects RX6 yX6_reach yX6_reach, .code yX6_reach cX6_reach 3 (some .int), .fieldLink RX6 16 "BoardNotationModel" "steps" "[I", .methodLink RX6 104 yX6_target, .instanceMethod yX6_target, .selects RX6 yX6_target yX6_target, .code yX6_target cX6_target 8 (some .int), .methodLink RX6 69 yX6_isIn, .static yX6_isIn, .code yX6_isIn cX6_isIn 3 (some .boolean)] ++ wsX60)
def wsX6_isLegal_r1 : List Cond := [Cond.fieldLink RX6 22 "BoardNotationModel" "board" "[I", Cond.fieldLink RX6 25 "BoardNotationModel" "trial" "[I", Cond.methodLink RX6 60 arraycopyName, Cond.native arraycopyName, Cond.static arraycopyName, Cond.initialized "java/lang/System", Cond.methodLink RX6 91 yX6_play, Cond.static yX6_play, Cond.initialized RX6, Cond.code yX6_play cX6_play 3 none, Cond.methodLink RX6 98 yX6_sideOf, Cond.static yX6_sideOf, Cond.code yX6_sideOf cX6_sideOf 1 (some .int), Cond.methodLink RX6 112 yX6_isChecked, Cond.instanceMethod yX6_isChecked, Cond.selects RX6 yX6_isChecked yX6_isChecked, Cond.code yX6_isChecked cX6_isChecked 5 (some .boolean), Cond.methodLink RX6 108 yX6_reaches, Cond.instanceMethod yX6_reaches, Cond.selects RX6 yX6_reaches yX6_reaches, Cond.code yX6_reaches cX6_reaches 9 (some .boolean), Cond.fieldLink RX6 13 "BoardNotationModel" "manySteps" "[I", Cond.methodLink RX6 101 yX6_reach, Cond.instanceMethod yX6_reach]
def wsX6_isLegal_r2 : List Cond := [Cond.selects RX6 yX6_reach yX6_reach, Cond.code yX6_reach cX6_reach 3 (some .int), Cond.fieldLink RX6 16 "BoardNotationModel" "steps" "[I", Cond.methodLink RX6 104 yX6_target, Cond.instanceMethod yX6_target, Cond.selects RX6 yX6_target yX6_target, Cond.code yX6_target cX6_target 8 (some .int), Cond.methodLink RX6 69 yX6_isIn, Cond.static yX6_isIn, Cond.code yX6_isIn cX6_isIn 3 (some .boolean)]
def wsX6_isLegal : List Cond := .code yX6_isLegal cX6_isLegal 3 (some .boolean) :: ((wsX6_isLegal_r1 ++ wsX6_isLegal_r2) ++ wsX60)
def wsX6_legalMoves_r1 : List Cond := [Cond.fieldLink RX6 22 "BoardNotationModel" "board" "[I", Cond.methodLink RX6 98 yX6_sideOf, Cond.static yX6_sideOf, Cond.initialized RX6, Cond.code yX6_sideOf cX6_sideOf 1 (some .int), Cond.methodLink RX6 108 yX6_reaches, Cond.instanceMethod yX6_reaches, Cond.selects RX6 yX6_reaches yX6_reaches, Cond.code yX6_reaches cX6_reaches 9 (some .boolean), Cond.fieldLink RX6 13 "BoardNotationModel" "manySteps" "[I", Cond.methodLink RX6 101 yX6_reach, Cond.instanceMethod yX6_reach, Cond.selects RX6 yX6_reach yX6_reach, Cond.code yX6_reach cX6_reach 3 (some .int), Cond.fieldLink RX6 16 "BoardNotationModel" "steps" "[I", Cond.methodLink RX6 104 yX6_target, Cond.instanceMethod yX6_target, Cond.selects RX6 yX6_target yX6_target, Cond.code yX6_target cX6_target 8 (some .int), Cond.methodLink RX6 69 yX6_isIn, Cond.static yX6_isIn, Cond.code yX6_isIn cX6_isIn 3 (some .boolean), Cond.methodLink RX6 116 yX6_isLegal, Cond.instanceMethod yX6_isLegal]
def wsX6_legalMoves_r2 : List Cond := [Cond.selects RX6 yX6_isLegal yX6_isLegal, Cond.code yX6_isLegal cX6_isLegal 3 (some .boolean), Cond.fieldLink RX6 25 "BoardNotationModel" "trial" "[I", Cond.methodLink RX6 60 arraycopyName, Cond.native arraycopyName, Cond.static arraycopyName, Cond.initialized "java/lang/System", Cond.methodLink RX6 91 yX6_play, Cond.static yX6_play, Cond.code yX6_play cX6_play 3 none, Cond.methodLink RX6 112 yX6_isChecked, Cond.instanceMethod yX6_isChecked, Cond.selects RX6 yX6_isChecked yX6_isChecked, Cond.code yX6_isChecked cX6_isChecked 5 (some .boolean)]
def wsX6_legalMoves : List Cond := .code yX6_legalMoves cX6_legalMoves 6 (some .int) :: ((wsX6_legalMoves_r1 ++ wsX6_legalMoves_r2) ++ wsX60)
def wsX6_at : List Cond := .code yX6_at cX6_at 2 (some .int) :: ([.fieldLink RX6 66 "BoardNotationModel" "thrown" "I", .fieldLink RX6 22 "BoardNotationModel" "board" "[I", .methodLink RX6 83 yX6_isSquare, .static yX6_isSquare, .initialized RX6, .code yX6_isSquare cX6_isSquare 1 (some .boolean), .methodLink RX6 69 yX6_isIn, .static yX6_isIn, .code yX6_isIn cX6_isIn 3 (some .boolean), .methodLink RX6 77 yX6_fail, .instanceMethod yX6_fail, .selects RX6 yX6_fail yX6_fail, .code yX6_fail cX6_fail 2 (some .int)] ++ wsX60)
def wsX6_stateTold_r1 : List Cond := [Cond.fieldLink RX6 22 "BoardNotationModel" "board" "[I", Cond.fieldLink RX6 95 "BoardNotationModel" "present" "I", Cond.fieldLink RX6 28 "BoardNotationModel" "nodes" "I", Cond.fieldLink RX6 80 "BoardNotationModel" "kinds" "I", Cond.fieldLink RX6 127 "BoardNotationModel" "taped" "I", Cond.methodLink RX6 120 yX6_turn, Cond.instanceMethod yX6_turn, Cond.selects RX6 yX6_turn yX6_turn, Cond.initialized RX6, Cond.code yX6_turn cX6_turn 1 (some .int), Cond.methodLink RX6 87 yX6_get, Cond.instanceMethod yX6_get, Cond.selects RX6 yX6_get yX6_get, Cond.code yX6_get cX6_get 3 (some .int), Cond.fieldLink RX6 32 "BoardNotationModel" "table" "[I", Cond.methodLink RX6 112 yX6_isChecked, Cond.instanceMethod yX6_isChecked, Cond.selects RX6 yX6_isChecked yX6_isChecked, Cond.code yX6_isChecked cX6_isChecked 5 (some .boolean), Cond.methodLink RX6 98 yX6_sideOf, Cond.static yX6_sideOf, Cond.code yX6_sideOf cX6_sideOf 1 (some .int), Cond.methodLink RX6 108 yX6_reaches, Cond.instanceMethod yX6_reaches]
def wsX6_stateTold_r2 : List Cond := [Cond.selects RX6 yX6_reaches yX6_reaches, Cond.code yX6_reaches cX6_reaches 9 (some .boolean), Cond.fieldLink RX6 13 "BoardNotationModel" "manySteps" "[I", Cond.methodLink RX6 101 yX6_reach, Cond.instanceMethod yX6_reach, Cond.selects RX6 yX6_reach yX6_reach, Cond.code yX6_reach cX6_reach 3 (some .int), Cond.fieldLink RX6 16 "BoardNotationModel" "steps" "[I", Cond.methodLink RX6 104 yX6_target, Cond.instanceMethod yX6_target, Cond.selects RX6 yX6_target yX6_target, Cond.code yX6_target cX6_target 8 (some .int), Cond.methodLink RX6 69 yX6_isIn, Cond.static yX6_isIn, Cond.code yX6_isIn cX6_isIn 3 (some .boolean), Cond.methodLink RX6 124 yX6_legalMoves, Cond.instanceMethod yX6_legalMoves, Cond.selects RX6 yX6_legalMoves yX6_legalMoves, Cond.code yX6_legalMoves cX6_legalMoves 6 (some .int), Cond.methodLink RX6 116 yX6_isLegal, Cond.instanceMethod yX6_isLegal, Cond.selects RX6 yX6_isLegal yX6_isLegal, Cond.code yX6_isLegal cX6_isLegal 3 (some .boolean), Cond.fieldLink RX6 25 "BoardNotationModel" "trial" "[I"]
def wsX6_stateTold_r3 : List Cond := [Cond.methodLink RX6 60 arraycopyName, Cond.native arraycopyName, Cond.static arraycopyName, Cond.initialized "java/lang/System", Cond.methodLink RX6 91 yX6_play, Cond.static yX6_play, Cond.code yX6_play cX6_play 3 none]
def wsX6_stateTold : List Cond := .code yX6_stateTold cX6_stateTold 2 (some .int) :: ((wsX6_stateTold_r1 ++ (wsX6_stateTold_r2 ++ wsX6_stateTold_r3)) ++ wsX60)
def wsX6_state_r1 : List Cond := [Cond.fieldLink RX6 66 "BoardNotationModel" "thrown" "I", Cond.methodLink RX6 69 yX6_isIn, Cond.static yX6_isIn, Cond.initialized RX6, Cond.code yX6_isIn cX6_isIn 3 (some .boolean), Cond.methodLink RX6 130 yX6_stateTold, Cond.instanceMethod yX6_stateTold, Cond.selects RX6 yX6_stateTold yX6_stateTold, Cond.code yX6_stateTold cX6_stateTold 2 (some .int), Cond.fieldLink RX6 22 "BoardNotationModel" "board" "[I", Cond.fieldLink RX6 95 "BoardNotationModel" "present" "I", Cond.fieldLink RX6 28 "BoardNotationModel" "nodes" "I", Cond.fieldLink RX6 80 "BoardNotationModel" "kinds" "I", Cond.fieldLink RX6 127 "BoardNotationModel" "taped" "I", Cond.methodLink RX6 120 yX6_turn, Cond.instanceMethod yX6_turn, Cond.selects RX6 yX6_turn yX6_turn, Cond.code yX6_turn cX6_turn 1 (some .int), Cond.methodLink RX6 87 yX6_get, Cond.instanceMethod yX6_get, Cond.selects RX6 yX6_get yX6_get, Cond.code yX6_get cX6_get 3 (some .int), Cond.fieldLink RX6 32 "BoardNotationModel" "table" "[I", Cond.methodLink RX6 112 yX6_isChecked]
def wsX6_state_r2 : List Cond := [Cond.instanceMethod yX6_isChecked, Cond.selects RX6 yX6_isChecked yX6_isChecked, Cond.code yX6_isChecked cX6_isChecked 5 (some .boolean), Cond.methodLink RX6 98 yX6_sideOf, Cond.static yX6_sideOf, Cond.code yX6_sideOf cX6_sideOf 1 (some .int), Cond.methodLink RX6 108 yX6_reaches, Cond.instanceMethod yX6_reaches, Cond.selects RX6 yX6_reaches yX6_reaches, Cond.code yX6_reaches cX6_reaches 9 (some .boolean), Cond.fieldLink RX6 13 "BoardNotationModel" "manySteps" "[I", Cond.methodLink RX6 101 yX6_reach, Cond.instanceMethod yX6_reach, Cond.selects RX6 yX6_reach yX6_reach, Cond.code yX6_reach cX6_reach 3 (some .int), Cond.fieldLink RX6 16 "BoardNotationModel" "steps" "[I", Cond.methodLink RX6 104 yX6_target, Cond.instanceMethod yX6_target, Cond.selects RX6 yX6_target yX6_target, Cond.code yX6_target cX6_target 8 (some .int), Cond.methodLink RX6 124 yX6_legalMoves, Cond.instanceMethod yX6_legalMoves, Cond.selects RX6 yX6_legalMoves yX6_legalMoves, Cond.code yX6_legalMoves cX6_legalMoves 6 (some .int)]
def wsX6_state_r3 : List Cond := [Cond.methodLink RX6 116 yX6_isLegal, Cond.instanceMethod yX6_isLegal, Cond.selects RX6 yX6_isLegal yX6_isLegal, Cond.code yX6_isLegal cX6_isLegal 3 (some .boolean), Cond.fieldLink RX6 25 "BoardNotationModel" "trial" "[I", Cond.methodLink RX6 60 arraycopyName, Cond.native arraycopyName, Cond.static arraycopyName, Cond.initialized "java/lang/System", Cond.methodLink RX6 91 yX6_play, Cond.static yX6_play, Cond.code yX6_play cX6_play 3 none, Cond.methodLink RX6 77 yX6_fail, Cond.instanceMethod yX6_fail, Cond.selects RX6 yX6_fail yX6_fail, Cond.code yX6_fail cX6_fail 2 (some .int)]
def wsX6_state : List Cond := .code yX6_state cX6_state 2 (some .int) :: ((wsX6_state_r1 ++ (wsX6_state_r2 ++ wsX6_state_r3)) ++ wsX60)
def wsX6_why_r1 : List Cond := [Cond.fieldLink RX6 22 "BoardNotationModel" "board" "[I", Cond.methodLink RX6 98 yX6_sideOf, Cond.static yX6_sideOf, Cond.initialized RX6, Cond.code yX6_sideOf cX6_sideOf 1 (some .int), Cond.methodLink RX6 120 yX6_turn, Cond.instanceMethod yX6_turn, Cond.selects RX6 yX6_turn yX6_turn, Cond.code yX6_turn cX6_turn 1 (some .int), Cond.fieldLink RX6 95 "BoardNotationModel" "present" "I", Cond.methodLink RX6 87 yX6_get, Cond.instanceMethod yX6_get, Cond.selects RX6 yX6_get yX6_get, Cond.code yX6_get cX6_get 3 (some .int), Cond.fieldLink RX6 32 "BoardNotationModel" "table" "[I", Cond.methodLink RX6 108 yX6_reaches, Cond.instanceMethod yX6_reaches, Cond.selects RX6 yX6_reaches yX6_reaches, Cond.code yX6_reaches cX6_reaches 9 (some .boolean), Cond.fieldLink RX6 13 "BoardNotationModel" "manySteps" "[I", Cond.methodLink RX6 101 yX6_reach, Cond.instanceMethod yX6_reach, Cond.selects RX6 yX6_reach yX6_reach, Cond.code yX6_reach cX6_reach 3 (some .int)]
def wsX6_why_r2 : List Cond := [Cond.fieldLink RX6 16 "BoardNotationModel" "steps" "[I", Cond.methodLink RX6 104 yX6_target, Cond.instanceMethod yX6_target, Cond.selects RX6 yX6_target yX6_target, Cond.code yX6_target cX6_target 8 (some .int), Cond.methodLink RX6 69 yX6_isIn, Cond.static yX6_isIn, Cond.code yX6_isIn cX6_isIn 3 (some .boolean), Cond.methodLink RX6 116 yX6_isLegal, Cond.instanceMethod yX6_isLegal, Cond.selects RX6 yX6_isLegal yX6_isLegal, Cond.code yX6_isLegal cX6_isLegal 3 (some .boolean), Cond.fieldLink RX6 25 "BoardNotationModel" "trial" "[I", Cond.methodLink RX6 60 arraycopyName, Cond.native arraycopyName, Cond.static arraycopyName, Cond.initialized "java/lang/System", Cond.methodLink RX6 91 yX6_play, Cond.static yX6_play, Cond.code yX6_play cX6_play 3 none, Cond.methodLink RX6 112 yX6_isChecked, Cond.instanceMethod yX6_isChecked, Cond.selects RX6 yX6_isChecked yX6_isChecked, Cond.code yX6_isChecked cX6_isChecked 5 (some .boolean)]
def wsX6_why : List Cond := .code yX6_why cX6_why 3 (some .int) :: ((wsX6_why_r1 ++ wsX6_why_r2) ++ wsX60)
def wsX6_reason_r1 : List Cond := [Cond.fieldLink RX6 66 "BoardNotationModel" "thrown" "I", Cond.methodLink RX6 83 yX6_isSquare, Cond.static yX6_isSquare, Cond.initialized RX6, Cond.code yX6_isSquare cX6_isSquare 1 (some .boolean), Cond.methodLink RX6 69 yX6_isIn, Cond.static yX6_isIn, Cond.code yX6_isIn cX6_isIn 3 (some .boolean), Cond.methodLink RX6 133 yX6_why, Cond.instanceMethod yX6_why, Cond.selects RX6 yX6_why yX6_why, Cond.code yX6_why cX6_why 3 (some .int), Cond.fieldLink RX6 22 "BoardNotationModel" "board" "[I", Cond.methodLink RX6 98 yX6_sideOf, Cond.static yX6_sideOf, Cond.code yX6_sideOf cX6_sideOf 1 (some .int), Cond.methodLink RX6 120 yX6_turn, Cond.instanceMethod yX6_turn, Cond.selects RX6 yX6_turn yX6_turn, Cond.code yX6_turn cX6_turn 1 (some .int), Cond.fieldLink RX6 95 "BoardNotationModel" "present" "I", Cond.methodLink RX6 87 yX6_get, Cond.instanceMethod yX6_get, Cond.selects RX6 yX6_get yX6_get]
def wsX6_reason_r2 : List Cond := [Cond.code yX6_get cX6_get 3 (some .int), Cond.fieldLink RX6 32 "BoardNotationModel" "table" "[I", Cond.methodLink RX6 108 yX6_reaches, Cond.instanceMethod yX6_reaches, Cond.selects RX6 yX6_reaches yX6_reaches, Cond.code yX6_reaches cX6_reaches 9 (some .boolean), Cond.fieldLink RX6 13 "BoardNotationModel" "manySteps" "[I", Cond.methodLink RX6 101 yX6_reach, Cond.instanceMethod yX6_reach, Cond.selects RX6 yX6_reach yX6_reach, Cond.code yX6_reach cX6_reach 3 (some .int), Cond.fieldLink RX6 16 "BoardNotationModel" "steps" "[I", Cond.methodLink RX6 104 yX6_target, Cond.instanceMethod yX6_target, Cond.selects RX6 yX6_target yX6_target, Cond.code yX6_target cX6_target 8 (some .int), Cond.methodLink RX6 116 yX6_isLegal, Cond.instanceMethod yX6_isLegal, Cond.selects RX6 yX6_isLegal yX6_isLegal, Cond.code yX6_isLegal cX6_isLegal 3 (some .boolean), Cond.fieldLink RX6 25 "BoardNotationModel" "trial" "[I", Cond.methodLink RX6 60 arraycopyName, Cond.native arraycopyName, Cond.static arraycopyName]
def wsX6_reason_r3 : List Cond := [Cond.initialized "java/lang/System", Cond.methodLink RX6 91 yX6_play, Cond.static yX6_play, Cond.code yX6_play cX6_play 3 none, Cond.methodLink RX6 112 yX6_isChecked, Cond.instanceMethod yX6_isChecked, Cond.selects RX6 yX6_isChecked yX6_isChecked, Cond.code yX6_isChecked cX6_isChecked 5 (some .boolean), Cond.methodLink RX6 77 yX6_fail, Cond.instanceMethod yX6_fail, Cond.selects RX6 yX6_fail yX6_fail, Cond.code yX6_fail cX6_fail 2 (some .int)]
def wsX6_reason : List Cond := .code yX6_reason cX6_reason 3 (some .int) :: ((wsX6_reason_r1 ++ (wsX6_reason_r2 ++ wsX6_reason_r3)) ++ wsX60)
def wsX6_continuation0 : List Cond := .code yX6_continuation0 cX6_continuation0 3 (some .int) :: ([.fieldLink RX6 36 "BoardNotationModel" "continuations" "[I"] ++ wsX60)
def wsX6_known : List Cond := .code yX6_known cX6_known 5 (some .int) :: ([.fieldLink RX6 95 "BoardNotationModel" "present" "I", .methodLink RX6 87 yX6_get, .instanceMethod yX6_get, .selects RX6 yX6_get yX6_get, .initialized RX6, .code yX6_get cX6_get 3 (some .int), .fieldLink RX6 32 "BoardNotationModel" "table" "[I", .methodLink RX6 136 yX6_continuation0, .instanceMethod yX6_continuation0, .selects RX6 yX6_continuation0 yX6_continuation0, .code yX6_continuation0 cX6_continuation0 3 (some .int), .fieldLink RX6 36 "BoardNotationModel" "continuations" "[I"] ++ wsX60)
def wsX6_playOn_r1 : List Cond := [Cond.fieldLink RX6 28 "BoardNotationModel" "nodes" "I", Cond.arrayClass .int, Cond.fieldLink RX6 95 "BoardNotationModel" "present" "I", Cond.fieldLink RX6 32 "BoardNotationModel" "table" "[I", Cond.methodLink RX6 60 arraycopyName, Cond.native arraycopyName, Cond.static arraycopyName, Cond.initialized "java/lang/System", Cond.fieldLink RX6 36 "BoardNotationModel" "continuations" "[I", Cond.fieldLink RX6 22 "BoardNotationModel" "board" "[I", Cond.methodLink RX6 139 yX6_known, Cond.instanceMethod yX6_known, Cond.selects RX6 yX6_known yX6_known, Cond.initialized RX6, Cond.code yX6_known cX6_known 5 (some .int), Cond.methodLink RX6 87 yX6_get, Cond.instanceMethod yX6_get, Cond.selects RX6 yX6_get yX6_get, Cond.code yX6_get cX6_get 3 (some .int), Cond.methodLink RX6 136 yX6_continuation0, Cond.instanceMethod yX6_continuation0, Cond.selects RX6 yX6_continuation0 yX6_continuation0, Cond.code yX6_continuation0 cX6_continuation0 3 (some .int), Cond.methodLink RX6 91 yX6_play]
def wsX6_playOn_r2 : List Cond := [Cond.static yX6_play, Cond.code yX6_play cX6_play 3 none]
def wsX6_playOn : List Cond := .code yX6_playOn cX6_playOn 5 none :: ((wsX6_playOn_r1 ++ wsX6_playOn_r2) ++ wsX60)
def wsX6_play__r1 : List Cond := [Cond.fieldLink RX6 66 "BoardNotationModel" "thrown" "I", Cond.fieldLink RX6 28 "BoardNotationModel" "nodes" "I", Cond.fieldLink RX6 95 "BoardNotationModel" "present" "I", Cond.methodLink RX6 83 yX6_isSquare, Cond.static yX6_isSquare, Cond.initialized RX6, Cond.code yX6_isSquare cX6_isSquare 1 (some .boolean), Cond.methodLink RX6 69 yX6_isIn, Cond.static yX6_isIn, Cond.code yX6_isIn cX6_isIn 3 (some .boolean), Cond.methodLink RX6 77 yX6_fail, Cond.instanceMethod yX6_fail, Cond.selects RX6 yX6_fail yX6_fail, Cond.code yX6_fail cX6_fail 2 (some .int), Cond.methodLink RX6 133 yX6_why, Cond.instanceMethod yX6_why, Cond.selects RX6 yX6_why yX6_why, Cond.code yX6_why cX6_why 3 (some .int), Cond.fieldLink RX6 22 "BoardNotationModel" "board" "[I", Cond.methodLink RX6 98 yX6_sideOf, Cond.static yX6_sideOf, Cond.code yX6_sideOf cX6_sideOf 1 (some .int), Cond.methodLink RX6 120 yX6_turn, Cond.instanceMethod yX6_turn]
def wsX6_play__r2 : List Cond := [Cond.selects RX6 yX6_turn yX6_turn, Cond.code yX6_turn cX6_turn 1 (some .int), Cond.methodLink RX6 87 yX6_get, Cond.instanceMethod yX6_get, Cond.selects RX6 yX6_get yX6_get, Cond.code yX6_get cX6_get 3 (some .int), Cond.fieldLink RX6 32 "BoardNotationModel" "table" "[I", Cond.methodLink RX6 108 yX6_reaches, Cond.instanceMethod yX6_reaches, Cond.selects RX6 yX6_reaches yX6_reaches, Cond.code yX6_reaches cX6_reaches 9 (some .boolean), Cond.fieldLink RX6 13 "BoardNotationModel" "manySteps" "[I", Cond.methodLink RX6 101 yX6_reach, Cond.instanceMethod yX6_reach, Cond.selects RX6 yX6_reach yX6_reach, Cond.code yX6_reach cX6_reach 3 (some .int), Cond.fieldLink RX6 16 "BoardNotationModel" "steps" "[I", Cond.methodLink RX6 104 yX6_target, Cond.instanceMethod yX6_target, Cond.selects RX6 yX6_target yX6_target, Cond.code yX6_target cX6_target 8 (some .int), Cond.methodLink RX6 116 yX6_isLegal, Cond.instanceMethod yX6_isLegal, Cond.selects RX6 yX6_isLegal yX6_isLegal]
def wsX6_play__r3 : List Cond := [Cond.code yX6_isLegal cX6_isLegal 3 (some .boolean), Cond.fieldLink RX6 25 "BoardNotationModel" "trial" "[I", Cond.methodLink RX6 60 arraycopyName, Cond.native arraycopyName, Cond.static arraycopyName, Cond.initialized "java/lang/System", Cond.methodLink RX6 91 yX6_play, Cond.static yX6_play, Cond.code yX6_play cX6_play 3 none, Cond.methodLink RX6 112 yX6_isChecked, Cond.instanceMethod yX6_isChecked, Cond.selects RX6 yX6_isChecked yX6_isChecked, Cond.code yX6_isChecked cX6_isChecked 5 (some .boolean), Cond.methodLink RX6 139 yX6_known, Cond.instanceMethod yX6_known, Cond.selects RX6 yX6_known yX6_known, Cond.code yX6_known cX6_known 5 (some .int), Cond.methodLink RX6 136 yX6_continuation0, Cond.instanceMethod yX6_continuation0, Cond.selects RX6 yX6_continuation0 yX6_continuation0, Cond.code yX6_continuation0 cX6_continuation0 3 (some .int), Cond.fieldLink RX6 36 "BoardNotationModel" "continuations" "[I", Cond.methodLink RX6 142 yX6_playOn, Cond.instanceMethod yX6_playOn]
def wsX6_play__r4 : List Cond := [Cond.selects RX6 yX6_playOn yX6_playOn, Cond.code yX6_playOn cX6_playOn 5 none, Cond.arrayClass .int]
def wsX6_play_ : List Cond := .code yX6_play_ cX6_play_ 3 (some .int) :: ((wsX6_play__r1 ++ (wsX6_play__r2 ++ (wsX6_play__r3 ++ wsX6_play__r4))) ++ wsX60)
def wsX6_feed : List Cond := .code yX6_feed cX6_feed 12 (some .int) :: ([.fieldLink RX6 66 "BoardNotationModel" "thrown" "I", .fieldLink RX6 127 "BoardNotationModel" "taped" "I", .fieldLink RX6 39 "BoardNotationModel" "tape" "[I", .arrayClass .int, .methodLink RX6 69 yX6_isIn, .static yX6_isIn, .initialized RX6, .code yX6_isIn cX6_isIn 3 (some .boolean), .methodLink RX6 77 yX6_fail, .instanceMethod yX6_fail, .selects RX6 yX6_fail yX6_fail, .code yX6_fail cX6_fail 2 (some .int)] ++ wsX60)
def wsX6_empty : List Cond := .code yX6_empty cX6_empty 2 (some .int) :: ([.fieldLink RX6 66 "BoardNotationModel" "thrown" "I", .fieldLink RX6 127 "BoardNotationModel" "taped" "I"] ++ wsX60)
def wsX6_fits : List Cond := .code yX6_fits cX6_fits 2 (some .boolean) :: ([.methodLink RX6 69 yX6_isIn, .static yX6_isIn, .initialized RX6, .code yX6_isIn cX6_isIn 3 (some .boolean)])
def wsJ0_coder_7d493 : List Cond := .code yJ0_coder_7d493 cJ0_coder_7d493 1 (some .byte) :: ([.fieldLink RJ0 38 "java/lang/String" "COMPACT_STRINGS" "Z", .fieldLink RJ0 15 "java/lang/String" "coder" "B"])
def wsJ0_length_8abf5 : List Cond := .code yJ0_length_8abf5 cJ0_length_8abf5 1 (some .int) :: ([.fieldLink RJ0 9 "java/lang/String" "value" "[B", .methodLink RJ0 335 yJ0_coder_7d493, .instanceMethod yJ0_coder_7d493, .selects RJ0 yJ0_coder_7d493 yJ0_coder_7d493, .initialized RJ0, .code yJ0_coder_7d493 cJ0_coder_7d493 1 (some .byte), .fieldLink RJ0 38 "java/lang/String" "COMPACT_STRINGS" "Z", .fieldLink RJ0 15 "java/lang/String" "coder" "B"])
def wsJ0_isLatin1_aae02 : List Cond := .code yJ0_isLatin1_aae02 cJ0_isLatin1_aae02 1 (some .boolean) :: ([.fieldLink RJ0 38 "java/lang/String" "COMPACT_STRINGS" "Z", .fieldLink RJ0 15 "java/lang/String" "coder" "B"])
def wsJ3_checkIndex_8e157 : List Cond := .code yJ3_checkIndex_8e157 cJ3_checkIndex_8e157 3 (some .int) :: ([])
def wsJ0_checkIndex_df160 : List Cond := .code yJ0_checkIndex_df160 cJ0_checkIndex_df160 2 none :: ([.fieldLink RJ0 1053 "jdk/internal/util/Preconditions" "SIOOBE_FORMATTER" "Ljava/util/function/BiFunction;", .methodLink RJ0 1059 yJ3_checkIndex_8e157, .static yJ3_checkIndex_8e157, .initialized RJ3, .code yJ3_checkIndex_8e157 cJ3_checkIndex_8e157 3 (some .int)])
def wsJ1_charAt_3b067 : List Cond := .code yJ1_charAt_3b067 cJ1_charAt_3b067 2 (some .char) :: ([.methodLink RJ1 9 yJ0_checkIndex_df160, .static yJ0_checkIndex_df160, .initialized RJ0, .code yJ0_checkIndex_df160 cJ0_checkIndex_df160 2 none, .fieldLink RJ0 1053 "jdk/internal/util/Preconditions" "SIOOBE_FORMATTER" "Ljava/util/function/BiFunction;", .methodLink RJ0 1059 yJ3_checkIndex_8e157, .static yJ3_checkIndex_8e157, .initialized RJ3, .code yJ3_checkIndex_8e157 cJ3_checkIndex_8e157 3 (some .int)])
def wsJ2_length_9d52b : List Cond := .code yJ2_length_9d52b cJ2_length_9d52b 1 (some .int) :: ([])
def wsJ2_checkIndex_2214a : List Cond := .code yJ2_checkIndex_2214a cJ2_checkIndex_2214a 2 none :: ([.methodLink RJ2 48 yJ2_length_9d52b, .static yJ2_length_9d52b, .initialized RJ2, .code yJ2_length_9d52b cJ2_length_9d52b 1 (some .int), .methodLink RJ2 414 yJ0_checkIndex_df160, .static yJ0_checkIndex_df160, .initialized RJ0, .code yJ0_checkIndex_df160 cJ0_checkIndex_df160 2 none, .fieldLink RJ0 1053 "jdk/internal/util/Preconditions" "SIOOBE_FORMATTER" "Ljava/util/function/BiFunction;", .methodLink RJ0 1059 yJ3_checkIndex_8e157, .static yJ3_checkIndex_8e157, .initialized RJ3, .code yJ3_checkIndex_8e157 cJ3_checkIndex_8e157 3 (some .int)])
def wsJ2_getChar_3b067 : List Cond := .code yJ2_getChar_3b067 cJ2_getChar_3b067 2 (some .char) :: ([.fieldLink RJ2 44 "java/lang/StringUTF16" "$assertionsDisabled" "Z", .fieldLink RJ2 59 "java/lang/StringUTF16" "HI_BYTE_SHIFT" "I", .fieldLink RJ2 63 "java/lang/StringUTF16" "LO_BYTE_SHIFT" "I", .methodLink RJ2 48 yJ2_length_9d52b, .static yJ2_length_9d52b, .initialized RJ2, .code yJ2_length_9d52b cJ2_length_9d52b 1 (some .int)])
def wsJ2_charAt_3b067 : List Cond := .code yJ2_charAt_3b067 cJ2_charAt_3b067 2 (some .char) :: ([.methodLink RJ2 67 yJ2_checkIndex_2214a, .static yJ2_checkIndex_2214a, .initialized RJ2, .code yJ2_checkIndex_2214a cJ2_checkIndex_2214a 2 none, .methodLink RJ2 48 yJ2_length_9d52b, .static yJ2_length_9d52b, .code yJ2_length_9d52b cJ2_length_9d52b 1 (some .int), .methodLink RJ2 414 yJ0_checkIndex_df160, .static yJ0_checkIndex_df160, .initialized RJ0, .code yJ0_checkIndex_df160 cJ0_checkIndex_df160 2 none, .fieldLink RJ0 1053 "jdk/internal/util/Preconditions" "SIOOBE_FORMATTER" "Ljava/util/function/BiFunction;", .methodLink RJ0 1059 yJ3_checkIndex_8e157, .static yJ3_checkIndex_8e157, .initialized RJ3, .code yJ3_checkIndex_8e157 cJ3_checkIndex_8e157 3 (some .int), .methodLink RJ2 71 yJ2_getChar_3b067, .static yJ2_getChar_3b067, .code yJ2_getChar_3b067 cJ2_getChar_3b067 2 (some .char), .fieldLink RJ2 44 "java/lang/StringUTF16" "$assertionsDisabled" "Z", .fieldLink RJ2 59 "java/lang/StringUTF16" "HI_BYTE_SHIFT" "I", .fieldLink RJ2 63 "java/lang/StringUTF16" "LO_BYTE_SHIFT" "I"])
def wsJ0_charAt_5068e_r1 : List Cond := [Cond.fieldLink RJ0 9 "java/lang/String" "value" "[B", Cond.methodLink RJ0 492 yJ0_isLatin1_aae02, Cond.instanceMethod yJ0_isLatin1_aae02, Cond.selects RJ0 yJ0_isLatin1_aae02 yJ0_isLatin1_aae02, Cond.initialized RJ0, Cond.code yJ0_isLatin1_aae02 cJ0_isLatin1_aae02 1 (some .boolean), Cond.fieldLink RJ0 38 "java/lang/String" "COMPACT_STRINGS" "Z", Cond.fieldLink RJ0 15 "java/lang/String" "coder" "B", Cond.methodLink RJ0 495 yJ1_charAt_3b067, Cond.static yJ1_charAt_3b067, Cond.initialized RJ1, Cond.code yJ1_charAt_3b067 cJ1_charAt_3b067 2 (some .char), Cond.methodLink RJ1 9 yJ0_checkIndex_df160, Cond.static yJ0_checkIndex_df160, Cond.code yJ0_checkIndex_df160 cJ0_checkIndex_df160 2 none, Cond.fieldLink RJ0 1053 "jdk/internal/util/Preconditions" "SIOOBE_FORMATTER" "Ljava/util/function/BiFunction;", Cond.methodLink RJ0 1059 yJ3_checkIndex_8e157, Cond.static yJ3_checkIndex_8e157, Cond.initialized RJ3, Cond.code yJ3_checkIndex_8e157 cJ3_checkIndex_8e157 3 (some .int), Cond.methodLink RJ0 498 yJ2_charAt_3b067, Cond.static yJ2_charAt_3b067, Cond.initialized RJ2, Cond.code yJ2_charAt_3b067 cJ2_charAt_3b067 2 (some .char)]
def wsJ0_charAt_5068e_r2 : List Cond := [Cond.methodLink RJ2 67 yJ2_checkIndex_2214a, Cond.static yJ2_checkIndex_2214a, Cond.code yJ2_checkIndex_2214a cJ2_checkIndex_2214a 2 none, Cond.methodLink RJ2 48 yJ2_length_9d52b, Cond.static yJ2_length_9d52b, Cond.code yJ2_length_9d52b cJ2_length_9d52b 1 (some .int), Cond.methodLink RJ2 414 yJ0_checkIndex_df160, Cond.methodLink RJ2 71 yJ2_getChar_3b067, Cond.static yJ2_getChar_3b067, Cond.code yJ2_getChar_3b067 cJ2_getChar_3b067 2 (some .char), Cond.fieldLink RJ2 44 "java/lang/StringUTF16" "$assertionsDisabled" "Z", Cond.fieldLink RJ2 59 "java/lang/StringUTF16" "HI_BYTE_SHIFT" "I", Cond.fieldLink RJ2 63 "java/lang/StringUTF16" "LO_BYTE_SHIFT" "I"]
def wsJ0_charAt_5068e : List Cond := .code yJ0_charAt_5068e cJ0_charAt_5068e 2 (some .char) :: ((wsJ0_charAt_5068e_r1 ++ wsJ0_charAt_5068e_r2))
def wsX6_findForm_r1 : List Cond := [Cond.fieldLink RX6 146 "BoardNotationModel" "form" "I", Cond.fieldLink RX6 149 "BoardNotationModel" "badAt" "I", Cond.fieldLink RX6 39 "BoardNotationModel" "tape" "[I", Cond.fieldLink RX6 152 "BoardNotationModel" "FORMS" "[Ljava/lang/String;", Cond.methodLink RX6 169 Lib.Math.max.name, Cond.static Lib.Math.max.name, Cond.initialized "java/lang/Math", Cond.code Lib.Math.max.name Lib.Math.max.code 2 (some .int), Cond.methodLink RX6 69 yX6_isIn, Cond.static yX6_isIn, Cond.initialized RX6, Cond.code yX6_isIn cX6_isIn 3 (some .boolean), Cond.methodLink RX6 156 yJ0_length_8abf5, Cond.instanceMethod yJ0_length_8abf5, Cond.selects RJ0 yJ0_length_8abf5 yJ0_length_8abf5, Cond.initialized RJ0, Cond.code yJ0_length_8abf5 cJ0_length_8abf5 1 (some .int), Cond.fieldLink RJ0 9 "java/lang/String" "value" "[B", Cond.methodLink RJ0 335 yJ0_coder_7d493, Cond.instanceMethod yJ0_coder_7d493, Cond.selects RJ0 yJ0_coder_7d493 yJ0_coder_7d493, Cond.code yJ0_coder_7d493 cJ0_coder_7d493 1 (some .byte), Cond.fieldLink RJ0 38 "java/lang/String" "COMPACT_STRINGS" "Z", Cond.fieldLink RJ0 15 "java/lang/String" "coder" "B"]
def wsX6_findForm_r2 : List Cond := [Cond.methodLink RX6 161 yJ0_charAt_5068e, Cond.instanceMethod yJ0_charAt_5068e, Cond.selects RJ0 yJ0_charAt_5068e yJ0_charAt_5068e, Cond.code yJ0_charAt_5068e cJ0_charAt_5068e 2 (some .char), Cond.methodLink RJ0 492 yJ0_isLatin1_aae02, Cond.instanceMethod yJ0_isLatin1_aae02, Cond.selects RJ0 yJ0_isLatin1_aae02 yJ0_isLatin1_aae02, Cond.code yJ0_isLatin1_aae02 cJ0_isLatin1_aae02 1 (some .boolean), Cond.methodLink RJ0 495 yJ1_charAt_3b067, Cond.static yJ1_charAt_3b067, Cond.initialized RJ1, Cond.code yJ1_charAt_3b067 cJ1_charAt_3b067 2 (some .char), Cond.methodLink RJ1 9 yJ0_checkIndex_df160, Cond.static yJ0_checkIndex_df160, Cond.code yJ0_checkIndex_df160 cJ0_checkIndex_df160 2 none, Cond.fieldLink RJ0 1053 "jdk/internal/util/Preconditions" "SIOOBE_FORMATTER" "Ljava/util/function/BiFunction;", Cond.methodLink RJ0 1059 yJ3_checkIndex_8e157, Cond.static yJ3_checkIndex_8e157, Cond.initialized RJ3, Cond.code yJ3_checkIndex_8e157 cJ3_checkIndex_8e157 3 (some .int), Cond.methodLink RJ0 498 yJ2_charAt_3b067, Cond.static yJ2_charAt_3b067, Cond.initialized RJ2, Cond.code yJ2_charAt_3b067 cJ2_charAt_3b067 2 (some .char)]
def wsX6_findForm_r3 : List Cond := [Cond.methodLink RJ2 67 yJ2_checkIndex_2214a, Cond.static yJ2_checkIndex_2214a, Cond.code yJ2_checkIndex_2214a cJ2_checkIndex_2214a 2 none, Cond.methodLink RJ2 48 yJ2_length_9d52b, Cond.static yJ2_length_9d52b, Cond.code yJ2_length_9d52b cJ2_length_9d52b 1 (some .int), Cond.methodLink RJ2 414 yJ0_checkIndex_df160, Cond.methodLink RJ2 71 yJ2_getChar_3b067, Cond.static yJ2_getChar_3b067, Cond.code yJ2_getChar_3b067 cJ2_getChar_3b067 2 (some .char), Cond.fieldLink RJ2 44 "java/lang/StringUTF16" "$assertionsDisabled" "Z", Cond.fieldLink RJ2 59 "java/lang/StringUTF16" "HI_BYTE_SHIFT" "I", Cond.fieldLink RJ2 63 "java/lang/StringUTF16" "LO_BYTE_SHIFT" "I", Cond.methodLink RX6 165 yX6_fits, Cond.static yX6_fits, Cond.code yX6_fits cX6_fits 2 (some .boolean)]
def wsX6_findForm : List Cond := .code yX6_findForm cX6_findForm 6 (some .boolean) :: ((wsX6_findForm_r1 ++ (wsX6_findForm_r2 ++ wsX6_findForm_r3)) ++ wsX60)
def wsJ1_canEncode_9a6ad : List Cond := .code yJ1_canEncode_9a6ad cJ1_canEncode_9a6ad 1 (some .boolean) :: ([])
def wsJ1_indexOfChar_4cfef : List Cond := .code yJ1_indexOfChar_4cfef cJ1_indexOfChar_4cfef 6 (some .int) :: ([])
def wsJ1_indexOf_4cfef : List Cond := .code yJ1_indexOf_4cfef cJ1_indexOf_4cfef 4 (some .int) :: ([.methodLink RJ1 92 Lib.Math.max.name, .static Lib.Math.max.name, .initialized "java/lang/Math", .code Lib.Math.max.name Lib.Math.max.code 2 (some .int), .methodLink RJ1 38 Lib.Math.min.name, .static Lib.Math.min.name, .code Lib.Math.min.name Lib.Math.min.code 2 (some .int), .methodLink RJ1 88 yJ1_canEncode_9a6ad, .static yJ1_canEncode_9a6ad, .initialized RJ1, .code yJ1_canEncode_9a6ad cJ1_canEncode_9a6ad 1 (some .boolean), .methodLink RJ1 95 yJ1_indexOfChar_4cfef, .static yJ1_indexOfChar_4cfef, .code yJ1_indexOfChar_4cfef cJ1_indexOfChar_4cfef 6 (some .int)])
def wsJ3_checkFromToIndex_8c36e : List Cond := .code yJ3_checkFromToIndex_8c36e cJ3_checkFromToIndex_8c36e 4 (some .int) :: ([])
def wsJ0_checkBoundsBeginEnd_23922 : List Cond := .code yJ0_checkBoundsBeginEnd_23922 cJ0_checkBoundsBeginEnd_23922 3 none :: ([.fieldLink RJ0 1053 "jdk/internal/util/Preconditions" "SIOOBE_FORMATTER" "Ljava/util/function/BiFunction;", .methodLink RJ0 1062 yJ3_checkFromToIndex_8c36e, .static yJ3_checkFromToIndex_8c36e, .initialized RJ3, .code yJ3_checkFromToIndex_8c36e cJ3_checkFromToIndex_8c36e 4 (some .int)])
def wsJ2_checkBoundsBeginEnd_d044e : List Cond := .code yJ2_checkBoundsBeginEnd_d044e cJ2_checkBoundsBeginEnd_d044e 3 none :: ([.methodLink RJ2 48 yJ2_length_9d52b, .static yJ2_length_9d52b, .initialized RJ2, .code yJ2_length_9d52b cJ2_length_9d52b 1 (some .int), .methodLink RJ2 241 yJ0_checkBoundsBeginEnd_23922, .static yJ0_checkBoundsBeginEnd_23922, .initialized RJ0, .code yJ0_checkBoundsBeginEnd_23922 cJ0_checkBoundsBeginEnd_23922 3 none, .fieldLink RJ0 1053 "jdk/internal/util/Preconditions" "SIOOBE_FORMATTER" "Ljava/util/function/BiFunction;", .methodLink RJ0 1062 yJ3_checkFromToIndex_8c36e, .static yJ3_checkFromToIndex_8c36e, .initialized RJ3, .code yJ3_checkFromToIndex_8c36e cJ3_checkFromToIndex_8c36e 4 (some .int)])
def wsJ2_indexOfCharUnsafe_4cfef : List Cond := .code yJ2_indexOfCharUnsafe_4cfef cJ2_indexOfCharUnsafe_4cfef 5 (some .int) :: ([.methodLink RJ2 71 yJ2_getChar_3b067, .static yJ2_getChar_3b067, .initialized RJ2, .code yJ2_getChar_3b067 cJ2_getChar_3b067 2 (some .char), .fieldLink RJ2 44 "java/lang/StringUTF16" "$assertionsDisabled" "Z", .fieldLink RJ2 59 "java/lang/StringUTF16" "HI_BYTE_SHIFT" "I", .fieldLink RJ2 63 "java/lang/StringUTF16" "LO_BYTE_SHIFT" "I", .methodLink RJ2 48 yJ2_length_9d52b, .static yJ2_length_9d52b, .code yJ2_length_9d52b cJ2_length_9d52b 1 (some .int)])
def wsJ2_indexOfChar_4cfef_r1 : List Cond := [Cond.methodLink RJ2 96 yJ2_checkBoundsBeginEnd_d044e, Cond.static yJ2_checkBoundsBeginEnd_d044e, Cond.initialized RJ2, Cond.code yJ2_checkBoundsBeginEnd_d044e cJ2_checkBoundsBeginEnd_d044e 3 none, Cond.methodLink RJ2 48 yJ2_length_9d52b, Cond.static yJ2_length_9d52b, Cond.code yJ2_length_9d52b cJ2_length_9d52b 1 (some .int), Cond.methodLink RJ2 241 yJ0_checkBoundsBeginEnd_23922, Cond.static yJ0_checkBoundsBeginEnd_23922, Cond.initialized RJ0, Cond.code yJ0_checkBoundsBeginEnd_23922 cJ0_checkBoundsBeginEnd_23922 3 none, Cond.fieldLink RJ0 1053 "jdk/internal/util/Preconditions" "SIOOBE_FORMATTER" "Ljava/util/function/BiFunction;", Cond.methodLink RJ0 1062 yJ3_checkFromToIndex_8c36e, Cond.static yJ3_checkFromToIndex_8c36e, Cond.initialized RJ3, Cond.code yJ3_checkFromToIndex_8c36e cJ3_checkFromToIndex_8c36e 4 (some .int), Cond.methodLink RJ2 244 yJ2_indexOfCharUnsafe_4cfef, Cond.static yJ2_indexOfCharUnsafe_4cfef, Cond.code yJ2_indexOfCharUnsafe_4cfef cJ2_indexOfCharUnsafe_4cfef 5 (some .int), Cond.methodLink RJ2 71 yJ2_getChar_3b067, Cond.static yJ2_getChar_3b067, Cond.code yJ2_getChar_3b067 cJ2_getChar_3b067 2 (some .char), Cond.fieldLink RJ2 44 "java/lang/StringUTF16" "$assertionsDisabled" "Z", Cond.fieldLink RJ2 59 "java/lang/StringUTF16" "HI_BYTE_SHIFT" "I"]
def wsJ2_indexOfChar_4cfef_r2 : List Cond := [Cond.fieldLink RJ2 63 "java/lang/StringUTF16" "LO_BYTE_SHIFT" "I"]
def wsJ2_indexOfChar_4cfef : List Cond := .code yJ2_indexOfChar_4cfef cJ2_indexOfChar_4cfef 4 (some .int) :: ((wsJ2_indexOfChar_4cfef_r1 ++ wsJ2_indexOfChar_4cfef_r2))
def wsJ11_isValidCodePoint_9a6ad : List Cond := .code yJ11_isValidCodePoint_9a6ad cJ11_isValidCodePoint_9a6ad 2 (some .boolean) :: ([])
def wsJ11_highSurrogate_5068e : List Cond := .code yJ11_highSurrogate_5068e cJ11_highSurrogate_5068e 1 (some .char) :: ([.constant RJ11 110 (55232)])
def wsJ11_lowSurrogate_5068e : List Cond := .code yJ11_lowSurrogate_5068e cJ11_lowSurrogate_5068e 1 (some .char) :: ([.constant RJ11 76 (56320)])
def wsJ2_indexOfSupplementary_4cfef_r1 : List Cond := [Cond.methodLink RJ2 164 yJ11_isValidCodePoint_9a6ad, Cond.static yJ11_isValidCodePoint_9a6ad, Cond.initialized RJ11, Cond.code yJ11_isValidCodePoint_9a6ad cJ11_isValidCodePoint_9a6ad 2 (some .boolean), Cond.methodLink RJ2 157 yJ11_highSurrogate_5068e, Cond.static yJ11_highSurrogate_5068e, Cond.code yJ11_highSurrogate_5068e cJ11_highSurrogate_5068e 1 (some .char), Cond.constant RJ11 110 (55232), Cond.methodLink RJ2 161 yJ11_lowSurrogate_5068e, Cond.static yJ11_lowSurrogate_5068e, Cond.code yJ11_lowSurrogate_5068e cJ11_lowSurrogate_5068e 1 (some .char), Cond.constant RJ11 76 (56320), Cond.methodLink RJ2 96 yJ2_checkBoundsBeginEnd_d044e, Cond.static yJ2_checkBoundsBeginEnd_d044e, Cond.initialized RJ2, Cond.code yJ2_checkBoundsBeginEnd_d044e cJ2_checkBoundsBeginEnd_d044e 3 none, Cond.methodLink RJ2 48 yJ2_length_9d52b, Cond.static yJ2_length_9d52b, Cond.code yJ2_length_9d52b cJ2_length_9d52b 1 (some .int), Cond.methodLink RJ2 241 yJ0_checkBoundsBeginEnd_23922, Cond.static yJ0_checkBoundsBeginEnd_23922, Cond.initialized RJ0, Cond.code yJ0_checkBoundsBeginEnd_23922 cJ0_checkBoundsBeginEnd_23922 3 none, Cond.fieldLink RJ0 1053 "jdk/internal/util/Preconditions" "SIOOBE_FORMATTER" "Ljava/util/function/BiFunction;"]
def wsJ2_indexOfSupplementary_4cfef_r2 : List Cond := [Cond.methodLink RJ0 1062 yJ3_checkFromToIndex_8c36e, Cond.static yJ3_checkFromToIndex_8c36e, Cond.initialized RJ3, Cond.code yJ3_checkFromToIndex_8c36e cJ3_checkFromToIndex_8c36e 4 (some .int), Cond.methodLink RJ2 71 yJ2_getChar_3b067, Cond.static yJ2_getChar_3b067, Cond.code yJ2_getChar_3b067 cJ2_getChar_3b067 2 (some .char), Cond.fieldLink RJ2 44 "java/lang/StringUTF16" "$assertionsDisabled" "Z", Cond.fieldLink RJ2 59 "java/lang/StringUTF16" "HI_BYTE_SHIFT" "I", Cond.fieldLink RJ2 63 "java/lang/StringUTF16" "LO_BYTE_SHIFT" "I"]
def wsJ2_indexOfSupplementary_4cfef : List Cond := .code yJ2_indexOfSupplementary_4cfef cJ2_indexOfSupplementary_4cfef 7 (some .int) :: ((wsJ2_indexOfSupplementary_4cfef_r1 ++ wsJ2_indexOfSupplementary_4cfef_r2))
def wsJ2_indexOf_4cfef_r1 : List Cond := [Cond.methodLink RJ2 224 Lib.Math.max.name, Cond.static Lib.Math.max.name, Cond.initialized "java/lang/Math", Cond.code Lib.Math.max.name Lib.Math.max.code 2 (some .int), Cond.methodLink RJ2 183 Lib.Math.min.name, Cond.static Lib.Math.min.name, Cond.code Lib.Math.min.name Lib.Math.min.code 2 (some .int), Cond.constant RJ2 227 (65536), Cond.methodLink RJ2 228 yJ2_indexOfChar_4cfef, Cond.static yJ2_indexOfChar_4cfef, Cond.initialized RJ2, Cond.code yJ2_indexOfChar_4cfef cJ2_indexOfChar_4cfef 4 (some .int), Cond.methodLink RJ2 96 yJ2_checkBoundsBeginEnd_d044e, Cond.static yJ2_checkBoundsBeginEnd_d044e, Cond.code yJ2_checkBoundsBeginEnd_d044e cJ2_checkBoundsBeginEnd_d044e 3 none, Cond.methodLink RJ2 48 yJ2_length_9d52b, Cond.static yJ2_length_9d52b, Cond.code yJ2_length_9d52b cJ2_length_9d52b 1 (some .int), Cond.methodLink RJ2 241 yJ0_checkBoundsBeginEnd_23922, Cond.static yJ0_checkBoundsBeginEnd_23922, Cond.initialized RJ0, Cond.code yJ0_checkBoundsBeginEnd_23922 cJ0_checkBoundsBeginEnd_23922 3 none, Cond.fieldLink RJ0 1053 "jdk/internal/util/Preconditions" "SIOOBE_FORMATTER" "Ljava/util/function/BiFunction;", Cond.methodLink RJ0 1062 yJ3_checkFromToIndex_8c36e]
def wsJ2_indexOf_4cfef_r2 : List Cond := [Cond.static yJ3_checkFromToIndex_8c36e, Cond.initialized RJ3, Cond.code yJ3_checkFromToIndex_8c36e cJ3_checkFromToIndex_8c36e 4 (some .int), Cond.methodLink RJ2 244 yJ2_indexOfCharUnsafe_4cfef, Cond.static yJ2_indexOfCharUnsafe_4cfef, Cond.code yJ2_indexOfCharUnsafe_4cfef cJ2_indexOfCharUnsafe_4cfef 5 (some .int), Cond.methodLink RJ2 71 yJ2_getChar_3b067, Cond.static yJ2_getChar_3b067, Cond.code yJ2_getChar_3b067 cJ2_getChar_3b067 2 (some .char), Cond.fieldLink RJ2 44 "java/lang/StringUTF16" "$assertionsDisabled" "Z", Cond.fieldLink RJ2 59 "java/lang/StringUTF16" "HI_BYTE_SHIFT" "I", Cond.fieldLink RJ2 63 "java/lang/StringUTF16" "LO_BYTE_SHIFT" "I", Cond.methodLink RJ2 232 yJ2_indexOfSupplementary_4cfef, Cond.static yJ2_indexOfSupplementary_4cfef, Cond.code yJ2_indexOfSupplementary_4cfef cJ2_indexOfSupplementary_4cfef 7 (some .int), Cond.methodLink RJ2 164 yJ11_isValidCodePoint_9a6ad, Cond.static yJ11_isValidCodePoint_9a6ad, Cond.initialized RJ11, Cond.code yJ11_isValidCodePoint_9a6ad cJ11_isValidCodePoint_9a6ad 2 (some .boolean), Cond.methodLink RJ2 157 yJ11_highSurrogate_5068e, Cond.static yJ11_highSurrogate_5068e, Cond.code yJ11_highSurrogate_5068e cJ11_highSurrogate_5068e 1 (some .char), Cond.constant RJ11 110 (55232), Cond.methodLink RJ2 161 yJ11_lowSurrogate_5068e]
def wsJ2_indexOf_4cfef_r3 : List Cond := [Cond.static yJ11_lowSurrogate_5068e, Cond.code yJ11_lowSurrogate_5068e cJ11_lowSurrogate_5068e 1 (some .char), Cond.constant RJ11 76 (56320)]
def wsJ2_indexOf_4cfef : List Cond := .code yJ2_indexOf_4cfef cJ2_indexOf_4cfef 4 (some .int) :: ((wsJ2_indexOf_4cfef_r1 ++ (wsJ2_indexOf_4cfef_r2 ++ wsJ2_indexOf_4cfef_r3)))
def wsJ0_indexOf_7cf53_r1 : List Cond := [Cond.fieldLink RJ0 9 "java/lang/String" "value" "[B", Cond.methodLink RJ0 492 yJ0_isLatin1_aae02, Cond.instanceMethod yJ0_isLatin1_aae02, Cond.selects RJ0 yJ0_isLatin1_aae02 yJ0_isLatin1_aae02, Cond.initialized RJ0, Cond.code yJ0_isLatin1_aae02 cJ0_isLatin1_aae02 1 (some .boolean), Cond.fieldLink RJ0 38 "java/lang/String" "COMPACT_STRINGS" "Z", Cond.fieldLink RJ0 15 "java/lang/String" "coder" "B", Cond.methodLink RJ0 505 yJ0_length_8abf5, Cond.instanceMethod yJ0_length_8abf5, Cond.selects RJ0 yJ0_length_8abf5 yJ0_length_8abf5, Cond.code yJ0_length_8abf5 cJ0_length_8abf5 1 (some .int), Cond.methodLink RJ0 335 yJ0_coder_7d493, Cond.instanceMethod yJ0_coder_7d493, Cond.selects RJ0 yJ0_coder_7d493 yJ0_coder_7d493, Cond.code yJ0_coder_7d493 cJ0_coder_7d493 1 (some .byte), Cond.methodLink RJ0 637 yJ1_indexOf_4cfef, Cond.static yJ1_indexOf_4cfef, Cond.initialized RJ1, Cond.code yJ1_indexOf_4cfef cJ1_indexOf_4cfef 4 (some .int), Cond.methodLink RJ1 92 Lib.Math.max.name, Cond.static Lib.Math.max.name, Cond.initialized "java/lang/Math", Cond.code Lib.Math.max.name Lib.Math.max.code 2 (some .int)]
def wsJ0_indexOf_7cf53_r2 : List Cond := [Cond.methodLink RJ1 38 Lib.Math.min.name, Cond.static Lib.Math.min.name, Cond.code Lib.Math.min.name Lib.Math.min.code 2 (some .int), Cond.methodLink RJ1 88 yJ1_canEncode_9a6ad, Cond.static yJ1_canEncode_9a6ad, Cond.code yJ1_canEncode_9a6ad cJ1_canEncode_9a6ad 1 (some .boolean), Cond.methodLink RJ1 95 yJ1_indexOfChar_4cfef, Cond.static yJ1_indexOfChar_4cfef, Cond.code yJ1_indexOfChar_4cfef cJ1_indexOfChar_4cfef 6 (some .int), Cond.methodLink RJ0 640 yJ2_indexOf_4cfef, Cond.static yJ2_indexOf_4cfef, Cond.initialized RJ2, Cond.code yJ2_indexOf_4cfef cJ2_indexOf_4cfef 4 (some .int), Cond.methodLink RJ2 224 Lib.Math.max.name, Cond.methodLink RJ2 183 Lib.Math.min.name, Cond.constant RJ2 227 (65536), Cond.methodLink RJ2 228 yJ2_indexOfChar_4cfef, Cond.static yJ2_indexOfChar_4cfef, Cond.code yJ2_indexOfChar_4cfef cJ2_indexOfChar_4cfef 4 (some .int), Cond.methodLink RJ2 96 yJ2_checkBoundsBeginEnd_d044e, Cond.static yJ2_checkBoundsBeginEnd_d044e, Cond.code yJ2_checkBoundsBeginEnd_d044e cJ2_checkBoundsBeginEnd_d044e 3 none, Cond.methodLink RJ2 48 yJ2_length_9d52b, Cond.static yJ2_length_9d52b]
def wsJ0_indexOf_7cf53_r3 : List Cond := [Cond.code yJ2_length_9d52b cJ2_length_9d52b 1 (some .int), Cond.methodLink RJ2 241 yJ0_checkBoundsBeginEnd_23922, Cond.static yJ0_checkBoundsBeginEnd_23922, Cond.code yJ0_checkBoundsBeginEnd_23922 cJ0_checkBoundsBeginEnd_23922 3 none, Cond.fieldLink RJ0 1053 "jdk/internal/util/Preconditions" "SIOOBE_FORMATTER" "Ljava/util/function/BiFunction;", Cond.methodLink RJ0 1062 yJ3_checkFromToIndex_8c36e, Cond.static yJ3_checkFromToIndex_8c36e, Cond.initialized RJ3, Cond.code yJ3_checkFromToIndex_8c36e cJ3_checkFromToIndex_8c36e 4 (some .int), Cond.methodLink RJ2 244 yJ2_indexOfCharUnsafe_4cfef, Cond.static yJ2_indexOfCharUnsafe_4cfef, Cond.code yJ2_indexOfCharUnsafe_4cfef cJ2_indexOfCharUnsafe_4cfef 5 (some .int), Cond.methodLink RJ2 71 yJ2_getChar_3b067, Cond.static yJ2_getChar_3b067, Cond.code yJ2_getChar_3b067 cJ2_getChar_3b067 2 (some .char), Cond.fieldLink RJ2 44 "java/lang/StringUTF16" "$assertionsDisabled" "Z", Cond.fieldLink RJ2 59 "java/lang/StringUTF16" "HI_BYTE_SHIFT" "I", Cond.fieldLink RJ2 63 "java/lang/StringUTF16" "LO_BYTE_SHIFT" "I", Cond.methodLink RJ2 232 yJ2_indexOfSupplementary_4cfef, Cond.static yJ2_indexOfSupplementary_4cfef, Cond.code yJ2_indexOfSupplementary_4cfef cJ2_indexOfSupplementary_4cfef 7 (some .int), Cond.methodLink RJ2 164 yJ11_isValidCodePoint_9a6ad, Cond.static yJ11_isValidCodePoint_9a6ad, Cond.initialized RJ11]
def wsJ0_indexOf_7cf53_r4 : List Cond := [Cond.code yJ11_isValidCodePoint_9a6ad cJ11_isValidCodePoint_9a6ad 2 (some .boolean), Cond.methodLink RJ2 157 yJ11_highSurrogate_5068e, Cond.static yJ11_highSurrogate_5068e, Cond.code yJ11_highSurrogate_5068e cJ11_highSurrogate_5068e 1 (some .char), Cond.constant RJ11 110 (55232), Cond.methodLink RJ2 161 yJ11_lowSurrogate_5068e, Cond.static yJ11_lowSurrogate_5068e, Cond.code yJ11_lowSurrogate_5068e cJ11_lowSurrogate_5068e 1 (some .char), Cond.constant RJ11 76 (56320)]
def wsJ0_indexOf_7cf53 : List Cond := .code yJ0_indexOf_7cf53 cJ0_indexOf_7cf53 3 (some .int) :: ((wsJ0_indexOf_7cf53_r1 ++ (wsJ0_indexOf_7cf53_r2 ++ (wsJ0_indexOf_7cf53_r3 ++ wsJ0_indexOf_7cf53_r4))))
def wsJ0_indexOf_0f7a4_r1 : List Cond := [Cond.methodLink RJ0 633 yJ0_indexOf_7cf53, Cond.instanceMethod yJ0_indexOf_7cf53, Cond.selects RJ0 yJ0_indexOf_7cf53 yJ0_indexOf_7cf53, Cond.initialized RJ0, Cond.code yJ0_indexOf_7cf53 cJ0_indexOf_7cf53 3 (some .int), Cond.fieldLink RJ0 9 "java/lang/String" "value" "[B", Cond.methodLink RJ0 492 yJ0_isLatin1_aae02, Cond.instanceMethod yJ0_isLatin1_aae02, Cond.selects RJ0 yJ0_isLatin1_aae02 yJ0_isLatin1_aae02, Cond.code yJ0_isLatin1_aae02 cJ0_isLatin1_aae02 1 (some .boolean), Cond.fieldLink RJ0 38 "java/lang/String" "COMPACT_STRINGS" "Z", Cond.fieldLink RJ0 15 "java/lang/String" "coder" "B", Cond.methodLink RJ0 505 yJ0_length_8abf5, Cond.instanceMethod yJ0_length_8abf5, Cond.selects RJ0 yJ0_length_8abf5 yJ0_length_8abf5, Cond.code yJ0_length_8abf5 cJ0_length_8abf5 1 (some .int), Cond.methodLink RJ0 335 yJ0_coder_7d493, Cond.instanceMethod yJ0_coder_7d493, Cond.selects RJ0 yJ0_coder_7d493 yJ0_coder_7d493, Cond.code yJ0_coder_7d493 cJ0_coder_7d493 1 (some .byte), Cond.methodLink RJ0 637 yJ1_indexOf_4cfef, Cond.static yJ1_indexOf_4cfef, Cond.initialized RJ1, Cond.code yJ1_indexOf_4cfef cJ1_indexOf_4cfef 4 (some .int)]
def wsJ0_indexOf_0f7a4_r2 : List Cond := [Cond.methodLink RJ1 92 Lib.Math.max.name, Cond.static Lib.Math.max.name, Cond.initialized "java/lang/Math", Cond.code Lib.Math.max.name Lib.Math.max.code 2 (some .int), Cond.methodLink RJ1 38 Lib.Math.min.name, Cond.static Lib.Math.min.name, Cond.code Lib.Math.min.name Lib.Math.min.code 2 (some .int), Cond.methodLink RJ1 88 yJ1_canEncode_9a6ad, Cond.static yJ1_canEncode_9a6ad, Cond.code yJ1_canEncode_9a6ad cJ1_canEncode_9a6ad 1 (some .boolean), Cond.methodLink RJ1 95 yJ1_indexOfChar_4cfef, Cond.static yJ1_indexOfChar_4cfef, Cond.code yJ1_indexOfChar_4cfef cJ1_indexOfChar_4cfef 6 (some .int), Cond.methodLink RJ0 640 yJ2_indexOf_4cfef, Cond.static yJ2_indexOf_4cfef, Cond.initialized RJ2, Cond.code yJ2_indexOf_4cfef cJ2_indexOf_4cfef 4 (some .int), Cond.methodLink RJ2 224 Lib.Math.max.name, Cond.methodLink RJ2 183 Lib.Math.min.name, Cond.constant RJ2 227 (65536), Cond.methodLink RJ2 228 yJ2_indexOfChar_4cfef, Cond.static yJ2_indexOfChar_4cfef, Cond.code yJ2_indexOfChar_4cfef cJ2_indexOfChar_4cfef 4 (some .int), Cond.methodLink RJ2 96 yJ2_checkBoundsBeginEnd_d044e]
def wsJ0_indexOf_0f7a4_r3 : List Cond := [Cond.static yJ2_checkBoundsBeginEnd_d044e, Cond.code yJ2_checkBoundsBeginEnd_d044e cJ2_checkBoundsBeginEnd_d044e 3 none, Cond.methodLink RJ2 48 yJ2_length_9d52b, Cond.static yJ2_length_9d52b, Cond.code yJ2_length_9d52b cJ2_length_9d52b 1 (some .int), Cond.methodLink RJ2 241 yJ0_checkBoundsBeginEnd_23922, Cond.static yJ0_checkBoundsBeginEnd_23922, Cond.code yJ0_checkBoundsBeginEnd_23922 cJ0_checkBoundsBeginEnd_23922 3 none, Cond.fieldLink RJ0 1053 "jdk/internal/util/Preconditions" "SIOOBE_FORMATTER" "Ljava/util/function/BiFunction;", Cond.methodLink RJ0 1062 yJ3_checkFromToIndex_8c36e, Cond.static yJ3_checkFromToIndex_8c36e, Cond.initialized RJ3, Cond.code yJ3_checkFromToIndex_8c36e cJ3_checkFromToIndex_8c36e 4 (some .int), Cond.methodLink RJ2 244 yJ2_indexOfCharUnsafe_4cfef, Cond.static yJ2_indexOfCharUnsafe_4cfef, Cond.code yJ2_indexOfCharUnsafe_4cfef cJ2_indexOfCharUnsafe_4cfef 5 (some .int), Cond.methodLink RJ2 71 yJ2_getChar_3b067, Cond.static yJ2_getChar_3b067, Cond.code yJ2_getChar_3b067 cJ2_getChar_3b067 2 (some .char), Cond.fieldLink RJ2 44 "java/lang/StringUTF16" "$assertionsDisabled" "Z", Cond.fieldLink RJ2 59 "java/lang/StringUTF16" "HI_BYTE_SHIFT" "I", Cond.fieldLink RJ2 63 "java/lang/StringUTF16" "LO_BYTE_SHIFT" "I", Cond.methodLink RJ2 232 yJ2_indexOfSupplementary_4cfef, Cond.static yJ2_indexOfSupplementary_4cfef]
def wsJ0_indexOf_0f7a4_r4 : List Cond := [Cond.code yJ2_indexOfSupplementary_4cfef cJ2_indexOfSupplementary_4cfef 7 (some .int), Cond.methodLink RJ2 164 yJ11_isValidCodePoint_9a6ad, Cond.static yJ11_isValidCodePoint_9a6ad, Cond.initialized RJ11, Cond.code yJ11_isValidCodePoint_9a6ad cJ11_isValidCodePoint_9a6ad 2 (some .boolean), Cond.methodLink RJ2 157 yJ11_highSurrogate_5068e, Cond.static yJ11_highSurrogate_5068e, Cond.code yJ11_highSurrogate_5068e cJ11_highSurrogate_5068e 1 (some .char), Cond.constant RJ11 110 (55232), Cond.methodLink RJ2 161 yJ11_lowSurrogate_5068e, Cond.static yJ11_lowSurrogate_5068e, Cond.code yJ11_lowSurrogate_5068e cJ11_lowSurrogate_5068e 1 (some .char), Cond.constant RJ11 76 (56320)]
def wsJ0_indexOf_0f7a4 : List Cond := .code yJ0_indexOf_0f7a4 cJ0_indexOf_0f7a4 2 (some .int) :: ((wsJ0_indexOf_0f7a4_r1 ++ (wsJ0_indexOf_0f7a4_r2 ++ (wsJ0_indexOf_0f7a4_r3 ++ wsJ0_indexOf_0f7a4_r4))))
def wsJ1_lastIndexOf_7d655 : List Cond := .code yJ1_lastIndexOf_7d655 cJ1_lastIndexOf_7d655 4 (some .int) :: ([.methodLink RJ1 38 Lib.Math.min.name, .static Lib.Math.min.name, .initialized "java/lang/Math", .code Lib.Math.min.name Lib.Math.min.code 2 (some .int), .methodLink RJ1 88 yJ1_canEncode_9a6ad, .static yJ1_canEncode_9a6ad, .initialized RJ1, .code yJ1_canEncode_9a6ad cJ1_canEncode_9a6ad 1 (some .boolean)])
def wsJ2_lastIndexOfSupplementary_7d655_r1 : List Cond := [Cond.methodLink RJ2 183 Lib.Math.min.name, Cond.static Lib.Math.min.name, Cond.initialized "java/lang/Math", Cond.code Lib.Math.min.name Lib.Math.min.code 2 (some .int), Cond.methodLink RJ2 164 yJ11_isValidCodePoint_9a6ad, Cond.static yJ11_isValidCodePoint_9a6ad, Cond.initialized RJ11, Cond.code yJ11_isValidCodePoint_9a6ad cJ11_isValidCodePoint_9a6ad 2 (some .boolean), Cond.methodLink RJ2 157 yJ11_highSurrogate_5068e, Cond.static yJ11_highSurrogate_5068e, Cond.code yJ11_highSurrogate_5068e cJ11_highSurrogate_5068e 1 (some .char), Cond.constant RJ11 110 (55232), Cond.methodLink RJ2 161 yJ11_lowSurrogate_5068e, Cond.static yJ11_lowSurrogate_5068e, Cond.code yJ11_lowSurrogate_5068e cJ11_lowSurrogate_5068e 1 (some .char), Cond.constant RJ11 76 (56320), Cond.methodLink RJ2 71 yJ2_getChar_3b067, Cond.static yJ2_getChar_3b067, Cond.initialized RJ2, Cond.code yJ2_getChar_3b067 cJ2_getChar_3b067 2 (some .char), Cond.fieldLink RJ2 44 "java/lang/StringUTF16" "$assertionsDisabled" "Z", Cond.fieldLink RJ2 59 "java/lang/StringUTF16" "HI_BYTE_SHIFT" "I", Cond.fieldLink RJ2 63 "java/lang/StringUTF16" "LO_BYTE_SHIFT" "I", Cond.methodLink RJ2 48 yJ2_length_9d52b]
def wsJ2_lastIndexOfSupplementary_7d655_r2 : List Cond := [Cond.static yJ2_length_9d52b, Cond.code yJ2_length_9d52b cJ2_length_9d52b 1 (some .int)]
def wsJ2_lastIndexOfSupplementary_7d655 : List Cond := .code yJ2_lastIndexOfSupplementary_7d655 cJ2_lastIndexOfSupplementary_7d655 6 (some .int) :: ((wsJ2_lastIndexOfSupplementary_7d655_r1 ++ wsJ2_lastIndexOfSupplementary_7d655_r2))
def wsJ2_lastIndexOf_7d655_r1 : List Cond := [Cond.constant RJ2 227 (65536), Cond.methodLink RJ2 183 Lib.Math.min.name, Cond.static Lib.Math.min.name, Cond.initialized "java/lang/Math", Cond.code Lib.Math.min.name Lib.Math.min.code 2 (some .int), Cond.methodLink RJ2 71 yJ2_getChar_3b067, Cond.static yJ2_getChar_3b067, Cond.initialized RJ2, Cond.code yJ2_getChar_3b067 cJ2_getChar_3b067 2 (some .char), Cond.fieldLink RJ2 44 "java/lang/StringUTF16" "$assertionsDisabled" "Z", Cond.fieldLink RJ2 59 "java/lang/StringUTF16" "HI_BYTE_SHIFT" "I", Cond.fieldLink RJ2 63 "java/lang/StringUTF16" "LO_BYTE_SHIFT" "I", Cond.methodLink RJ2 48 yJ2_length_9d52b, Cond.static yJ2_length_9d52b, Cond.code yJ2_length_9d52b cJ2_length_9d52b 1 (some .int), Cond.methodLink RJ2 247 yJ2_lastIndexOfSupplementary_7d655, Cond.static yJ2_lastIndexOfSupplementary_7d655, Cond.code yJ2_lastIndexOfSupplementary_7d655 cJ2_lastIndexOfSupplementary_7d655 6 (some .int), Cond.methodLink RJ2 164 yJ11_isValidCodePoint_9a6ad, Cond.static yJ11_isValidCodePoint_9a6ad, Cond.initialized RJ11, Cond.code yJ11_isValidCodePoint_9a6ad cJ11_isValidCodePoint_9a6ad 2 (some .boolean), Cond.methodLink RJ2 157 yJ11_highSurrogate_5068e, Cond.static yJ11_highSurrogate_5068e]
def wsJ2_lastIndexOf_7d655_r2 : List Cond := [Cond.code yJ11_highSurrogate_5068e cJ11_highSurrogate_5068e 1 (some .char), Cond.constant RJ11 110 (55232), Cond.methodLink RJ2 161 yJ11_lowSurrogate_5068e, Cond.static yJ11_lowSurrogate_5068e, Cond.code yJ11_lowSurrogate_5068e cJ11_lowSurrogate_5068e 1 (some .char), Cond.constant RJ11 76 (56320)]
def wsJ2_lastIndexOf_7d655 : List Cond := .code yJ2_lastIndexOf_7d655 cJ2_lastIndexOf_7d655 4 (some .int) :: ((wsJ2_lastIndexOf_7d655_r1 ++ wsJ2_lastIndexOf_7d655_r2))
def wsJ0_lastIndexOf_7cf53_r1 : List Cond := [Cond.fieldLink RJ0 9 "java/lang/String" "value" "[B", Cond.methodLink RJ0 492 yJ0_isLatin1_aae02, Cond.instanceMethod yJ0_isLatin1_aae02, Cond.selects RJ0 yJ0_isLatin1_aae02 yJ0_isLatin1_aae02, Cond.initialized RJ0, Cond.code yJ0_isLatin1_aae02 cJ0_isLatin1_aae02 1 (some .boolean), Cond.fieldLink RJ0 38 "java/lang/String" "COMPACT_STRINGS" "Z", Cond.fieldLink RJ0 15 "java/lang/String" "coder" "B", Cond.methodLink RJ0 644 yJ1_lastIndexOf_7d655, Cond.static yJ1_lastIndexOf_7d655, Cond.initialized RJ1, Cond.code yJ1_lastIndexOf_7d655 cJ1_lastIndexOf_7d655 4 (some .int), Cond.methodLink RJ1 38 Lib.Math.min.name, Cond.static Lib.Math.min.name, Cond.initialized "java/lang/Math", Cond.code Lib.Math.min.name Lib.Math.min.code 2 (some .int), Cond.methodLink RJ1 88 yJ1_canEncode_9a6ad, Cond.static yJ1_canEncode_9a6ad, Cond.code yJ1_canEncode_9a6ad cJ1_canEncode_9a6ad 1 (some .boolean), Cond.methodLink RJ0 646 yJ2_lastIndexOf_7d655, Cond.static yJ2_lastIndexOf_7d655, Cond.initialized RJ2, Cond.code yJ2_lastIndexOf_7d655 cJ2_lastIndexOf_7d655 4 (some .int), Cond.constant RJ2 227 (65536)]
def wsJ0_lastIndexOf_7cf53_r2 : List Cond := [Cond.methodLink RJ2 183 Lib.Math.min.name, Cond.methodLink RJ2 71 yJ2_getChar_3b067, Cond.static yJ2_getChar_3b067, Cond.code yJ2_getChar_3b067 cJ2_getChar_3b067 2 (some .char), Cond.fieldLink RJ2 44 "java/lang/StringUTF16" "$assertionsDisabled" "Z", Cond.fieldLink RJ2 59 "java/lang/StringUTF16" "HI_BYTE_SHIFT" "I", Cond.fieldLink RJ2 63 "java/lang/StringUTF16" "LO_BYTE_SHIFT" "I", Cond.methodLink RJ2 48 yJ2_length_9d52b, Cond.static yJ2_length_9d52b, Cond.code yJ2_length_9d52b cJ2_length_9d52b 1 (some .int), Cond.methodLink RJ2 247 yJ2_lastIndexOfSupplementary_7d655, Cond.static yJ2_lastIndexOfSupplementary_7d655, Cond.code yJ2_lastIndexOfSupplementary_7d655 cJ2_lastIndexOfSupplementary_7d655 6 (some .int), Cond.methodLink RJ2 164 yJ11_isValidCodePoint_9a6ad, Cond.static yJ11_isValidCodePoint_9a6ad, Cond.initialized RJ11, Cond.code yJ11_isValidCodePoint_9a6ad cJ11_isValidCodePoint_9a6ad 2 (some .boolean), Cond.methodLink RJ2 157 yJ11_highSurrogate_5068e, Cond.static yJ11_highSurrogate_5068e, Cond.code yJ11_highSurrogate_5068e cJ11_highSurrogate_5068e 1 (some .char), Cond.constant RJ11 110 (55232), Cond.methodLink RJ2 161 yJ11_lowSurrogate_5068e, Cond.static yJ11_lowSurrogate_5068e, Cond.code yJ11_lowSurrogate_5068e cJ11_lowSurrogate_5068e 1 (some .char)]
def wsJ0_lastIndexOf_7cf53_r3 : List Cond := [Cond.constant RJ11 76 (56320)]
def wsJ0_lastIndexOf_7cf53 : List Cond := .code yJ0_lastIndexOf_7cf53 cJ0_lastIndexOf_7cf53 3 (some .int) :: ((wsJ0_lastIndexOf_7cf53_r1 ++ (wsJ0_lastIndexOf_7cf53_r2 ++ wsJ0_lastIndexOf_7cf53_r3)))
def wsJ0_lastIndexOf_0f7a4_r1 : List Cond := [Cond.methodLink RJ0 505 yJ0_length_8abf5, Cond.instanceMethod yJ0_length_8abf5, Cond.selects RJ0 yJ0_length_8abf5 yJ0_length_8abf5, Cond.initialized RJ0, Cond.code yJ0_length_8abf5 cJ0_length_8abf5 1 (some .int), Cond.fieldLink RJ0 9 "java/lang/String" "value" "[B", Cond.methodLink RJ0 335 yJ0_coder_7d493, Cond.instanceMethod yJ0_coder_7d493, Cond.selects RJ0 yJ0_coder_7d493 yJ0_coder_7d493, Cond.code yJ0_coder_7d493 cJ0_coder_7d493 1 (some .byte), Cond.fieldLink RJ0 38 "java/lang/String" "COMPACT_STRINGS" "Z", Cond.fieldLink RJ0 15 "java/lang/String" "coder" "B", Cond.methodLink RJ0 641 yJ0_lastIndexOf_7cf53, Cond.instanceMethod yJ0_lastIndexOf_7cf53, Cond.selects RJ0 yJ0_lastIndexOf_7cf53 yJ0_lastIndexOf_7cf53, Cond.code yJ0_lastIndexOf_7cf53 cJ0_lastIndexOf_7cf53 3 (some .int), Cond.methodLink RJ0 492 yJ0_isLatin1_aae02, Cond.instanceMethod yJ0_isLatin1_aae02, Cond.selects RJ0 yJ0_isLatin1_aae02 yJ0_isLatin1_aae02, Cond.code yJ0_isLatin1_aae02 cJ0_isLatin1_aae02 1 (some .boolean), Cond.methodLink RJ0 644 yJ1_lastIndexOf_7d655, Cond.static yJ1_lastIndexOf_7d655, Cond.initialized RJ1, Cond.code yJ1_lastIndexOf_7d655 cJ1_lastIndexOf_7d655 4 (some .int)]
def wsJ0_lastIndexOf_0f7a4_r2 : List Cond := [Cond.methodLink RJ1 38 Lib.Math.min.name, Cond.static Lib.Math.min.name, Cond.initialized "java/lang/Math", Cond.code Lib.Math.min.name Lib.Math.min.code 2 (some .int), Cond.methodLink RJ1 88 yJ1_canEncode_9a6ad, Cond.static yJ1_canEncode_9a6ad, Cond.code yJ1_canEncode_9a6ad cJ1_canEncode_9a6ad 1 (some .boolean), Cond.methodLink RJ0 646 yJ2_lastIndexOf_7d655, Cond.static yJ2_lastIndexOf_7d655, Cond.initialized RJ2, Cond.code yJ2_lastIndexOf_7d655 cJ2_lastIndexOf_7d655 4 (some .int), Cond.constant RJ2 227 (65536), Cond.methodLink RJ2 183 Lib.Math.min.name, Cond.methodLink RJ2 71 yJ2_getChar_3b067, Cond.static yJ2_getChar_3b067, Cond.code yJ2_getChar_3b067 cJ2_getChar_3b067 2 (some .char), Cond.fieldLink RJ2 44 "java/lang/StringUTF16" "$assertionsDisabled" "Z", Cond.fieldLink RJ2 59 "java/lang/StringUTF16" "HI_BYTE_SHIFT" "I", Cond.fieldLink RJ2 63 "java/lang/StringUTF16" "LO_BYTE_SHIFT" "I", Cond.methodLink RJ2 48 yJ2_length_9d52b, Cond.static yJ2_length_9d52b, Cond.code yJ2_length_9d52b cJ2_length_9d52b 1 (some .int), Cond.methodLink RJ2 247 yJ2_lastIndexOfSupplementary_7d655, Cond.static yJ2_lastIndexOfSupplementary_7d655]
def wsJ0_lastIndexOf_0f7a4_r3 : List Cond := [Cond.code yJ2_lastIndexOfSupplementary_7d655 cJ2_lastIndexOfSupplementary_7d655 6 (some .int), Cond.methodLink RJ2 164 yJ11_isValidCodePoint_9a6ad, Cond.static yJ11_isValidCodePoint_9a6ad, Cond.initialized RJ11, Cond.code yJ11_isValidCodePoint_9a6ad cJ11_isValidCodePoint_9a6ad 2 (some .boolean), Cond.methodLink RJ2 157 yJ11_highSurrogate_5068e, Cond.static yJ11_highSurrogate_5068e, Cond.code yJ11_highSurrogate_5068e cJ11_highSurrogate_5068e 1 (some .char), Cond.constant RJ11 110 (55232), Cond.methodLink RJ2 161 yJ11_lowSurrogate_5068e, Cond.static yJ11_lowSurrogate_5068e, Cond.code yJ11_lowSurrogate_5068e cJ11_lowSurrogate_5068e 1 (some .char), Cond.constant RJ11 76 (56320)]
def wsJ0_lastIndexOf_0f7a4 : List Cond := .code yJ0_lastIndexOf_0f7a4 cJ0_lastIndexOf_0f7a4 2 (some .int) :: ((wsJ0_lastIndexOf_0f7a4_r1 ++ (wsJ0_lastIndexOf_0f7a4_r2 ++ wsJ0_lastIndexOf_0f7a4_r3)))
def wsX6_early_r1 : List Cond := [Cond.fieldLink RX6 152 "BoardNotationModel" "FORMS" "[Ljava/lang/String;", Cond.fieldLink RX6 146 "BoardNotationModel" "form" "I", Cond.fieldLink RX6 39 "BoardNotationModel" "tape" "[I", Cond.methodLink RX6 174 yJ0_indexOf_0f7a4, Cond.instanceMethod yJ0_indexOf_0f7a4, Cond.selects RJ0 yJ0_indexOf_0f7a4 yJ0_indexOf_0f7a4, Cond.initialized RJ0, Cond.code yJ0_indexOf_0f7a4 cJ0_indexOf_0f7a4 2 (some .int), Cond.methodLink RJ0 633 yJ0_indexOf_7cf53, Cond.instanceMethod yJ0_indexOf_7cf53, Cond.selects RJ0 yJ0_indexOf_7cf53 yJ0_indexOf_7cf53, Cond.code yJ0_indexOf_7cf53 cJ0_indexOf_7cf53 3 (some .int), Cond.fieldLink RJ0 9 "java/lang/String" "value" "[B", Cond.methodLink RJ0 492 yJ0_isLatin1_aae02, Cond.instanceMethod yJ0_isLatin1_aae02, Cond.selects RJ0 yJ0_isLatin1_aae02 yJ0_isLatin1_aae02, Cond.code yJ0_isLatin1_aae02 cJ0_isLatin1_aae02 1 (some .boolean), Cond.fieldLink RJ0 38 "java/lang/String" "COMPACT_STRINGS" "Z", Cond.fieldLink RJ0 15 "java/lang/String" "coder" "B", Cond.methodLink RJ0 505 yJ0_length_8abf5, Cond.instanceMethod yJ0_length_8abf5, Cond.selects RJ0 yJ0_length_8abf5 yJ0_length_8abf5, Cond.code yJ0_length_8abf5 cJ0_length_8abf5 1 (some .int), Cond.methodLink RJ0 335 yJ0_coder_7d493]
def wsX6_early_r2 : List Cond := [Cond.instanceMethod yJ0_coder_7d493, Cond.selects RJ0 yJ0_coder_7d493 yJ0_coder_7d493, Cond.code yJ0_coder_7d493 cJ0_coder_7d493 1 (some .byte), Cond.methodLink RJ0 637 yJ1_indexOf_4cfef, Cond.static yJ1_indexOf_4cfef, Cond.initialized RJ1, Cond.code yJ1_indexOf_4cfef cJ1_indexOf_4cfef 4 (some .int), Cond.methodLink RJ1 92 Lib.Math.max.name, Cond.static Lib.Math.max.name, Cond.initialized "java/lang/Math", Cond.code Lib.Math.max.name Lib.Math.max.code 2 (some .int), Cond.methodLink RJ1 38 Lib.Math.min.name, Cond.static Lib.Math.min.name, Cond.code Lib.Math.min.name Lib.Math.min.code 2 (some .int), Cond.methodLink RJ1 88 yJ1_canEncode_9a6ad, Cond.static yJ1_canEncode_9a6ad, Cond.code yJ1_canEncode_9a6ad cJ1_canEncode_9a6ad 1 (some .boolean), Cond.methodLink RJ1 95 yJ1_indexOfChar_4cfef, Cond.static yJ1_indexOfChar_4cfef, Cond.code yJ1_indexOfChar_4cfef cJ1_indexOfChar_4cfef 6 (some .int), Cond.methodLink RJ0 640 yJ2_indexOf_4cfef, Cond.static yJ2_indexOf_4cfef, Cond.initialized RJ2, Cond.code yJ2_indexOf_4cfef cJ2_indexOf_4cfef 4 (some .int)]
def wsX6_early_r3 : List Cond := [Cond.methodLink RJ2 224 Lib.Math.max.name, Cond.methodLink RJ2 183 Lib.Math.min.name, Cond.constant RJ2 227 (65536), Cond.methodLink RJ2 228 yJ2_indexOfChar_4cfef, Cond.static yJ2_indexOfChar_4cfef, Cond.code yJ2_indexOfChar_4cfef cJ2_indexOfChar_4cfef 4 (some .int), Cond.methodLink RJ2 96 yJ2_checkBoundsBeginEnd_d044e, Cond.static yJ2_checkBoundsBeginEnd_d044e, Cond.code yJ2_checkBoundsBeginEnd_d044e cJ2_checkBoundsBeginEnd_d044e 3 none, Cond.methodLink RJ2 48 yJ2_length_9d52b, Cond.static yJ2_length_9d52b, Cond.code yJ2_length_9d52b cJ2_length_9d52b 1 (some .int), Cond.methodLink RJ2 241 yJ0_checkBoundsBeginEnd_23922, Cond.static yJ0_checkBoundsBeginEnd_23922, Cond.code yJ0_checkBoundsBeginEnd_23922 cJ0_checkBoundsBeginEnd_23922 3 none, Cond.fieldLink RJ0 1053 "jdk/internal/util/Preconditions" "SIOOBE_FORMATTER" "Ljava/util/function/BiFunction;", Cond.methodLink RJ0 1062 yJ3_checkFromToIndex_8c36e, Cond.static yJ3_checkFromToIndex_8c36e, Cond.initialized RJ3, Cond.code yJ3_checkFromToIndex_8c36e cJ3_checkFromToIndex_8c36e 4 (some .int), Cond.methodLink RJ2 244 yJ2_indexOfCharUnsafe_4cfef, Cond.static yJ2_indexOfCharUnsafe_4cfef, Cond.code yJ2_indexOfCharUnsafe_4cfef cJ2_indexOfCharUnsafe_4cfef 5 (some .int), Cond.methodLink RJ2 71 yJ2_getChar_3b067]
def wsX6_early_r4 : List Cond := [Cond.static yJ2_getChar_3b067, Cond.code yJ2_getChar_3b067 cJ2_getChar_3b067 2 (some .char), Cond.fieldLink RJ2 44 "java/lang/StringUTF16" "$assertionsDisabled" "Z", Cond.fieldLink RJ2 59 "java/lang/StringUTF16" "HI_BYTE_SHIFT" "I", Cond.fieldLink RJ2 63 "java/lang/StringUTF16" "LO_BYTE_SHIFT" "I", Cond.methodLink RJ2 232 yJ2_indexOfSupplementary_4cfef, Cond.static yJ2_indexOfSupplementary_4cfef, Cond.code yJ2_indexOfSupplementary_4cfef cJ2_indexOfSupplementary_4cfef 7 (some .int), Cond.methodLink RJ2 164 yJ11_isValidCodePoint_9a6ad, Cond.static yJ11_isValidCodePoint_9a6ad, Cond.initialized RJ11, Cond.code yJ11_isValidCodePoint_9a6ad cJ11_isValidCodePoint_9a6ad 2 (some .boolean), Cond.methodLink RJ2 157 yJ11_highSurrogate_5068e, Cond.static yJ11_highSurrogate_5068e, Cond.code yJ11_highSurrogate_5068e cJ11_highSurrogate_5068e 1 (some .char), Cond.constant RJ11 110 (55232), Cond.methodLink RJ2 161 yJ11_lowSurrogate_5068e, Cond.static yJ11_lowSurrogate_5068e, Cond.code yJ11_lowSurrogate_5068e cJ11_lowSurrogate_5068e 1 (some .char), Cond.constant RJ11 76 (56320), Cond.methodLink RX6 177 yJ0_lastIndexOf_0f7a4, Cond.instanceMethod yJ0_lastIndexOf_0f7a4, Cond.selects RJ0 yJ0_lastIndexOf_0f7a4 yJ0_lastIndexOf_0f7a4, Cond.code yJ0_lastIndexOf_0f7a4 cJ0_lastIndexOf_0f7a4 2 (some .int)]
def wsX6_early_r5 : List Cond := [Cond.methodLink RJ0 641 yJ0_lastIndexOf_7cf53, Cond.instanceMethod yJ0_lastIndexOf_7cf53, Cond.selects RJ0 yJ0_lastIndexOf_7cf53 yJ0_lastIndexOf_7cf53, Cond.code yJ0_lastIndexOf_7cf53 cJ0_lastIndexOf_7cf53 3 (some .int), Cond.methodLink RJ0 644 yJ1_lastIndexOf_7d655, Cond.static yJ1_lastIndexOf_7d655, Cond.code yJ1_lastIndexOf_7d655 cJ1_lastIndexOf_7d655 4 (some .int), Cond.methodLink RJ0 646 yJ2_lastIndexOf_7d655, Cond.static yJ2_lastIndexOf_7d655, Cond.code yJ2_lastIndexOf_7d655 cJ2_lastIndexOf_7d655 4 (some .int), Cond.methodLink RJ2 247 yJ2_lastIndexOfSupplementary_7d655, Cond.static yJ2_lastIndexOfSupplementary_7d655, Cond.code yJ2_lastIndexOfSupplementary_7d655 cJ2_lastIndexOfSupplementary_7d655 6 (some .int)]
def wsX6_early : List Cond := .code yX6_early cX6_early 5 (some .int) :: ((wsX6_early_r1 ++ (wsX6_early_r2 ++ (wsX6_early_r3 ++ (wsX6_early_r4 ++ wsX6_early_r5)))) ++ wsX60)
def wsX6_late_r1 : List Cond := [Cond.fieldLink RX6 152 "BoardNotationModel" "FORMS" "[Ljava/lang/String;", Cond.fieldLink RX6 146 "BoardNotationModel" "form" "I", Cond.fieldLink RX6 39 "BoardNotationModel" "tape" "[I", Cond.methodLink RX6 177 yJ0_lastIndexOf_0f7a4, Cond.instanceMethod yJ0_lastIndexOf_0f7a4, Cond.selects RJ0 yJ0_lastIndexOf_0f7a4 yJ0_lastIndexOf_0f7a4, Cond.initialized RJ0, Cond.code yJ0_lastIndexOf_0f7a4 cJ0_lastIndexOf_0f7a4 2 (some .int), Cond.methodLink RJ0 505 yJ0_length_8abf5, Cond.instanceMethod yJ0_length_8abf5, Cond.selects RJ0 yJ0_length_8abf5 yJ0_length_8abf5, Cond.code yJ0_length_8abf5 cJ0_length_8abf5 1 (some .int), Cond.fieldLink RJ0 9 "java/lang/String" "value" "[B", Cond.methodLink RJ0 335 yJ0_coder_7d493, Cond.instanceMethod yJ0_coder_7d493, Cond.selects RJ0 yJ0_coder_7d493 yJ0_coder_7d493, Cond.code yJ0_coder_7d493 cJ0_coder_7d493 1 (some .byte), Cond.fieldLink RJ0 38 "java/lang/String" "COMPACT_STRINGS" "Z", Cond.fieldLink RJ0 15 "java/lang/String" "coder" "B", Cond.methodLink RJ0 641 yJ0_lastIndexOf_7cf53, Cond.instanceMethod yJ0_lastIndexOf_7cf53, Cond.selects RJ0 yJ0_lastIndexOf_7cf53 yJ0_lastIndexOf_7cf53, Cond.code yJ0_lastIndexOf_7cf53 cJ0_lastIndexOf_7cf53 3 (some .int), Cond.methodLink RJ0 492 yJ0_isLatin1_aae02]
def wsX6_late_r2 : List Cond := [Cond.instanceMethod yJ0_isLatin1_aae02, Cond.selects RJ0 yJ0_isLatin1_aae02 yJ0_isLatin1_aae02, Cond.code yJ0_isLatin1_aae02 cJ0_isLatin1_aae02 1 (some .boolean), Cond.methodLink RJ0 644 yJ1_lastIndexOf_7d655, Cond.static yJ1_lastIndexOf_7d655, Cond.initialized RJ1, Cond.code yJ1_lastIndexOf_7d655 cJ1_lastIndexOf_7d655 4 (some .int), Cond.methodLink RJ1 38 Lib.Math.min.name, Cond.static Lib.Math.min.name, Cond.initialized "java/lang/Math", Cond.code Lib.Math.min.name Lib.Math.min.code 2 (some .int), Cond.methodLink RJ1 88 yJ1_canEncode_9a6ad, Cond.static yJ1_canEncode_9a6ad, Cond.code yJ1_canEncode_9a6ad cJ1_canEncode_9a6ad 1 (some .boolean), Cond.methodLink RJ0 646 yJ2_lastIndexOf_7d655, Cond.static yJ2_lastIndexOf_7d655, Cond.initialized RJ2, Cond.code yJ2_lastIndexOf_7d655 cJ2_lastIndexOf_7d655 4 (some .int), Cond.constant RJ2 227 (65536), Cond.methodLink RJ2 183 Lib.Math.min.name, Cond.methodLink RJ2 71 yJ2_getChar_3b067, Cond.static yJ2_getChar_3b067, Cond.code yJ2_getChar_3b067 cJ2_getChar_3b067 2 (some .char), Cond.fieldLink RJ2 44 "java/lang/StringUTF16" "$assertionsDisabled" "Z"]
def wsX6_late_r3 : List Cond := [Cond.fieldLink RJ2 59 "java/lang/StringUTF16" "HI_BYTE_SHIFT" "I", Cond.fieldLink RJ2 63 "java/lang/StringUTF16" "LO_BYTE_SHIFT" "I", Cond.methodLink RJ2 48 yJ2_length_9d52b, Cond.static yJ2_length_9d52b, Cond.code yJ2_length_9d52b cJ2_length_9d52b 1 (some .int), Cond.methodLink RJ2 247 yJ2_lastIndexOfSupplementary_7d655, Cond.static yJ2_lastIndexOfSupplementary_7d655, Cond.code yJ2_lastIndexOfSupplementary_7d655 cJ2_lastIndexOfSupplementary_7d655 6 (some .int), Cond.methodLink RJ2 164 yJ11_isValidCodePoint_9a6ad, Cond.static yJ11_isValidCodePoint_9a6ad, Cond.initialized RJ11, Cond.code yJ11_isValidCodePoint_9a6ad cJ11_isValidCodePoint_9a6ad 2 (some .boolean), Cond.methodLink RJ2 157 yJ11_highSurrogate_5068e, Cond.static yJ11_highSurrogate_5068e, Cond.code yJ11_highSurrogate_5068e cJ11_highSurrogate_5068e 1 (some .char), Cond.constant RJ11 110 (55232), Cond.methodLink RJ2 161 yJ11_lowSurrogate_5068e, Cond.static yJ11_lowSurrogate_5068e, Cond.code yJ11_lowSurrogate_5068e cJ11_lowSurrogate_5068e 1 (some .char), Cond.constant RJ11 76 (56320)]
def wsX6_late : List Cond := .code yX6_late cX6_late 4 (some .int) :: ((wsX6_late_r1 ++ (wsX6_late_r2 ++ wsX6_late_r3)) ++ wsX60)
def wsX6_sign_r1 : List Cond := [Cond.fieldLink RX6 22 "BoardNotationModel" "board" "[I", Cond.methodLink RX6 98 yX6_sideOf, Cond.static yX6_sideOf, Cond.initialized RX6, Cond.code yX6_sideOf cX6_sideOf 1 (some .int), Cond.methodLink RX6 91 yX6_play, Cond.static yX6_play, Cond.code yX6_play cX6_play 3 none, Cond.methodLink RX6 112 yX6_isChecked, Cond.instanceMethod yX6_isChecked, Cond.selects RX6 yX6_isChecked yX6_isChecked, Cond.code yX6_isChecked cX6_isChecked 5 (some .boolean), Cond.methodLink RX6 108 yX6_reaches, Cond.instanceMethod yX6_reaches, Cond.selects RX6 yX6_reaches yX6_reaches, Cond.code yX6_reaches cX6_reaches 9 (some .boolean), Cond.fieldLink RX6 13 "BoardNotationModel" "manySteps" "[I", Cond.methodLink RX6 101 yX6_reach, Cond.instanceMethod yX6_reach, Cond.selects RX6 yX6_reach yX6_reach, Cond.code yX6_reach cX6_reach 3 (some .int), Cond.fieldLink RX6 16 "BoardNotationModel" "steps" "[I", Cond.methodLink RX6 104 yX6_target, Cond.instanceMethod yX6_target]
def wsX6_sign_r2 : List Cond := [Cond.selects RX6 yX6_target yX6_target, Cond.code yX6_target cX6_target 8 (some .int), Cond.methodLink RX6 69 yX6_isIn, Cond.static yX6_isIn, Cond.code yX6_isIn cX6_isIn 3 (some .boolean), Cond.methodLink RX6 124 yX6_legalMoves, Cond.instanceMethod yX6_legalMoves, Cond.selects RX6 yX6_legalMoves yX6_legalMoves, Cond.code yX6_legalMoves cX6_legalMoves 6 (some .int), Cond.methodLink RX6 116 yX6_isLegal, Cond.instanceMethod yX6_isLegal, Cond.selects RX6 yX6_isLegal yX6_isLegal, Cond.code yX6_isLegal cX6_isLegal 3 (some .boolean), Cond.fieldLink RX6 25 "BoardNotationModel" "trial" "[I", Cond.methodLink RX6 60 arraycopyName, Cond.native arraycopyName, Cond.static arraycopyName, Cond.initialized "java/lang/System"]
def wsX6_sign : List Cond := .code yX6_sign cX6_sign 6 (some .int) :: ((wsX6_sign_r1 ++ wsX6_sign_r2) ++ wsX60)
def wsX6_readMove_r1 : List Cond := [Cond.fieldLink RX6 149 "BoardNotationModel" "badAt" "I", Cond.fieldLink RX6 39 "BoardNotationModel" "tape" "[I", Cond.fieldLink RX6 187 "BoardNotationModel" "to" "I", Cond.fieldLink RX6 22 "BoardNotationModel" "board" "[I", Cond.fieldLink RX6 193 "BoardNotationModel" "from" "I", Cond.methodLink RX6 180 yX6_findForm, Cond.instanceMethod yX6_findForm, Cond.selects RX6 yX6_findForm yX6_findForm, Cond.initialized RX6, Cond.code yX6_findForm cX6_findForm 6 (some .boolean), Cond.fieldLink RX6 146 "BoardNotationModel" "form" "I", Cond.fieldLink RX6 152 "BoardNotationModel" "FORMS" "[Ljava/lang/String;", Cond.methodLink RX6 169 Lib.Math.max.name, Cond.static Lib.Math.max.name, Cond.initialized "java/lang/Math", Cond.code Lib.Math.max.name Lib.Math.max.code 2 (some .int), Cond.methodLink RX6 69 yX6_isIn, Cond.static yX6_isIn, Cond.code yX6_isIn cX6_isIn 3 (some .boolean), Cond.methodLink RX6 156 yJ0_length_8abf5, Cond.instanceMethod yJ0_length_8abf5, Cond.selects RJ0 yJ0_length_8abf5 yJ0_length_8abf5, Cond.initialized RJ0, Cond.code yJ0_length_8abf5 cJ0_length_8abf5 1 (some .int)]
def wsX6_readMove_r2 : List Cond := [Cond.fieldLink RJ0 9 "java/lang/String" "value" "[B", Cond.methodLink RJ0 335 yJ0_coder_7d493, Cond.instanceMethod yJ0_coder_7d493, Cond.selects RJ0 yJ0_coder_7d493 yJ0_coder_7d493, Cond.code yJ0_coder_7d493 cJ0_coder_7d493 1 (some .byte), Cond.fieldLink RJ0 38 "java/lang/String" "COMPACT_STRINGS" "Z", Cond.fieldLink RJ0 15 "java/lang/String" "coder" "B", Cond.methodLink RX6 161 yJ0_charAt_5068e, Cond.instanceMethod yJ0_charAt_5068e, Cond.selects RJ0 yJ0_charAt_5068e yJ0_charAt_5068e, Cond.code yJ0_charAt_5068e cJ0_charAt_5068e 2 (some .char), Cond.methodLink RJ0 492 yJ0_isLatin1_aae02, Cond.instanceMethod yJ0_isLatin1_aae02, Cond.selects RJ0 yJ0_isLatin1_aae02 yJ0_isLatin1_aae02, Cond.code yJ0_isLatin1_aae02 cJ0_isLatin1_aae02 1 (some .boolean), Cond.methodLink RJ0 495 yJ1_charAt_3b067, Cond.static yJ1_charAt_3b067, Cond.initialized RJ1, Cond.code yJ1_charAt_3b067 cJ1_charAt_3b067 2 (some .char), Cond.methodLink RJ1 9 yJ0_checkIndex_df160, Cond.static yJ0_checkIndex_df160, Cond.code yJ0_checkIndex_df160 cJ0_checkIndex_df160 2 none, Cond.fieldLink RJ0 1053 "jdk/internal/util/Preconditions" "SIOOBE_FORMATTER" "Ljava/util/function/BiFunction;", Cond.methodLink RJ0 1059 yJ3_checkIndex_8e157]
def wsX6_readMove_r3 : List Cond := [Cond.static yJ3_checkIndex_8e157, Cond.initialized RJ3, Cond.code yJ3_checkIndex_8e157 cJ3_checkIndex_8e157 3 (some .int), Cond.methodLink RJ0 498 yJ2_charAt_3b067, Cond.static yJ2_charAt_3b067, Cond.initialized RJ2, Cond.code yJ2_charAt_3b067 cJ2_charAt_3b067 2 (some .char), Cond.methodLink RJ2 67 yJ2_checkIndex_2214a, Cond.static yJ2_checkIndex_2214a, Cond.code yJ2_checkIndex_2214a cJ2_checkIndex_2214a 2 none, Cond.methodLink RJ2 48 yJ2_length_9d52b, Cond.static yJ2_length_9d52b, Cond.code yJ2_length_9d52b cJ2_length_9d52b 1 (some .int), Cond.methodLink RJ2 414 yJ0_checkIndex_df160, Cond.methodLink RJ2 71 yJ2_getChar_3b067, Cond.static yJ2_getChar_3b067, Cond.code yJ2_getChar_3b067 cJ2_getChar_3b067 2 (some .char), Cond.fieldLink RJ2 44 "java/lang/StringUTF16" "$assertionsDisabled" "Z", Cond.fieldLink RJ2 59 "java/lang/StringUTF16" "HI_BYTE_SHIFT" "I", Cond.fieldLink RJ2 63 "java/lang/StringUTF16" "LO_BYTE_SHIFT" "I", Cond.methodLink RX6 165 yX6_fits, Cond.static yX6_fits, Cond.code yX6_fits cX6_fits 2 (some .boolean), Cond.methodLink RX6 73 yX6_kindOf]
def wsX6_readMove_r4 : List Cond := [Cond.instanceMethod yX6_kindOf, Cond.selects RX6 yX6_kindOf yX6_kindOf, Cond.code yX6_kindOf cX6_kindOf 3 (some .int), Cond.fieldLink RX6 80 "BoardNotationModel" "kinds" "I", Cond.fieldLink RX6 9 "BoardNotationModel" "letters" "[I", Cond.methodLink RX6 183 yX6_late, Cond.instanceMethod yX6_late, Cond.selects RX6 yX6_late yX6_late, Cond.code yX6_late cX6_late 4 (some .int), Cond.methodLink RX6 177 yJ0_lastIndexOf_0f7a4, Cond.instanceMethod yJ0_lastIndexOf_0f7a4, Cond.selects RJ0 yJ0_lastIndexOf_0f7a4 yJ0_lastIndexOf_0f7a4, Cond.code yJ0_lastIndexOf_0f7a4 cJ0_lastIndexOf_0f7a4 2 (some .int), Cond.methodLink RJ0 505 yJ0_length_8abf5, Cond.methodLink RJ0 641 yJ0_lastIndexOf_7cf53, Cond.instanceMethod yJ0_lastIndexOf_7cf53, Cond.selects RJ0 yJ0_lastIndexOf_7cf53 yJ0_lastIndexOf_7cf53, Cond.code yJ0_lastIndexOf_7cf53 cJ0_lastIndexOf_7cf53 3 (some .int), Cond.methodLink RJ0 644 yJ1_lastIndexOf_7d655, Cond.static yJ1_lastIndexOf_7d655, Cond.code yJ1_lastIndexOf_7d655 cJ1_lastIndexOf_7d655 4 (some .int), Cond.methodLink RJ1 38 Lib.Math.min.name, Cond.static Lib.Math.min.name, Cond.code Lib.Math.min.name Lib.Math.min.code 2 (some .int)]
def wsX6_readMove_r5 : List Cond := [Cond.methodLink RJ1 88 yJ1_canEncode_9a6ad, Cond.static yJ1_canEncode_9a6ad, Cond.code yJ1_canEncode_9a6ad cJ1_canEncode_9a6ad 1 (some .boolean), Cond.methodLink RJ0 646 yJ2_lastIndexOf_7d655, Cond.static yJ2_lastIndexOf_7d655, Cond.code yJ2_lastIndexOf_7d655 cJ2_lastIndexOf_7d655 4 (some .int), Cond.constant RJ2 227 (65536), Cond.methodLink RJ2 183 Lib.Math.min.name, Cond.methodLink RJ2 247 yJ2_lastIndexOfSupplementary_7d655, Cond.static yJ2_lastIndexOfSupplementary_7d655, Cond.code yJ2_lastIndexOfSupplementary_7d655 cJ2_lastIndexOfSupplementary_7d655 6 (some .int), Cond.methodLink RJ2 164 yJ11_isValidCodePoint_9a6ad, Cond.static yJ11_isValidCodePoint_9a6ad, Cond.initialized RJ11, Cond.code yJ11_isValidCodePoint_9a6ad cJ11_isValidCodePoint_9a6ad 2 (some .boolean), Cond.methodLink RJ2 157 yJ11_highSurrogate_5068e, Cond.static yJ11_highSurrogate_5068e, Cond.code yJ11_highSurrogate_5068e cJ11_highSurrogate_5068e 1 (some .char), Cond.constant RJ11 110 (55232), Cond.methodLink RJ2 161 yJ11_lowSurrogate_5068e, Cond.static yJ11_lowSurrogate_5068e, Cond.code yJ11_lowSurrogate_5068e cJ11_lowSurrogate_5068e 1 (some .char), Cond.constant RJ11 76 (56320), Cond.methodLink RX6 190 yX6_early]
def wsX6_readMove_r6 : List Cond := [Cond.instanceMethod yX6_early, Cond.selects RX6 yX6_early yX6_early, Cond.code yX6_early cX6_early 5 (some .int), Cond.methodLink RX6 174 yJ0_indexOf_0f7a4, Cond.instanceMethod yJ0_indexOf_0f7a4, Cond.selects RJ0 yJ0_indexOf_0f7a4 yJ0_indexOf_0f7a4, Cond.code yJ0_indexOf_0f7a4 cJ0_indexOf_0f7a4 2 (some .int), Cond.methodLink RJ0 633 yJ0_indexOf_7cf53, Cond.instanceMethod yJ0_indexOf_7cf53, Cond.selects RJ0 yJ0_indexOf_7cf53 yJ0_indexOf_7cf53, Cond.code yJ0_indexOf_7cf53 cJ0_indexOf_7cf53 3 (some .int), Cond.methodLink RJ0 637 yJ1_indexOf_4cfef, Cond.static yJ1_indexOf_4cfef, Cond.code yJ1_indexOf_4cfef cJ1_indexOf_4cfef 4 (some .int), Cond.methodLink RJ1 92 Lib.Math.max.name, Cond.methodLink RJ1 95 yJ1_indexOfChar_4cfef, Cond.static yJ1_indexOfChar_4cfef, Cond.code yJ1_indexOfChar_4cfef cJ1_indexOfChar_4cfef 6 (some .int), Cond.methodLink RJ0 640 yJ2_indexOf_4cfef, Cond.static yJ2_indexOf_4cfef, Cond.code yJ2_indexOf_4cfef cJ2_indexOf_4cfef 4 (some .int), Cond.methodLink RJ2 224 Lib.Math.max.name, Cond.methodLink RJ2 228 yJ2_indexOfChar_4cfef, Cond.static yJ2_indexOfChar_4cfef]
def wsX6_readMove_r7 : List Cond := [Cond.code yJ2_indexOfChar_4cfef cJ2_indexOfChar_4cfef 4 (some .int), Cond.methodLink RJ2 96 yJ2_checkBoundsBeginEnd_d044e, Cond.static yJ2_checkBoundsBeginEnd_d044e, Cond.code yJ2_checkBoundsBeginEnd_d044e cJ2_checkBoundsBeginEnd_d044e 3 none, Cond.methodLink RJ2 241 yJ0_checkBoundsBeginEnd_23922, Cond.static yJ0_checkBoundsBeginEnd_23922, Cond.code yJ0_checkBoundsBeginEnd_23922 cJ0_checkBoundsBeginEnd_23922 3 none, Cond.methodLink RJ0 1062 yJ3_checkFromToIndex_8c36e, Cond.static yJ3_checkFromToIndex_8c36e, Cond.code yJ3_checkFromToIndex_8c36e cJ3_checkFromToIndex_8c36e 4 (some .int), Cond.methodLink RJ2 244 yJ2_indexOfCharUnsafe_4cfef, Cond.static yJ2_indexOfCharUnsafe_4cfef, Cond.code yJ2_indexOfCharUnsafe_4cfef cJ2_indexOfCharUnsafe_4cfef 5 (some .int), Cond.methodLink RJ2 232 yJ2_indexOfSupplementary_4cfef, Cond.static yJ2_indexOfSupplementary_4cfef, Cond.code yJ2_indexOfSupplementary_4cfef cJ2_indexOfSupplementary_4cfef 7 (some .int), Cond.methodLink RX6 120 yX6_turn, Cond.instanceMethod yX6_turn, Cond.selects RX6 yX6_turn yX6_turn, Cond.code yX6_turn cX6_turn 1 (some .int), Cond.fieldLink RX6 95 "BoardNotationModel" "present" "I", Cond.methodLink RX6 87 yX6_get, Cond.instanceMethod yX6_get, Cond.selects RX6 yX6_get yX6_get]
def wsX6_readMove_r8 : List Cond := [Cond.code yX6_get cX6_get 3 (some .int), Cond.fieldLink RX6 32 "BoardNotationModel" "table" "[I", Cond.methodLink RX6 108 yX6_reaches, Cond.instanceMethod yX6_reaches, Cond.selects RX6 yX6_reaches yX6_reaches, Cond.code yX6_reaches cX6_reaches 9 (some .boolean), Cond.fieldLink RX6 13 "BoardNotationModel" "manySteps" "[I", Cond.methodLink RX6 98 yX6_sideOf, Cond.static yX6_sideOf, Cond.code yX6_sideOf cX6_sideOf 1 (some .int), Cond.methodLink RX6 101 yX6_reach, Cond.instanceMethod yX6_reach, Cond.selects RX6 yX6_reach yX6_reach, Cond.code yX6_reach cX6_reach 3 (some .int), Cond.fieldLink RX6 16 "BoardNotationModel" "steps" "[I", Cond.methodLink RX6 104 yX6_target, Cond.instanceMethod yX6_target, Cond.selects RX6 yX6_target yX6_target, Cond.code yX6_target cX6_target 8 (some .int), Cond.methodLink RX6 116 yX6_isLegal, Cond.instanceMethod yX6_isLegal, Cond.selects RX6 yX6_isLegal yX6_isLegal, Cond.code yX6_isLegal cX6_isLegal 3 (some .boolean), Cond.fieldLink RX6 25 "BoardNotationModel" "trial" "[I"]
def wsX6_readMove_r9 : List Cond := [Cond.methodLink RX6 60 arraycopyName, Cond.native arraycopyName, Cond.static arraycopyName, Cond.initialized "java/lang/System", Cond.methodLink RX6 91 yX6_play, Cond.static yX6_play, Cond.code yX6_play cX6_play 3 none, Cond.methodLink RX6 112 yX6_isChecked, Cond.instanceMethod yX6_isChecked, Cond.selects RX6 yX6_isChecked yX6_isChecked, Cond.code yX6_isChecked cX6_isChecked 5 (some .boolean), Cond.methodLink RX6 196 yX6_sign, Cond.instanceMethod yX6_sign, Cond.selects RX6 yX6_sign yX6_sign, Cond.code yX6_sign cX6_sign 6 (some .int), Cond.methodLink RX6 124 yX6_legalMoves, Cond.instanceMethod yX6_legalMoves, Cond.selects RX6 yX6_legalMoves yX6_legalMoves, Cond.code yX6_legalMoves cX6_legalMoves 6 (some .int)]
def wsX6_readMove : List Cond := .code yX6_readMove cX6_readMove 10 (some .int) :: ((wsX6_readMove_r1 ++ (wsX6_readMove_r2 ++ (wsX6_readMove_r3 ++ (wsX6_readMove_r4 ++ (wsX6_readMove_r5 ++ (wsX6_readMove_r6 ++ (wsX6_readMove_r7 ++ (wsX6_readMove_r8 ++ wsX6_readMove_r9)))))))) ++ wsX60)
def wsX6_read_r1 : List Cond := [Cond.fieldLink RX6 66 "BoardNotationModel" "thrown" "I", Cond.fieldLink RX6 127 "BoardNotationModel" "taped" "I", Cond.fieldLink RX6 149 "BoardNotationModel" "badAt" "I", Cond.fieldLink RX6 42 "BoardNotationModel" "errorAt" "I", Cond.fieldLink RX6 193 "BoardNotationModel" "from" "I", Cond.fieldLink RX6 45 "BoardNotationModel" "readFrom" "I", Cond.fieldLink RX6 187 "BoardNotationModel" "to" "I", Cond.fieldLink RX6 48 "BoardNotationModel" "readTo" "I", Cond.methodLink RX6 199 yX6_readMove, Cond.instanceMethod yX6_readMove, Cond.selects RX6 yX6_readMove yX6_readMove, Cond.initialized RX6, Cond.code yX6_readMove cX6_readMove 10 (some .int), Cond.fieldLink RX6 39 "BoardNotationModel" "tape" "[I", Cond.fieldLink RX6 22 "BoardNotationModel" "board" "[I", Cond.methodLink RX6 180 yX6_findForm, Cond.instanceMethod yX6_findForm, Cond.selects RX6 yX6_findForm yX6_findForm, Cond.code yX6_findForm cX6_findForm 6 (some .boolean), Cond.fieldLink RX6 146 "BoardNotationModel" "form" "I", Cond.fieldLink RX6 152 "BoardNotationModel" "FORMS" "[Ljava/lang/String;", Cond.methodLink RX6 169 Lib.Math.max.name, Cond.static Lib.Math.max.name, Cond.initialized "java/lang/Math"]
def wsX6_read_r2 : List Cond := [Cond.code Lib.Math.max.name Lib.Math.max.code 2 (some .int), Cond.methodLink RX6 69 yX6_isIn, Cond.static yX6_isIn, Cond.code yX6_isIn cX6_isIn 3 (some .boolean), Cond.methodLink RX6 156 yJ0_length_8abf5, Cond.instanceMethod yJ0_length_8abf5, Cond.selects RJ0 yJ0_length_8abf5 yJ0_length_8abf5, Cond.initialized RJ0, Cond.code yJ0_length_8abf5 cJ0_length_8abf5 1 (some .int), Cond.fieldLink RJ0 9 "java/lang/String" "value" "[B", Cond.methodLink RJ0 335 yJ0_coder_7d493, Cond.instanceMethod yJ0_coder_7d493, Cond.selects RJ0 yJ0_coder_7d493 yJ0_coder_7d493, Cond.code yJ0_coder_7d493 cJ0_coder_7d493 1 (some .byte), Cond.fieldLink RJ0 38 "java/lang/String" "COMPACT_STRINGS" "Z", Cond.fieldLink RJ0 15 "java/lang/String" "coder" "B", Cond.methodLink RX6 161 yJ0_charAt_5068e, Cond.instanceMethod yJ0_charAt_5068e, Cond.selects RJ0 yJ0_charAt_5068e yJ0_charAt_5068e, Cond.code yJ0_charAt_5068e cJ0_charAt_5068e 2 (some .char), Cond.methodLink RJ0 492 yJ0_isLatin1_aae02, Cond.instanceMethod yJ0_isLatin1_aae02, Cond.selects RJ0 yJ0_isLatin1_aae02 yJ0_isLatin1_aae02, Cond.code yJ0_isLatin1_aae02 cJ0_isLatin1_aae02 1 (some .boolean)]
def wsX6_read_r3 : List Cond := [Cond.methodLink RJ0 495 yJ1_charAt_3b067, Cond.static yJ1_charAt_3b067, Cond.initialized RJ1, Cond.code yJ1_charAt_3b067 cJ1_charAt_3b067 2 (some .char), Cond.methodLink RJ1 9 yJ0_checkIndex_df160, Cond.static yJ0_checkIndex_df160, Cond.code yJ0_checkIndex_df160 cJ0_checkIndex_df160 2 none, Cond.fieldLink RJ0 1053 "jdk/internal/util/Preconditions" "SIOOBE_FORMATTER" "Ljava/util/function/BiFunction;", Cond.methodLink RJ0 1059 yJ3_checkIndex_8e157, Cond.static yJ3_checkIndex_8e157, Cond.initialized RJ3, Cond.code yJ3_checkIndex_8e157 cJ3_checkIndex_8e157 3 (some .int), Cond.methodLink RJ0 498 yJ2_charAt_3b067, Cond.static yJ2_charAt_3b067, Cond.initialized RJ2, Cond.code yJ2_charAt_3b067 cJ2_charAt_3b067 2 (some .char), Cond.methodLink RJ2 67 yJ2_checkIndex_2214a, Cond.static yJ2_checkIndex_2214a, Cond.code yJ2_checkIndex_2214a cJ2_checkIndex_2214a 2 none, Cond.methodLink RJ2 48 yJ2_length_9d52b, Cond.static yJ2_length_9d52b, Cond.code yJ2_length_9d52b cJ2_length_9d52b 1 (some .int), Cond.methodLink RJ2 414 yJ0_checkIndex_df160, Cond.methodLink RJ2 71 yJ2_getChar_3b067]
def wsX6_read_r4 : List Cond := [Cond.static yJ2_getChar_3b067, Cond.code yJ2_getChar_3b067 cJ2_getChar_3b067 2 (some .char), Cond.fieldLink RJ2 44 "java/lang/StringUTF16" "$assertionsDisabled" "Z", Cond.fieldLink RJ2 59 "java/lang/StringUTF16" "HI_BYTE_SHIFT" "I", Cond.fieldLink RJ2 63 "java/lang/StringUTF16" "LO_BYTE_SHIFT" "I", Cond.methodLink RX6 165 yX6_fits, Cond.static yX6_fits, Cond.code yX6_fits cX6_fits 2 (some .boolean), Cond.methodLink RX6 73 yX6_kindOf, Cond.instanceMethod yX6_kindOf, Cond.selects RX6 yX6_kindOf yX6_kindOf, Cond.code yX6_kindOf cX6_kindOf 3 (some .int), Cond.fieldLink RX6 80 "BoardNotationModel" "kinds" "I", Cond.fieldLink RX6 9 "BoardNotationModel" "letters" "[I", Cond.methodLink RX6 183 yX6_late, Cond.instanceMethod yX6_late, Cond.selects RX6 yX6_late yX6_late, Cond.code yX6_late cX6_late 4 (some .int), Cond.methodLink RX6 177 yJ0_lastIndexOf_0f7a4, Cond.instanceMethod yJ0_lastIndexOf_0f7a4, Cond.selects RJ0 yJ0_lastIndexOf_0f7a4 yJ0_lastIndexOf_0f7a4, Cond.code yJ0_lastIndexOf_0f7a4 cJ0_lastIndexOf_0f7a4 2 (some .int), Cond.methodLink RJ0 505 yJ0_length_8abf5, Cond.methodLink RJ0 641 yJ0_lastIndexOf_7cf53]
def wsX6_read_r5 : List Cond := [Cond.instanceMethod yJ0_lastIndexOf_7cf53, Cond.selects RJ0 yJ0_lastIndexOf_7cf53 yJ0_lastIndexOf_7cf53, Cond.code yJ0_lastIndexOf_7cf53 cJ0_lastIndexOf_7cf53 3 (some .int), Cond.methodLink RJ0 644 yJ1_lastIndexOf_7d655, Cond.static yJ1_lastIndexOf_7d655, Cond.code yJ1_lastIndexOf_7d655 cJ1_lastIndexOf_7d655 4 (some .int), Cond.methodLink RJ1 38 Lib.Math.min.name, Cond.static Lib.Math.min.name, Cond.code Lib.Math.min.name Lib.Math.min.code 2 (some .int), Cond.methodLink RJ1 88 yJ1_canEncode_9a6ad, Cond.static yJ1_canEncode_9a6ad, Cond.code yJ1_canEncode_9a6ad cJ1_canEncode_9a6ad 1 (some .boolean), Cond.methodLink RJ0 646 yJ2_lastIndexOf_7d655, Cond.static yJ2_lastIndexOf_7d655, Cond.code yJ2_lastIndexOf_7d655 cJ2_lastIndexOf_7d655 4 (some .int), Cond.constant RJ2 227 (65536), Cond.methodLink RJ2 183 Lib.Math.min.name, Cond.methodLink RJ2 247 yJ2_lastIndexOfSupplementary_7d655, Cond.static yJ2_lastIndexOfSupplementary_7d655, Cond.code yJ2_lastIndexOfSupplementary_7d655 cJ2_lastIndexOfSupplementary_7d655 6 (some .int), Cond.methodLink RJ2 164 yJ11_isValidCodePoint_9a6ad, Cond.static yJ11_isValidCodePoint_9a6ad, Cond.initialized RJ11, Cond.code yJ11_isValidCodePoint_9a6ad cJ11_isValidCodePoint_9a6ad 2 (some .boolean)]
def wsX6_read_r6 : List Cond := [Cond.methodLink RJ2 157 yJ11_highSurrogate_5068e, Cond.static yJ11_highSurrogate_5068e, Cond.code yJ11_highSurrogate_5068e cJ11_highSurrogate_5068e 1 (some .char), Cond.constant RJ11 110 (55232), Cond.methodLink RJ2 161 yJ11_lowSurrogate_5068e, Cond.static yJ11_lowSurrogate_5068e, Cond.code yJ11_lowSurrogate_5068e cJ11_lowSurrogate_5068e 1 (some .char), Cond.constant RJ11 76 (56320), Cond.methodLink RX6 190 yX6_early, Cond.instanceMethod yX6_early, Cond.selects RX6 yX6_early yX6_early, Cond.code yX6_early cX6_early 5 (some .int), Cond.methodLink RX6 174 yJ0_indexOf_0f7a4, Cond.instanceMethod yJ0_indexOf_0f7a4, Cond.selects RJ0 yJ0_indexOf_0f7a4 yJ0_indexOf_0f7a4, Cond.code yJ0_indexOf_0f7a4 cJ0_indexOf_0f7a4 2 (some .int), Cond.methodLink RJ0 633 yJ0_indexOf_7cf53, Cond.instanceMethod yJ0_indexOf_7cf53, Cond.selects RJ0 yJ0_indexOf_7cf53 yJ0_indexOf_7cf53, Cond.code yJ0_indexOf_7cf53 cJ0_indexOf_7cf53 3 (some .int), Cond.methodLink RJ0 637 yJ1_indexOf_4cfef, Cond.static yJ1_indexOf_4cfef, Cond.code yJ1_indexOf_4cfef cJ1_indexOf_4cfef 4 (some .int), Cond.methodLink RJ1 92 Lib.Math.max.name]
def wsX6_read_r7 : List Cond := [Cond.methodLink RJ1 95 yJ1_indexOfChar_4cfef, Cond.static yJ1_indexOfChar_4cfef, Cond.code yJ1_indexOfChar_4cfef cJ1_indexOfChar_4cfef 6 (some .int), Cond.methodLink RJ0 640 yJ2_indexOf_4cfef, Cond.static yJ2_indexOf_4cfef, Cond.code yJ2_indexOf_4cfef cJ2_indexOf_4cfef 4 (some .int), Cond.methodLink RJ2 224 Lib.Math.max.name, Cond.methodLink RJ2 228 yJ2_indexOfChar_4cfef, Cond.static yJ2_indexOfChar_4cfef, Cond.code yJ2_indexOfChar_4cfef cJ2_indexOfChar_4cfef 4 (some .int), Cond.methodLink RJ2 96 yJ2_checkBoundsBeginEnd_d044e, Cond.static yJ2_checkBoundsBeginEnd_d044e, Cond.code yJ2_checkBoundsBeginEnd_d044e cJ2_checkBoundsBeginEnd_d044e 3 none, Cond.methodLink RJ2 241 yJ0_checkBoundsBeginEnd_23922, Cond.static yJ0_checkBoundsBeginEnd_23922, Cond.code yJ0_checkBoundsBeginEnd_23922 cJ0_checkBoundsBeginEnd_23922 3 none, Cond.methodLink RJ0 1062 yJ3_checkFromToIndex_8c36e, Cond.static yJ3_checkFromToIndex_8c36e, Cond.code yJ3_checkFromToIndex_8c36e cJ3_checkFromToIndex_8c36e 4 (some .int), Cond.methodLink RJ2 244 yJ2_indexOfCharUnsafe_4cfef, Cond.static yJ2_indexOfCharUnsafe_4cfef, Cond.code yJ2_indexOfCharUnsafe_4cfef cJ2_indexOfCharUnsafe_4cfef 5 (some .int), Cond.methodLink RJ2 232 yJ2_indexOfSupplementary_4cfef, Cond.static yJ2_indexOfSupplementary_4cfef]
def wsX6_read_r8 : List Cond := [Cond.code yJ2_indexOfSupplementary_4cfef cJ2_indexOfSupplementary_4cfef 7 (some .int), Cond.methodLink RX6 120 yX6_turn, Cond.instanceMethod yX6_turn, Cond.selects RX6 yX6_turn yX6_turn, Cond.code yX6_turn cX6_turn 1 (some .int), Cond.fieldLink RX6 95 "BoardNotationModel" "present" "I", Cond.methodLink RX6 87 yX6_get, Cond.instanceMethod yX6_get, Cond.selects RX6 yX6_get yX6_get, Cond.code yX6_get cX6_get 3 (some .int), Cond.fieldLink RX6 32 "BoardNotationModel" "table" "[I", Cond.methodLink RX6 108 yX6_reaches, Cond.instanceMethod yX6_reaches, Cond.selects RX6 yX6_reaches yX6_reaches, Cond.code yX6_reaches cX6_reaches 9 (some .boolean), Cond.fieldLink RX6 13 "BoardNotationModel" "manySteps" "[I", Cond.methodLink RX6 98 yX6_sideOf, Cond.static yX6_sideOf, Cond.code yX6_sideOf cX6_sideOf 1 (some .int), Cond.methodLink RX6 101 yX6_reach, Cond.instanceMethod yX6_reach, Cond.selects RX6 yX6_reach yX6_reach, Cond.code yX6_reach cX6_reach 3 (some .int), Cond.fieldLink RX6 16 "BoardNotationModel" "steps" "[I"]
def wsX6_read_r9 : List Cond := [Cond.methodLink RX6 104 yX6_target, Cond.instanceMethod yX6_target, Cond.selects RX6 yX6_target yX6_target, Cond.code yX6_target cX6_target 8 (some .int), Cond.methodLink RX6 116 yX6_isLegal, Cond.instanceMethod yX6_isLegal, Cond.selects RX6 yX6_isLegal yX6_isLegal, Cond.code yX6_isLegal cX6_isLegal 3 (some .boolean), Cond.fieldLink RX6 25 "BoardNotationModel" "trial" "[I", Cond.methodLink RX6 60 arraycopyName, Cond.native arraycopyName, Cond.static arraycopyName, Cond.initialized "java/lang/System", Cond.methodLink RX6 91 yX6_play, Cond.static yX6_play, Cond.code yX6_play cX6_play 3 none, Cond.methodLink RX6 112 yX6_isChecked, Cond.instanceMethod yX6_isChecked, Cond.selects RX6 yX6_isChecked yX6_isChecked, Cond.code yX6_isChecked cX6_isChecked 5 (some .boolean), Cond.methodLink RX6 196 yX6_sign, Cond.instanceMethod yX6_sign, Cond.selects RX6 yX6_sign yX6_sign, Cond.code yX6_sign cX6_sign 6 (some .int)]
def wsX6_read_r10 : List Cond := [Cond.methodLink RX6 124 yX6_legalMoves, Cond.instanceMethod yX6_legalMoves, Cond.selects RX6 yX6_legalMoves yX6_legalMoves, Cond.code yX6_legalMoves cX6_legalMoves 6 (some .int)]
def wsX6_read : List Cond := .code yX6_read cX6_read 2 (some .int) :: ((wsX6_read_r1 ++ (wsX6_read_r2 ++ (wsX6_read_r3 ++ (wsX6_read_r4 ++ (wsX6_read_r5 ++ (wsX6_read_r6 ++ (wsX6_read_r7 ++ (wsX6_read_r8 ++ (wsX6_read_r9 ++ wsX6_read_r10))))))))) ++ wsX60)
def wsX6_found : List Cond := .code yX6_found cX6_found 2 (some .int) :: ([.fieldLink RX6 66 "BoardNotationModel" "thrown" "I", .fieldLink RX6 42 "BoardNotationModel" "errorAt" "I", .fieldLink RX6 45 "BoardNotationModel" "readFrom" "I", .fieldLink RX6 48 "BoardNotationModel" "readTo" "I", .methodLink RX6 69 yX6_isIn, .static yX6_isIn, .initialized RX6, .code yX6_isIn cX6_isIn 3 (some .boolean), .methodLink RX6 77 yX6_fail, .instanceMethod yX6_fail, .selects RX6 yX6_fail yX6_fail, .code yX6_fail cX6_fail 2 (some .int)] ++ wsX60)
def wsX6_put_ : List Cond := .code yX6_put_ cX6_put_ 2 none :: ([.fieldLink RX6 202 "BoardNotationModel" "isTooLong" "Z", .fieldLink RX6 206 "BoardNotationModel" "written" "I", .fieldLink RX6 54 "BoardNotationModel" "paper" "[I"] ++ wsX60)
def wsX6_putMove_r1 : List Cond := [Cond.fieldLink RX6 22 "BoardNotationModel" "board" "[I", Cond.fieldLink RX6 9 "BoardNotationModel" "letters" "[I", Cond.methodLink RX6 209 yX6_put_, Cond.instanceMethod yX6_put_, Cond.selects RX6 yX6_put_ yX6_put_, Cond.initialized RX6, Cond.code yX6_put_ cX6_put_ 2 none, Cond.fieldLink RX6 202 "BoardNotationModel" "isTooLong" "Z", Cond.fieldLink RX6 206 "BoardNotationModel" "written" "I", Cond.fieldLink RX6 54 "BoardNotationModel" "paper" "[I", Cond.methodLink RX6 108 yX6_reaches, Cond.instanceMethod yX6_reaches, Cond.selects RX6 yX6_reaches yX6_reaches, Cond.code yX6_reaches cX6_reaches 9 (some .boolean), Cond.fieldLink RX6 13 "BoardNotationModel" "manySteps" "[I", Cond.methodLink RX6 98 yX6_sideOf, Cond.static yX6_sideOf, Cond.code yX6_sideOf cX6_sideOf 1 (some .int), Cond.methodLink RX6 101 yX6_reach, Cond.instanceMethod yX6_reach, Cond.selects RX6 yX6_reach yX6_reach, Cond.code yX6_reach cX6_reach 3 (some .int), Cond.fieldLink RX6 16 "BoardNotationModel" "steps" "[I", Cond.methodLink RX6 104 yX6_target]
def wsX6_putMove_r2 : List Cond := [Cond.instanceMethod yX6_target, Cond.selects RX6 yX6_target yX6_target, Cond.code yX6_target cX6_target 8 (some .int), Cond.methodLink RX6 69 yX6_isIn, Cond.static yX6_isIn, Cond.code yX6_isIn cX6_isIn 3 (some .boolean), Cond.methodLink RX6 116 yX6_isLegal, Cond.instanceMethod yX6_isLegal, Cond.selects RX6 yX6_isLegal yX6_isLegal, Cond.code yX6_isLegal cX6_isLegal 3 (some .boolean), Cond.fieldLink RX6 25 "BoardNotationModel" "trial" "[I", Cond.methodLink RX6 60 arraycopyName, Cond.native arraycopyName, Cond.static arraycopyName, Cond.initialized "java/lang/System", Cond.methodLink RX6 91 yX6_play, Cond.static yX6_play, Cond.code yX6_play cX6_play 3 none, Cond.methodLink RX6 112 yX6_isChecked, Cond.instanceMethod yX6_isChecked, Cond.selects RX6 yX6_isChecked yX6_isChecked, Cond.code yX6_isChecked cX6_isChecked 5 (some .boolean), Cond.methodLink RX6 196 yX6_sign, Cond.instanceMethod yX6_sign]
def wsX6_putMove_r3 : List Cond := [Cond.selects RX6 yX6_sign yX6_sign, Cond.code yX6_sign cX6_sign 6 (some .int), Cond.methodLink RX6 124 yX6_legalMoves, Cond.instanceMethod yX6_legalMoves, Cond.selects RX6 yX6_legalMoves yX6_legalMoves, Cond.code yX6_legalMoves cX6_legalMoves 6 (some .int)]
def wsX6_putMove : List Cond := .code yX6_putMove cX6_putMove 8 none :: ((wsX6_putMove_r1 ++ (wsX6_putMove_r2 ++ wsX6_putMove_r3)) ++ wsX60)
def wsX6_toTape : List Cond := .code yX6_toTape cX6_toTape 1 (some .int) :: ([.fieldLink RX6 54 "BoardNotationModel" "paper" "[I", .fieldLink RX6 39 "BoardNotationModel" "tape" "[I", .fieldLink RX6 206 "BoardNotationModel" "written" "I", .methodLink RX6 60 arraycopyName, .native arraycopyName, .static arraycopyName, .initialized "java/lang/System", .fieldLink RX6 127 "BoardNotationModel" "taped" "I"] ++ wsX60)
def wsX6_write_r1 : List Cond := [Cond.fieldLink RX6 66 "BoardNotationModel" "thrown" "I", Cond.fieldLink RX6 206 "BoardNotationModel" "written" "I", Cond.fieldLink RX6 202 "BoardNotationModel" "isTooLong" "Z", Cond.methodLink RX6 83 yX6_isSquare, Cond.static yX6_isSquare, Cond.initialized RX6, Cond.code yX6_isSquare cX6_isSquare 1 (some .boolean), Cond.methodLink RX6 69 yX6_isIn, Cond.static yX6_isIn, Cond.code yX6_isIn cX6_isIn 3 (some .boolean), Cond.methodLink RX6 77 yX6_fail, Cond.instanceMethod yX6_fail, Cond.selects RX6 yX6_fail yX6_fail, Cond.code yX6_fail cX6_fail 2 (some .int), Cond.methodLink RX6 133 yX6_why, Cond.instanceMethod yX6_why, Cond.selects RX6 yX6_why yX6_why, Cond.code yX6_why cX6_why 3 (some .int), Cond.fieldLink RX6 22 "BoardNotationModel" "board" "[I", Cond.methodLink RX6 98 yX6_sideOf, Cond.static yX6_sideOf, Cond.code yX6_sideOf cX6_sideOf 1 (some .int), Cond.methodLink RX6 120 yX6_turn, Cond.instanceMethod yX6_turn]
def wsX6_write_r2 : List Cond := [Cond.selects RX6 yX6_turn yX6_turn, Cond.code yX6_turn cX6_turn 1 (some .int), Cond.fieldLink RX6 95 "BoardNotationModel" "present" "I", Cond.methodLink RX6 87 yX6_get, Cond.instanceMethod yX6_get, Cond.selects RX6 yX6_get yX6_get, Cond.code yX6_get cX6_get 3 (some .int), Cond.fieldLink RX6 32 "BoardNotationModel" "table" "[I", Cond.methodLink RX6 108 yX6_reaches, Cond.instanceMethod yX6_reaches, Cond.selects RX6 yX6_reaches yX6_reaches, Cond.code yX6_reaches cX6_reaches 9 (some .boolean), Cond.fieldLink RX6 13 "BoardNotationModel" "manySteps" "[I", Cond.methodLink RX6 101 yX6_reach, Cond.instanceMethod yX6_reach, Cond.selects RX6 yX6_reach yX6_reach, Cond.code yX6_reach cX6_reach 3 (some .int), Cond.fieldLink RX6 16 "BoardNotationModel" "steps" "[I", Cond.methodLink RX6 104 yX6_target, Cond.instanceMethod yX6_target, Cond.selects RX6 yX6_target yX6_target, Cond.code yX6_target cX6_target 8 (some .int), Cond.methodLink RX6 116 yX6_isLegal, Cond.instanceMethod yX6_isLegal]
def wsX6_write_r3 : List Cond := [Cond.selects RX6 yX6_isLegal yX6_isLegal, Cond.code yX6_isLegal cX6_isLegal 3 (some .boolean), Cond.fieldLink RX6 25 "BoardNotationModel" "trial" "[I", Cond.methodLink RX6 60 arraycopyName, Cond.native arraycopyName, Cond.static arraycopyName, Cond.initialized "java/lang/System", Cond.methodLink RX6 91 yX6_play, Cond.static yX6_play, Cond.code yX6_play cX6_play 3 none, Cond.methodLink RX6 112 yX6_isChecked, Cond.instanceMethod yX6_isChecked, Cond.selects RX6 yX6_isChecked yX6_isChecked, Cond.code yX6_isChecked cX6_isChecked 5 (some .boolean), Cond.methodLink RX6 213 yX6_putMove, Cond.instanceMethod yX6_putMove, Cond.selects RX6 yX6_putMove yX6_putMove, Cond.code yX6_putMove cX6_putMove 8 none, Cond.fieldLink RX6 9 "BoardNotationModel" "letters" "[I", Cond.methodLink RX6 209 yX6_put_, Cond.instanceMethod yX6_put_, Cond.selects RX6 yX6_put_ yX6_put_, Cond.code yX6_put_ cX6_put_ 2 none, Cond.fieldLink RX6 54 "BoardNotationModel" "paper" "[I"]
def wsX6_write_r4 : List Cond := [Cond.methodLink RX6 196 yX6_sign, Cond.instanceMethod yX6_sign, Cond.selects RX6 yX6_sign yX6_sign, Cond.code yX6_sign cX6_sign 6 (some .int), Cond.methodLink RX6 124 yX6_legalMoves, Cond.instanceMethod yX6_legalMoves, Cond.selects RX6 yX6_legalMoves yX6_legalMoves, Cond.code yX6_legalMoves cX6_legalMoves 6 (some .int), Cond.methodLink RX6 216 yX6_toTape, Cond.instanceMethod yX6_toTape, Cond.selects RX6 yX6_toTape yX6_toTape, Cond.code yX6_toTape cX6_toTape 1 (some .int), Cond.fieldLink RX6 39 "BoardNotationModel" "tape" "[I", Cond.fieldLink RX6 127 "BoardNotationModel" "taped" "I"]
def wsX6_write : List Cond := .code yX6_write cX6_write 3 (some .int) :: ((wsX6_write_r1 ++ (wsX6_write_r2 ++ (wsX6_write_r3 ++ wsX6_write_r4))) ++ wsX60)
def wsX6_byteAt : List Cond := .code yX6_byteAt cX6_byteAt 2 (some .int) :: ([.fieldLink RX6 66 "BoardNotationModel" "thrown" "I", .fieldLink RX6 127 "BoardNotationModel" "taped" "I", .fieldLink RX6 39 "BoardNotationModel" "tape" "[I", .methodLink RX6 69 yX6_isIn, .static yX6_isIn, .initialized RX6, .code yX6_isIn cX6_isIn 3 (some .boolean), .methodLink RX6 77 yX6_fail, .instanceMethod yX6_fail, .selects RX6 yX6_fail yX6_fail, .code yX6_fail cX6_fail 2 (some .int)] ++ wsX60)
def wsX6_node : List Cond := .code yX6_node cX6_node 3 (some .int) :: ([.fieldLink RX6 66 "BoardNotationModel" "thrown" "I", .methodLink RX6 219 yX6_isNode, .instanceMethod yX6_isNode, .selects RX6 yX6_isNode yX6_isNode, .initialized RX6, .code yX6_isNode cX6_isNode 2 (some .boolean), .fieldLink RX6 28 "BoardNotationModel" "nodes" "I", .methodLink RX6 69 yX6_isIn, .static yX6_isIn, .code yX6_isIn cX6_isIn 3 (some .boolean), .methodLink RX6 87 yX6_get, .instanceMethod yX6_get, .selects RX6 yX6_get yX6_get, .code yX6_get cX6_get 3 (some .int), .fieldLink RX6 32 "BoardNotationModel" "table" "[I", .methodLink RX6 77 yX6_fail, .instanceMethod yX6_fail, .selects RX6 yX6_fail yX6_fail, .code yX6_fail cX6_fail 2 (some .int)] ++ wsX60)
def wsX6_continuation : List Cond := .code yX6_continuation cX6_continuation 3 (some .int) :: ([.fieldLink RX6 66 "BoardNotationModel" "thrown" "I", .methodLink RX6 219 yX6_isNode, .instanceMethod yX6_isNode, .selects RX6 yX6_isNode yX6_isNode, .initialized RX6, .code yX6_isNode cX6_isNode 2 (some .boolean), .fieldLink RX6 28 "BoardNotationModel" "nodes" "I", .methodLink RX6 69 yX6_isIn, .static yX6_isIn, .code yX6_isIn cX6_isIn 3 (some .boolean), .methodLink RX6 87 yX6_get, .instanceMethod yX6_get, .selects RX6 yX6_get yX6_get, .code yX6_get cX6_get 3 (some .int), .fieldLink RX6 32 "BoardNotationModel" "table" "[I", .methodLink RX6 136 yX6_continuation0, .instanceMethod yX6_continuation0, .selects RX6 yX6_continuation0 yX6_continuation0, .code yX6_continuation0 cX6_continuation0 3 (some .int), .fieldLink RX6 36 "BoardNotationModel" "continuations" "[I", .methodLink RX6 77 yX6_fail, .instanceMethod yX6_fail, .selects RX6 yX6_fail yX6_fail, .code yX6_fail cX6_fail 2 (some .int)] ++ wsX60)
def wsX6_goTo_r1 : List Cond := [Cond.fieldLink RX6 66 "BoardNotationModel" "thrown" "I", Cond.fieldLink RX6 95 "BoardNotationModel" "present" "I", Cond.methodLink RX6 219 yX6_isNode, Cond.instanceMethod yX6_isNode, Cond.selects RX6 yX6_isNode yX6_isNode, Cond.initialized RX6, Cond.code yX6_isNode cX6_isNode 2 (some .boolean), Cond.fieldLink RX6 28 "BoardNotationModel" "nodes" "I", Cond.methodLink RX6 69 yX6_isIn, Cond.static yX6_isIn, Cond.code yX6_isIn cX6_isIn 3 (some .boolean), Cond.methodLink RX6 77 yX6_fail, Cond.instanceMethod yX6_fail, Cond.selects RX6 yX6_fail yX6_fail, Cond.code yX6_fail cX6_fail 2 (some .int), Cond.methodLink RX6 222 yX6_set, Cond.instanceMethod yX6_set, Cond.selects RX6 yX6_set yX6_set, Cond.code yX6_set cX6_set 4 none, Cond.fieldLink RX6 19 "BoardNotationModel" "first" "[I", Cond.fieldLink RX6 22 "BoardNotationModel" "board" "[I", Cond.methodLink RX6 60 arraycopyName, Cond.native arraycopyName, Cond.static arraycopyName]
def wsX6_goTo_r2 : List Cond := [Cond.initialized "java/lang/System", Cond.fieldLink RX6 51 "BoardNotationModel" "way" "[I", Cond.methodLink RX6 87 yX6_get, Cond.instanceMethod yX6_get, Cond.selects RX6 yX6_get yX6_get, Cond.code yX6_get cX6_get 3 (some .int), Cond.fieldLink RX6 32 "BoardNotationModel" "table" "[I", Cond.methodLink RX6 91 yX6_play, Cond.static yX6_play, Cond.code yX6_play cX6_play 3 none, Cond.methodLink RX6 120 yX6_turn, Cond.instanceMethod yX6_turn, Cond.selects RX6 yX6_turn yX6_turn, Cond.code yX6_turn cX6_turn 1 (some .int)]
def wsX6_goTo : List Cond := .code yX6_goTo cX6_goTo 2 (some .int) :: ((wsX6_goTo_r1 ++ wsX6_goTo_r2) ++ wsX60)
def wsX6_promote : List Cond := .code yX6_promote cX6_promote 4 (some .int) :: ([.fieldLink RX6 66 "BoardNotationModel" "thrown" "I", .fieldLink RX6 28 "BoardNotationModel" "nodes" "I", .fieldLink RX6 36 "BoardNotationModel" "continuations" "[I", .methodLink RX6 60 arraycopyName, .native arraycopyName, .static arraycopyName, .initialized "java/lang/System", .methodLink RX6 69 yX6_isIn, .static yX6_isIn, .initialized RX6, .code yX6_isIn cX6_isIn 3 (some .boolean), .methodLink RX6 77 yX6_fail, .instanceMethod yX6_fail, .selects RX6 yX6_fail yX6_fail, .code yX6_fail cX6_fail 2 (some .int), .methodLink RX6 87 yX6_get, .instanceMethod yX6_get, .selects RX6 yX6_get yX6_get, .code yX6_get cX6_get 3 (some .int), .fieldLink RX6 32 "BoardNotationModel" "table" "[I"] ++ wsX60)
def wsX6_blank : List Cond := .code yX6_blank cX6_blank 1 none :: ([.fieldLink RX6 206 "BoardNotationModel" "written" "I", .fieldLink RX6 54 "BoardNotationModel" "paper" "[I", .methodLink RX6 209 yX6_put_, .instanceMethod yX6_put_, .selects RX6 yX6_put_ yX6_put_, .initialized RX6, .code yX6_put_ cX6_put_ 2 none, .fieldLink RX6 202 "BoardNotationModel" "isTooLong" "Z"] ++ wsX60)
def wsX6_putNode_r1 : List Cond := [Cond.methodLink RX6 87 yX6_get, Cond.instanceMethod yX6_get, Cond.selects RX6 yX6_get yX6_get, Cond.initialized RX6, Cond.code yX6_get cX6_get 3 (some .int), Cond.fieldLink RX6 32 "BoardNotationModel" "table" "[I", Cond.methodLink RX6 222 yX6_set, Cond.instanceMethod yX6_set, Cond.selects RX6 yX6_set yX6_set, Cond.code yX6_set cX6_set 4 none, Cond.fieldLink RX6 19 "BoardNotationModel" "first" "[I", Cond.fieldLink RX6 22 "BoardNotationModel" "board" "[I", Cond.methodLink RX6 60 arraycopyName, Cond.native arraycopyName, Cond.static arraycopyName, Cond.initialized "java/lang/System", Cond.fieldLink RX6 51 "BoardNotationModel" "way" "[I", Cond.methodLink RX6 91 yX6_play, Cond.static yX6_play, Cond.code yX6_play cX6_play 3 none, Cond.methodLink RX6 225 yX6_blank, Cond.instanceMethod yX6_blank, Cond.selects RX6 yX6_blank yX6_blank, Cond.code yX6_blank cX6_blank 1 none]
def wsX6_putNode_r2 : List Cond := [Cond.fieldLink RX6 206 "BoardNotationModel" "written" "I", Cond.fieldLink RX6 54 "BoardNotationModel" "paper" "[I", Cond.methodLink RX6 209 yX6_put_, Cond.instanceMethod yX6_put_, Cond.selects RX6 yX6_put_ yX6_put_, Cond.code yX6_put_ cX6_put_ 2 none, Cond.fieldLink RX6 202 "BoardNotationModel" "isTooLong" "Z", Cond.methodLink RX6 213 yX6_putMove, Cond.instanceMethod yX6_putMove, Cond.selects RX6 yX6_putMove yX6_putMove, Cond.code yX6_putMove cX6_putMove 8 none, Cond.fieldLink RX6 9 "BoardNotationModel" "letters" "[I", Cond.methodLink RX6 108 yX6_reaches, Cond.instanceMethod yX6_reaches, Cond.selects RX6 yX6_reaches yX6_reaches, Cond.code yX6_reaches cX6_reaches 9 (some .boolean), Cond.fieldLink RX6 13 "BoardNotationModel" "manySteps" "[I", Cond.methodLink RX6 98 yX6_sideOf, Cond.static yX6_sideOf, Cond.code yX6_sideOf cX6_sideOf 1 (some .int), Cond.methodLink RX6 101 yX6_reach, Cond.instanceMethod yX6_reach, Cond.selects RX6 yX6_reach yX6_reach, Cond.code yX6_reach cX6_reach 3 (some .int)]
def wsX6_putNode_r3 : List Cond := [Cond.fieldLink RX6 16 "BoardNotationModel" "steps" "[I", Cond.methodLink RX6 104 yX6_target, Cond.instanceMethod yX6_target, Cond.selects RX6 yX6_target yX6_target, Cond.code yX6_target cX6_target 8 (some .int), Cond.methodLink RX6 69 yX6_isIn, Cond.static yX6_isIn, Cond.code yX6_isIn cX6_isIn 3 (some .boolean), Cond.methodLink RX6 116 yX6_isLegal, Cond.instanceMethod yX6_isLegal, Cond.selects RX6 yX6_isLegal yX6_isLegal, Cond.code yX6_isLegal cX6_isLegal 3 (some .boolean), Cond.fieldLink RX6 25 "BoardNotationModel" "trial" "[I", Cond.methodLink RX6 112 yX6_isChecked, Cond.instanceMethod yX6_isChecked, Cond.selects RX6 yX6_isChecked yX6_isChecked, Cond.code yX6_isChecked cX6_isChecked 5 (some .boolean), Cond.methodLink RX6 196 yX6_sign, Cond.instanceMethod yX6_sign, Cond.selects RX6 yX6_sign yX6_sign, Cond.code yX6_sign cX6_sign 6 (some .int), Cond.methodLink RX6 124 yX6_legalMoves, Cond.instanceMethod yX6_legalMoves, Cond.selects RX6 yX6_legalMoves yX6_legalMoves]
def wsX6_putNode_r4 : List Cond := [Cond.code yX6_legalMoves cX6_legalMoves 6 (some .int)]
def wsX6_putNode : List Cond := .code yX6_putNode cX6_putNode 2 none :: ((wsX6_putNode_r1 ++ (wsX6_putNode_r2 ++ (wsX6_putNode_r3 ++ wsX6_putNode_r4))) ++ wsX60)
def wsX6_putBelow_r1 : List Cond := [Cond.fieldLink RX6 202 "BoardNotationModel" "isTooLong" "Z", Cond.methodLink RX6 87 yX6_get, Cond.instanceMethod yX6_get, Cond.selects RX6 yX6_get yX6_get, Cond.initialized RX6, Cond.code yX6_get cX6_get 3 (some .int), Cond.fieldLink RX6 32 "BoardNotationModel" "table" "[I", Cond.methodLink RX6 136 yX6_continuation0, Cond.instanceMethod yX6_continuation0, Cond.selects RX6 yX6_continuation0 yX6_continuation0, Cond.code yX6_continuation0 cX6_continuation0 3 (some .int), Cond.fieldLink RX6 36 "BoardNotationModel" "continuations" "[I", Cond.methodLink RX6 228 yX6_putNode, Cond.instanceMethod yX6_putNode, Cond.selects RX6 yX6_putNode yX6_putNode, Cond.code yX6_putNode cX6_putNode 2 none, Cond.methodLink RX6 222 yX6_set, Cond.instanceMethod yX6_set, Cond.selects RX6 yX6_set yX6_set, Cond.code yX6_set cX6_set 4 none, Cond.fieldLink RX6 19 "BoardNotationModel" "first" "[I", Cond.fieldLink RX6 22 "BoardNotationModel" "board" "[I", Cond.methodLink RX6 60 arraycopyName, Cond.native arraycopyName]
def wsX6_putBelow_r2 : List Cond := [Cond.static arraycopyName, Cond.initialized "java/lang/System", Cond.fieldLink RX6 51 "BoardNotationModel" "way" "[I", Cond.methodLink RX6 91 yX6_play, Cond.static yX6_play, Cond.code yX6_play cX6_play 3 none, Cond.methodLink RX6 225 yX6_blank, Cond.instanceMethod yX6_blank, Cond.selects RX6 yX6_blank yX6_blank, Cond.code yX6_blank cX6_blank 1 none, Cond.fieldLink RX6 206 "BoardNotationModel" "written" "I", Cond.fieldLink RX6 54 "BoardNotationModel" "paper" "[I", Cond.methodLink RX6 209 yX6_put_, Cond.instanceMethod yX6_put_, Cond.selects RX6 yX6_put_ yX6_put_, Cond.code yX6_put_ cX6_put_ 2 none, Cond.methodLink RX6 213 yX6_putMove, Cond.instanceMethod yX6_putMove, Cond.selects RX6 yX6_putMove yX6_putMove, Cond.code yX6_putMove cX6_putMove 8 none, Cond.fieldLink RX6 9 "BoardNotationModel" "letters" "[I", Cond.methodLink RX6 108 yX6_reaches, Cond.instanceMethod yX6_reaches, Cond.selects RX6 yX6_reaches yX6_reaches]
def wsX6_putBelow_r3 : List Cond := [Cond.code yX6_reaches cX6_reaches 9 (some .boolean), Cond.fieldLink RX6 13 "BoardNotationModel" "manySteps" "[I", Cond.methodLink RX6 98 yX6_sideOf, Cond.static yX6_sideOf, Cond.code yX6_sideOf cX6_sideOf 1 (some .int), Cond.methodLink RX6 101 yX6_reach, Cond.instanceMethod yX6_reach, Cond.selects RX6 yX6_reach yX6_reach, Cond.code yX6_reach cX6_reach 3 (some .int), Cond.fieldLink RX6 16 "BoardNotationModel" "steps" "[I", Cond.methodLink RX6 104 yX6_target, Cond.instanceMethod yX6_target, Cond.selects RX6 yX6_target yX6_target, Cond.code yX6_target cX6_target 8 (some .int), Cond.methodLink RX6 69 yX6_isIn, Cond.static yX6_isIn, Cond.code yX6_isIn cX6_isIn 3 (some .boolean), Cond.methodLink RX6 116 yX6_isLegal, Cond.instanceMethod yX6_isLegal, Cond.selects RX6 yX6_isLegal yX6_isLegal, Cond.code yX6_isLegal cX6_isLegal 3 (some .boolean), Cond.fieldLink RX6 25 "BoardNotationModel" "trial" "[I", Cond.methodLink RX6 112 yX6_isChecked, Cond.instanceMethod yX6_isChecked]
def wsX6_putBelow_r4 : List Cond := [Cond.selects RX6 yX6_isChecked yX6_isChecked, Cond.code yX6_isChecked cX6_isChecked 5 (some .boolean), Cond.methodLink RX6 196 yX6_sign, Cond.instanceMethod yX6_sign, Cond.selects RX6 yX6_sign yX6_sign, Cond.code yX6_sign cX6_sign 6 (some .int), Cond.methodLink RX6 124 yX6_legalMoves, Cond.instanceMethod yX6_legalMoves, Cond.selects RX6 yX6_legalMoves yX6_legalMoves, Cond.code yX6_legalMoves cX6_legalMoves 6 (some .int), Cond.methodLink RX6 231 yX6_putBelow, Cond.instanceMethod yX6_putBelow, Cond.selects RX6 yX6_putBelow yX6_putBelow]
def wsX6_putBelow : List Cond := .code yX6_putBelow cX6_putBelow 4 none :: ((wsX6_putBelow_r1 ++ (wsX6_putBelow_r2 ++ (wsX6_putBelow_r3 ++ wsX6_putBelow_r4))) ++ wsX60)
def wsX6_writeGame_r1 : List Cond := [Cond.fieldLink RX6 66 "BoardNotationModel" "thrown" "I", Cond.fieldLink RX6 206 "BoardNotationModel" "written" "I", Cond.fieldLink RX6 202 "BoardNotationModel" "isTooLong" "Z", Cond.fieldLink RX6 95 "BoardNotationModel" "present" "I", Cond.methodLink RX6 231 yX6_putBelow, Cond.instanceMethod yX6_putBelow, Cond.selects RX6 yX6_putBelow yX6_putBelow, Cond.initialized RX6, Cond.code yX6_putBelow cX6_putBelow 4 none, Cond.methodLink RX6 87 yX6_get, Cond.instanceMethod yX6_get, Cond.selects RX6 yX6_get yX6_get, Cond.code yX6_get cX6_get 3 (some .int), Cond.fieldLink RX6 32 "BoardNotationModel" "table" "[I", Cond.methodLink RX6 136 yX6_continuation0, Cond.instanceMethod yX6_continuation0, Cond.selects RX6 yX6_continuation0 yX6_continuation0, Cond.code yX6_continuation0 cX6_continuation0 3 (some .int), Cond.fieldLink RX6 36 "BoardNotationModel" "continuations" "[I", Cond.methodLink RX6 228 yX6_putNode, Cond.instanceMethod yX6_putNode, Cond.selects RX6 yX6_putNode yX6_putNode, Cond.code yX6_putNode cX6_putNode 2 none, Cond.methodLink RX6 222 yX6_set]
def wsX6_writeGame_r2 : List Cond := [Cond.instanceMethod yX6_set, Cond.selects RX6 yX6_set yX6_set, Cond.code yX6_set cX6_set 4 none, Cond.fieldLink RX6 19 "BoardNotationModel" "first" "[I", Cond.fieldLink RX6 22 "BoardNotationModel" "board" "[I", Cond.methodLink RX6 60 arraycopyName, Cond.native arraycopyName, Cond.static arraycopyName, Cond.initialized "java/lang/System", Cond.fieldLink RX6 51 "BoardNotationModel" "way" "[I", Cond.methodLink RX6 91 yX6_play, Cond.static yX6_play, Cond.code yX6_play cX6_play 3 none, Cond.methodLink RX6 225 yX6_blank, Cond.instanceMethod yX6_blank, Cond.selects RX6 yX6_blank yX6_blank, Cond.code yX6_blank cX6_blank 1 none, Cond.fieldLink RX6 54 "BoardNotationModel" "paper" "[I", Cond.methodLink RX6 209 yX6_put_, Cond.instanceMethod yX6_put_, Cond.selects RX6 yX6_put_ yX6_put_, Cond.code yX6_put_ cX6_put_ 2 none, Cond.methodLink RX6 213 yX6_putMove, Cond.instanceMethod yX6_putMove]
def wsX6_writeGame_r3 : List Cond := [Cond.selects RX6 yX6_putMove yX6_putMove, Cond.code yX6_putMove cX6_putMove 8 none, Cond.fieldLink RX6 9 "BoardNotationModel" "letters" "[I", Cond.methodLink RX6 108 yX6_reaches, Cond.instanceMethod yX6_reaches, Cond.selects RX6 yX6_reaches yX6_reaches, Cond.code yX6_reaches cX6_reaches 9 (some .boolean), Cond.fieldLink RX6 13 "BoardNotationModel" "manySteps" "[I", Cond.methodLink RX6 98 yX6_sideOf, Cond.static yX6_sideOf, Cond.code yX6_sideOf cX6_sideOf 1 (some .int), Cond.methodLink RX6 101 yX6_reach, Cond.instanceMethod yX6_reach, Cond.selects RX6 yX6_reach yX6_reach, Cond.code yX6_reach cX6_reach 3 (some .int), Cond.fieldLink RX6 16 "BoardNotationModel" "steps" "[I", Cond.methodLink RX6 104 yX6_target, Cond.instanceMethod yX6_target, Cond.selects RX6 yX6_target yX6_target, Cond.code yX6_target cX6_target 8 (some .int), Cond.methodLink RX6 69 yX6_isIn, Cond.static yX6_isIn, Cond.code yX6_isIn cX6_isIn 3 (some .boolean), Cond.methodLink RX6 116 yX6_isLegal]
def wsX6_writeGame_r4 : List Cond := [Cond.instanceMethod yX6_isLegal, Cond.selects RX6 yX6_isLegal yX6_isLegal, Cond.code yX6_isLegal cX6_isLegal 3 (some .boolean), Cond.fieldLink RX6 25 "BoardNotationModel" "trial" "[I", Cond.methodLink RX6 112 yX6_isChecked, Cond.instanceMethod yX6_isChecked, Cond.selects RX6 yX6_isChecked yX6_isChecked, Cond.code yX6_isChecked cX6_isChecked 5 (some .boolean), Cond.methodLink RX6 196 yX6_sign, Cond.instanceMethod yX6_sign, Cond.selects RX6 yX6_sign yX6_sign, Cond.code yX6_sign cX6_sign 6 (some .int), Cond.methodLink RX6 124 yX6_legalMoves, Cond.instanceMethod yX6_legalMoves, Cond.selects RX6 yX6_legalMoves yX6_legalMoves, Cond.code yX6_legalMoves cX6_legalMoves 6 (some .int), Cond.methodLink RX6 77 yX6_fail, Cond.instanceMethod yX6_fail, Cond.selects RX6 yX6_fail yX6_fail, Cond.code yX6_fail cX6_fail 2 (some .int), Cond.methodLink RX6 216 yX6_toTape, Cond.instanceMethod yX6_toTape, Cond.selects RX6 yX6_toTape yX6_toTape, Cond.code yX6_toTape cX6_toTape 1 (some .int)]
def wsX6_writeGame_r5 : List Cond := [Cond.fieldLink RX6 39 "BoardNotationModel" "tape" "[I", Cond.fieldLink RX6 127 "BoardNotationModel" "taped" "I"]
def wsX6_writeGame : List Cond := .code yX6_writeGame cX6_writeGame 1 (some .int) :: ((wsX6_writeGame_r1 ++ (wsX6_writeGame_r2 ++ (wsX6_writeGame_r3 ++ (wsX6_writeGame_r4 ++ wsX6_writeGame_r5)))) ++ wsX60)
def wsX6_clearNodes : List Cond := .code yX6_clearNodes cX6_clearNodes 1 none :: ([.fieldLink RX6 28 "BoardNotationModel" "nodes" "I", .fieldLink RX6 32 "BoardNotationModel" "table" "[I", .fieldLink RX6 95 "BoardNotationModel" "present" "I", .methodLink RX6 222 yX6_set, .instanceMethod yX6_set, .selects RX6 yX6_set yX6_set, .initialized RX6, .code yX6_set cX6_set 4 none, .fieldLink RX6 19 "BoardNotationModel" "first" "[I", .fieldLink RX6 22 "BoardNotationModel" "board" "[I", .methodLink RX6 60 arraycopyName, .native arraycopyName, .static arraycopyName, .initialized "java/lang/System", .fieldLink RX6 51 "BoardNotationModel" "way" "[I", .methodLink RX6 87 yX6_get, .instanceMethod yX6_get, .selects RX6 yX6_get yX6_get, .code yX6_get cX6_get 3 (some .int), .methodLink RX6 91 yX6_play, .static yX6_play, .code yX6_play cX6_play 3 none] ++ wsX60)
def wsX6_stop : List Cond := .code yX6_stop cX6_stop 3 (some .int) :: ([.fieldLink RX6 42 "BoardNotationModel" "errorAt" "I"] ++ wsX60)
def wsX6_isWord : List Cond := .code yX6_isWord cX6_isWord 2 (some .boolean) :: ([.fieldLink RX6 127 "BoardNotationModel" "taped" "I", .fieldLink RX6 39 "BoardNotationModel" "tape" "[I"] ++ wsX60)
def wsX6_readGame_r1 : List Cond := [Cond.fieldLink RX6 66 "BoardNotationModel" "thrown" "I", Cond.fieldLink RX6 42 "BoardNotationModel" "errorAt" "I", Cond.fieldLink RX6 127 "BoardNotationModel" "taped" "I", Cond.fieldLink RX6 39 "BoardNotationModel" "tape" "[I", Cond.fieldLink RX6 95 "BoardNotationModel" "present" "I", Cond.fieldLink RX6 57 "BoardNotationModel" "pile" "[I", Cond.fieldLink RX6 28 "BoardNotationModel" "nodes" "I", Cond.fieldLink RX6 193 "BoardNotationModel" "from" "I", Cond.fieldLink RX6 187 "BoardNotationModel" "to" "I", Cond.methodLink RX6 234 yX6_clearNodes, Cond.instanceMethod yX6_clearNodes, Cond.selects RX6 yX6_clearNodes yX6_clearNodes, Cond.initialized RX6, Cond.code yX6_clearNodes cX6_clearNodes 1 none, Cond.fieldLink RX6 32 "BoardNotationModel" "table" "[I", Cond.methodLink RX6 222 yX6_set, Cond.instanceMethod yX6_set, Cond.selects RX6 yX6_set yX6_set, Cond.code yX6_set cX6_set 4 none, Cond.fieldLink RX6 19 "BoardNotationModel" "first" "[I", Cond.fieldLink RX6 22 "BoardNotationModel" "board" "[I", Cond.methodLink RX6 60 arraycopyName, Cond.native arraycopyName, Cond.static arraycopyName]
def wsX6_readGame_r2 : List Cond := [Cond.initialized "java/lang/System", Cond.fieldLink RX6 51 "BoardNotationModel" "way" "[I", Cond.methodLink RX6 87 yX6_get, Cond.instanceMethod yX6_get, Cond.selects RX6 yX6_get yX6_get, Cond.code yX6_get cX6_get 3 (some .int), Cond.methodLink RX6 91 yX6_play, Cond.static yX6_play, Cond.code yX6_play cX6_play 3 none, Cond.methodLink RX6 237 yX6_stop, Cond.instanceMethod yX6_stop, Cond.selects RX6 yX6_stop yX6_stop, Cond.code yX6_stop cX6_stop 3 (some .int), Cond.methodLink RX6 240 yX6_isWord, Cond.instanceMethod yX6_isWord, Cond.selects RX6 yX6_isWord yX6_isWord, Cond.code yX6_isWord cX6_isWord 2 (some .boolean), Cond.methodLink RX6 199 yX6_readMove, Cond.instanceMethod yX6_readMove, Cond.selects RX6 yX6_readMove yX6_readMove, Cond.code yX6_readMove cX6_readMove 10 (some .int), Cond.fieldLink RX6 149 "BoardNotationModel" "badAt" "I", Cond.methodLink RX6 180 yX6_findForm, Cond.instanceMethod yX6_findForm]
def wsX6_readGame_r3 : List Cond := [Cond.selects RX6 yX6_findForm yX6_findForm, Cond.code yX6_findForm cX6_findForm 6 (some .boolean), Cond.fieldLink RX6 146 "BoardNotationModel" "form" "I", Cond.fieldLink RX6 152 "BoardNotationModel" "FORMS" "[Ljava/lang/String;", Cond.methodLink RX6 169 Lib.Math.max.name, Cond.static Lib.Math.max.name, Cond.initialized "java/lang/Math", Cond.code Lib.Math.max.name Lib.Math.max.code 2 (some .int), Cond.methodLink RX6 69 yX6_isIn, Cond.static yX6_isIn, Cond.code yX6_isIn cX6_isIn 3 (some .boolean), Cond.methodLink RX6 156 yJ0_length_8abf5, Cond.instanceMethod yJ0_length_8abf5, Cond.selects RJ0 yJ0_length_8abf5 yJ0_length_8abf5, Cond.initialized RJ0, Cond.code yJ0_length_8abf5 cJ0_length_8abf5 1 (some .int), Cond.fieldLink RJ0 9 "java/lang/String" "value" "[B", Cond.methodLink RJ0 335 yJ0_coder_7d493, Cond.instanceMethod yJ0_coder_7d493, Cond.selects RJ0 yJ0_coder_7d493 yJ0_coder_7d493, Cond.code yJ0_coder_7d493 cJ0_coder_7d493 1 (some .byte), Cond.fieldLink RJ0 38 "java/lang/String" "COMPACT_STRINGS" "Z", Cond.fieldLink RJ0 15 "java/lang/String" "coder" "B", Cond.methodLink RX6 161 yJ0_charAt_5068e]
def wsX6_readGame_r4 : List Cond := [Cond.instanceMethod yJ0_charAt_5068e, Cond.selects RJ0 yJ0_charAt_5068e yJ0_charAt_5068e, Cond.code yJ0_charAt_5068e cJ0_charAt_5068e 2 (some .char), Cond.methodLink RJ0 492 yJ0_isLatin1_aae02, Cond.instanceMethod yJ0_isLatin1_aae02, Cond.selects RJ0 yJ0_isLatin1_aae02 yJ0_isLatin1_aae02, Cond.code yJ0_isLatin1_aae02 cJ0_isLatin1_aae02 1 (some .boolean), Cond.methodLink RJ0 495 yJ1_charAt_3b067, Cond.static yJ1_charAt_3b067, Cond.initialized RJ1, Cond.code yJ1_charAt_3b067 cJ1_charAt_3b067 2 (some .char), Cond.methodLink RJ1 9 yJ0_checkIndex_df160, Cond.static yJ0_checkIndex_df160, Cond.code yJ0_checkIndex_df160 cJ0_checkIndex_df160 2 none, Cond.fieldLink RJ0 1053 "jdk/internal/util/Preconditions" "SIOOBE_FORMATTER" "Ljava/util/function/BiFunction;", Cond.methodLink RJ0 1059 yJ3_checkIndex_8e157, Cond.static yJ3_checkIndex_8e157, Cond.initialized RJ3, Cond.code yJ3_checkIndex_8e157 cJ3_checkIndex_8e157 3 (some .int), Cond.methodLink RJ0 498 yJ2_charAt_3b067, Cond.static yJ2_charAt_3b067, Cond.initialized RJ2, Cond.code yJ2_charAt_3b067 cJ2_charAt_3b067 2 (some .char), Cond.methodLink RJ2 67 yJ2_checkIndex_2214a]
def wsX6_readGame_r5 : List Cond := [Cond.static yJ2_checkIndex_2214a, Cond.code yJ2_checkIndex_2214a cJ2_checkIndex_2214a 2 none, Cond.methodLink RJ2 48 yJ2_length_9d52b, Cond.static yJ2_length_9d52b, Cond.code yJ2_length_9d52b cJ2_length_9d52b 1 (some .int), Cond.methodLink RJ2 414 yJ0_checkIndex_df160, Cond.methodLink RJ2 71 yJ2_getChar_3b067, Cond.static yJ2_getChar_3b067, Cond.code yJ2_getChar_3b067 cJ2_getChar_3b067 2 (some .char), Cond.fieldLink RJ2 44 "java/lang/StringUTF16" "$assertionsDisabled" "Z", Cond.fieldLink RJ2 59 "java/lang/StringUTF16" "HI_BYTE_SHIFT" "I", Cond.fieldLink RJ2 63 "java/lang/StringUTF16" "LO_BYTE_SHIFT" "I", Cond.methodLink RX6 165 yX6_fits, Cond.static yX6_fits, Cond.code yX6_fits cX6_fits 2 (some .boolean), Cond.methodLink RX6 73 yX6_kindOf, Cond.instanceMethod yX6_kindOf, Cond.selects RX6 yX6_kindOf yX6_kindOf, Cond.code yX6_kindOf cX6_kindOf 3 (some .int), Cond.fieldLink RX6 80 "BoardNotationModel" "kinds" "I", Cond.fieldLink RX6 9 "BoardNotationModel" "letters" "[I", Cond.methodLink RX6 183 yX6_late, Cond.instanceMethod yX6_late, Cond.selects RX6 yX6_late yX6_late]
def wsX6_readGame_r6 : List Cond := [Cond.code yX6_late cX6_late 4 (some .int), Cond.methodLink RX6 177 yJ0_lastIndexOf_0f7a4, Cond.instanceMethod yJ0_lastIndexOf_0f7a4, Cond.selects RJ0 yJ0_lastIndexOf_0f7a4 yJ0_lastIndexOf_0f7a4, Cond.code yJ0_lastIndexOf_0f7a4 cJ0_lastIndexOf_0f7a4 2 (some .int), Cond.methodLink RJ0 505 yJ0_length_8abf5, Cond.methodLink RJ0 641 yJ0_lastIndexOf_7cf53, Cond.instanceMethod yJ0_lastIndexOf_7cf53, Cond.selects RJ0 yJ0_lastIndexOf_7cf53 yJ0_lastIndexOf_7cf53, Cond.code yJ0_lastIndexOf_7cf53 cJ0_lastIndexOf_7cf53 3 (some .int), Cond.methodLink RJ0 644 yJ1_lastIndexOf_7d655, Cond.static yJ1_lastIndexOf_7d655, Cond.code yJ1_lastIndexOf_7d655 cJ1_lastIndexOf_7d655 4 (some .int), Cond.methodLink RJ1 38 Lib.Math.min.name, Cond.static Lib.Math.min.name, Cond.code Lib.Math.min.name Lib.Math.min.code 2 (some .int), Cond.methodLink RJ1 88 yJ1_canEncode_9a6ad, Cond.static yJ1_canEncode_9a6ad, Cond.code yJ1_canEncode_9a6ad cJ1_canEncode_9a6ad 1 (some .boolean), Cond.methodLink RJ0 646 yJ2_lastIndexOf_7d655, Cond.static yJ2_lastIndexOf_7d655, Cond.code yJ2_lastIndexOf_7d655 cJ2_lastIndexOf_7d655 4 (some .int), Cond.constant RJ2 227 (65536), Cond.methodLink RJ2 183 Lib.Math.min.name]
def wsX6_readGame_r7 : List Cond := [Cond.methodLink RJ2 247 yJ2_lastIndexOfSupplementary_7d655, Cond.static yJ2_lastIndexOfSupplementary_7d655, Cond.code yJ2_lastIndexOfSupplementary_7d655 cJ2_lastIndexOfSupplementary_7d655 6 (some .int), Cond.methodLink RJ2 164 yJ11_isValidCodePoint_9a6ad, Cond.static yJ11_isValidCodePoint_9a6ad, Cond.initialized RJ11, Cond.code yJ11_isValidCodePoint_9a6ad cJ11_isValidCodePoint_9a6ad 2 (some .boolean), Cond.methodLink RJ2 157 yJ11_highSurrogate_5068e, Cond.static yJ11_highSurrogate_5068e, Cond.code yJ11_highSurrogate_5068e cJ11_highSurrogate_5068e 1 (some .char), Cond.constant RJ11 110 (55232), Cond.methodLink RJ2 161 yJ11_lowSurrogate_5068e, Cond.static yJ11_lowSurrogate_5068e, Cond.code yJ11_lowSurrogate_5068e cJ11_lowSurrogate_5068e 1 (some .char), Cond.constant RJ11 76 (56320), Cond.methodLink RX6 190 yX6_early, Cond.instanceMethod yX6_early, Cond.selects RX6 yX6_early yX6_early, Cond.code yX6_early cX6_early 5 (some .int), Cond.methodLink RX6 174 yJ0_indexOf_0f7a4, Cond.instanceMethod yJ0_indexOf_0f7a4, Cond.selects RJ0 yJ0_indexOf_0f7a4 yJ0_indexOf_0f7a4, Cond.code yJ0_indexOf_0f7a4 cJ0_indexOf_0f7a4 2 (some .int), Cond.methodLink RJ0 633 yJ0_indexOf_7cf53]
def wsX6_readGame_r8 : List Cond := [Cond.instanceMethod yJ0_indexOf_7cf53, Cond.selects RJ0 yJ0_indexOf_7cf53 yJ0_indexOf_7cf53, Cond.code yJ0_indexOf_7cf53 cJ0_indexOf_7cf53 3 (some .int), Cond.methodLink RJ0 637 yJ1_indexOf_4cfef, Cond.static yJ1_indexOf_4cfef, Cond.code yJ1_indexOf_4cfef cJ1_indexOf_4cfef 4 (some .int), Cond.methodLink RJ1 92 Lib.Math.max.name, Cond.methodLink RJ1 95 yJ1_indexOfChar_4cfef, Cond.static yJ1_indexOfChar_4cfef, Cond.code yJ1_indexOfChar_4cfef cJ1_indexOfChar_4cfef 6 (some .int), Cond.methodLink RJ0 640 yJ2_indexOf_4cfef, Cond.static yJ2_indexOf_4cfef, Cond.code yJ2_indexOf_4cfef cJ2_indexOf_4cfef 4 (some .int), Cond.methodLink RJ2 224 Lib.Math.max.name, Cond.methodLink RJ2 228 yJ2_indexOfChar_4cfef, Cond.static yJ2_indexOfChar_4cfef, Cond.code yJ2_indexOfChar_4cfef cJ2_indexOfChar_4cfef 4 (some .int), Cond.methodLink RJ2 96 yJ2_checkBoundsBeginEnd_d044e, Cond.static yJ2_checkBoundsBeginEnd_d044e, Cond.code yJ2_checkBoundsBeginEnd_d044e cJ2_checkBoundsBeginEnd_d044e 3 none, Cond.methodLink RJ2 241 yJ0_checkBoundsBeginEnd_23922, Cond.static yJ0_checkBoundsBeginEnd_23922, Cond.code yJ0_checkBoundsBeginEnd_23922 cJ0_checkBoundsBeginEnd_23922 3 none, Cond.methodLink RJ0 1062 yJ3_checkFromToIndex_8c36e]
def wsX6_readGame_r9 : List Cond := [Cond.static yJ3_checkFromToIndex_8c36e, Cond.code yJ3_checkFromToIndex_8c36e cJ3_checkFromToIndex_8c36e 4 (some .int), Cond.methodLink RJ2 244 yJ2_indexOfCharUnsafe_4cfef, Cond.static yJ2_indexOfCharUnsafe_4cfef, Cond.code yJ2_indexOfCharUnsafe_4cfef cJ2_indexOfCharUnsafe_4cfef 5 (some .int), Cond.methodLink RJ2 232 yJ2_indexOfSupplementary_4cfef, Cond.static yJ2_indexOfSupplementary_4cfef, Cond.code yJ2_indexOfSupplementary_4cfef cJ2_indexOfSupplementary_4cfef 7 (some .int), Cond.methodLink RX6 120 yX6_turn, Cond.instanceMethod yX6_turn, Cond.selects RX6 yX6_turn yX6_turn, Cond.code yX6_turn cX6_turn 1 (some .int), Cond.methodLink RX6 108 yX6_reaches, Cond.instanceMethod yX6_reaches, Cond.selects RX6 yX6_reaches yX6_reaches, Cond.code yX6_reaches cX6_reaches 9 (some .boolean), Cond.fieldLink RX6 13 "BoardNotationModel" "manySteps" "[I", Cond.methodLink RX6 98 yX6_sideOf, Cond.static yX6_sideOf, Cond.code yX6_sideOf cX6_sideOf 1 (some .int), Cond.methodLink RX6 101 yX6_reach, Cond.instanceMethod yX6_reach, Cond.selects RX6 yX6_reach yX6_reach, Cond.code yX6_reach cX6_reach 3 (some .int)]
def wsX6_readGame_r10 : List Cond := [Cond.fieldLink RX6 16 "BoardNotationModel" "steps" "[I", Cond.methodLink RX6 104 yX6_target, Cond.instanceMethod yX6_target, Cond.selects RX6 yX6_target yX6_target, Cond.code yX6_target cX6_target 8 (some .int), Cond.methodLink RX6 116 yX6_isLegal, Cond.instanceMethod yX6_isLegal, Cond.selects RX6 yX6_isLegal yX6_isLegal, Cond.code yX6_isLegal cX6_isLegal 3 (some .boolean), Cond.fieldLink RX6 25 "BoardNotationModel" "trial" "[I", Cond.methodLink RX6 112 yX6_isChecked, Cond.instanceMethod yX6_isChecked, Cond.selects RX6 yX6_isChecked yX6_isChecked, Cond.code yX6_isChecked cX6_isChecked 5 (some .boolean), Cond.methodLink RX6 196 yX6_sign, Cond.instanceMethod yX6_sign, Cond.selects RX6 yX6_sign yX6_sign, Cond.code yX6_sign cX6_sign 6 (some .int), Cond.methodLink RX6 124 yX6_legalMoves, Cond.instanceMethod yX6_legalMoves, Cond.selects RX6 yX6_legalMoves yX6_legalMoves, Cond.code yX6_legalMoves cX6_legalMoves 6 (some .int), Cond.methodLink RX6 139 yX6_known, Cond.instanceMethod yX6_known]
def wsX6_readGame_r11 : List Cond := [Cond.selects RX6 yX6_known yX6_known, Cond.code yX6_known cX6_known 5 (some .int), Cond.methodLink RX6 136 yX6_continuation0, Cond.instanceMethod yX6_continuation0, Cond.selects RX6 yX6_continuation0 yX6_continuation0, Cond.code yX6_continuation0 cX6_continuation0 3 (some .int), Cond.fieldLink RX6 36 "BoardNotationModel" "continuations" "[I", Cond.methodLink RX6 142 yX6_playOn, Cond.instanceMethod yX6_playOn, Cond.selects RX6 yX6_playOn yX6_playOn, Cond.code yX6_playOn cX6_playOn 5 none, Cond.arrayClass .int]
def wsX6_readGame : List Cond := .code yX6_readGame cX6_readGame 6 (some .int) :: ((wsX6_readGame_r1 ++ (wsX6_readGame_r2 ++ (wsX6_readGame_r3 ++ (wsX6_readGame_r4 ++ (wsX6_readGame_r5 ++ (wsX6_readGame_r6 ++ (wsX6_readGame_r7 ++ (wsX6_readGame_r8 ++ (wsX6_readGame_r9 ++ (wsX6_readGame_r10 ++ wsX6_readGame_r11)))))))))) ++ wsX60)
def wsX6_clear_r1 : List Cond := [Cond.fieldLink RX6 66 "BoardNotationModel" "thrown" "I", Cond.fieldLink RX6 28 "BoardNotationModel" "nodes" "I", Cond.methodLink RX6 234 yX6_clearNodes, Cond.instanceMethod yX6_clearNodes, Cond.selects RX6 yX6_clearNodes yX6_clearNodes, Cond.initialized RX6, Cond.code yX6_clearNodes cX6_clearNodes 1 none, Cond.fieldLink RX6 32 "BoardNotationModel" "table" "[I", Cond.fieldLink RX6 95 "BoardNotationModel" "present" "I", Cond.methodLink RX6 222 yX6_set, Cond.instanceMethod yX6_set, Cond.selects RX6 yX6_set yX6_set, Cond.code yX6_set cX6_set 4 none, Cond.fieldLink RX6 19 "BoardNotationModel" "first" "[I", Cond.fieldLink RX6 22 "BoardNotationModel" "board" "[I", Cond.methodLink RX6 60 arraycopyName, Cond.native arraycopyName, Cond.static arraycopyName, Cond.initialized "java/lang/System", Cond.fieldLink RX6 51 "BoardNotationModel" "way" "[I", Cond.methodLink RX6 87 yX6_get, Cond.instanceMethod yX6_get, Cond.selects RX6 yX6_get yX6_get, Cond.code yX6_get cX6_get 3 (some .int)]
def wsX6_clear_r2 : List Cond := [Cond.methodLink RX6 91 yX6_play, Cond.static yX6_play, Cond.code yX6_play cX6_play 3 none]
def wsX6_clear : List Cond := .code yX6_clear cX6_clear 2 (some .int) :: ((wsX6_clear_r1 ++ wsX6_clear_r2) ++ wsX60)
def wsX6_branching : List Cond := .code yX6_branching cX6_branching 4 (some .double) :: ([.fieldLink RX6 66 "BoardNotationModel" "thrown" "I", .fieldLink RX6 28 "BoardNotationModel" "nodes" "I", .methodLink RX6 87 yX6_get, .instanceMethod yX6_get, .selects RX6 yX6_get yX6_get, .initialized RX6, .code yX6_get cX6_get 3 (some .int), .fieldLink RX6 32 "BoardNotationModel" "table" "[I"] ++ wsX60)
def wsX6_digest_r1 : List Cond := [Cond.fieldLink RX6 66 "BoardNotationModel" "thrown" "I", Cond.constantLong RX6 243 (353), Cond.constantLong RX6 245 (31), Cond.fieldLink RX6 22 "BoardNotationModel" "board" "[I", Cond.fieldLink RX6 28 "BoardNotationModel" "nodes" "I", Cond.fieldLink RX6 127 "BoardNotationModel" "taped" "I", Cond.fieldLink RX6 39 "BoardNotationModel" "tape" "[I", Cond.methodLink RX6 130 yX6_stateTold, Cond.instanceMethod yX6_stateTold, Cond.selects RX6 yX6_stateTold yX6_stateTold, Cond.initialized RX6, Cond.code yX6_stateTold cX6_stateTold 2 (some .int), Cond.fieldLink RX6 95 "BoardNotationModel" "present" "I", Cond.fieldLink RX6 80 "BoardNotationModel" "kinds" "I", Cond.methodLink RX6 120 yX6_turn, Cond.instanceMethod yX6_turn, Cond.selects RX6 yX6_turn yX6_turn, Cond.code yX6_turn cX6_turn 1 (some .int), Cond.methodLink RX6 87 yX6_get, Cond.instanceMethod yX6_get, Cond.selects RX6 yX6_get yX6_get, Cond.code yX6_get cX6_get 3 (some .int), Cond.fieldLink RX6 32 "BoardNotationModel" "table" "[I", Cond.methodLink RX6 112 yX6_isChecked]
def wsX6_digest_r2 : List Cond := [Cond.instanceMethod yX6_isChecked, Cond.selects RX6 yX6_isChecked yX6_isChecked, Cond.code yX6_isChecked cX6_isChecked 5 (some .boolean), Cond.methodLink RX6 98 yX6_sideOf, Cond.static yX6_sideOf, Cond.code yX6_sideOf cX6_sideOf 1 (some .int), Cond.methodLink RX6 108 yX6_reaches, Cond.instanceMethod yX6_reaches, Cond.selects RX6 yX6_reaches yX6_reaches, Cond.code yX6_reaches cX6_reaches 9 (some .boolean), Cond.fieldLink RX6 13 "BoardNotationModel" "manySteps" "[I", Cond.methodLink RX6 101 yX6_reach, Cond.instanceMethod yX6_reach, Cond.selects RX6 yX6_reach yX6_reach, Cond.code yX6_reach cX6_reach 3 (some .int), Cond.fieldLink RX6 16 "BoardNotationModel" "steps" "[I", Cond.methodLink RX6 104 yX6_target, Cond.instanceMethod yX6_target, Cond.selects RX6 yX6_target yX6_target, Cond.code yX6_target cX6_target 8 (some .int), Cond.methodLink RX6 69 yX6_isIn, Cond.static yX6_isIn, Cond.code yX6_isIn cX6_isIn 3 (some .boolean), Cond.methodLink RX6 124 yX6_legalMoves]
def wsX6_digest_r3 : List Cond := [Cond.instanceMethod yX6_legalMoves, Cond.selects RX6 yX6_legalMoves yX6_legalMoves, Cond.code yX6_legalMoves cX6_legalMoves 6 (some .int), Cond.methodLink RX6 116 yX6_isLegal, Cond.instanceMethod yX6_isLegal, Cond.selects RX6 yX6_isLegal yX6_isLegal, Cond.code yX6_isLegal cX6_isLegal 3 (some .boolean), Cond.fieldLink RX6 25 "BoardNotationModel" "trial" "[I", Cond.methodLink RX6 60 arraycopyName, Cond.native arraycopyName, Cond.static arraycopyName, Cond.initialized "java/lang/System", Cond.methodLink RX6 91 yX6_play, Cond.static yX6_play, Cond.code yX6_play cX6_play 3 none, Cond.methodLink RX6 136 yX6_continuation0, Cond.instanceMethod yX6_continuation0, Cond.selects RX6 yX6_continuation0 yX6_continuation0, Cond.code yX6_continuation0 cX6_continuation0 3 (some .int), Cond.fieldLink RX6 36 "BoardNotationModel" "continuations" "[I"]
def wsX6_digest : List Cond := .code yX6_digest cX6_digest 5 (some .long) :: ((wsX6_digest_r1 ++ (wsX6_digest_r2 ++ wsX6_digest_r3)) ++ wsX60)
def wsJ9_max_7cf53 : List Cond := .code yJ9_max_7cf53 cJ9_max_7cf53 2 (some .int) :: ([])
def wsJ9_min_7cf53 : List Cond := .code yJ9_min_7cf53 cJ9_min_7cf53 2 (some .int) :: ([])
def wsL_addKind_r1 : List Cond := [Cond.classLink RL 13 "java/lang/IllegalArgumentException", Cond.classLink RL 15 "java/lang/IllegalStateException", Cond.methodLink RL 7 yX5_addKind, Cond.instanceMethod yX5_addKind, Cond.selects RX5 yX5_addKind yX5_addKind, Cond.initialized RX5, Cond.code yX5_addKind cX5_addKind 2 (some .int), Cond.classLink RX5 86 "java/lang/IllegalArgumentException", Cond.initialized "java/lang/IllegalArgumentException", Cond.classLink RX5 98 "java/lang/IllegalStateException", Cond.initialized "java/lang/IllegalStateException", Cond.fieldLink RX5 12 "BoardNotation" "kinds" "LBoardNotation$Kinds;", Cond.fieldLink RX5 28 "BoardNotation" "tree" "LBoardNotation$Tree;", Cond.methodLink RX5 82 yX1_withLetter, Cond.instanceMethod yX1_withLetter, Cond.selects RX1 yX1_withLetter yX1_withLetter, Cond.initialized RX1, Cond.code yX1_withLetter cX1_withLetter 3 (some .int), Cond.fieldLink RX1 27 "BoardNotation$Kinds" "size" "I", Cond.fieldLink RX1 9 "BoardNotation$Kinds" "letters" "[I", Cond.methodLink RX5 93 yX1_size, Cond.instanceMethod yX1_size, Cond.selects RX1 yX1_size yX1_size, Cond.code yX1_size cX1_size 1 (some .int)]
def wsL_addKind_r2 : List Cond := [Cond.methodLink RX5 97 yX4_size, Cond.instanceMethod yX4_size, Cond.selects RX4 yX4_size yX4_size, Cond.initialized RX4, Cond.code yX4_size cX4_size 1 (some .int), Cond.fieldLink RX4 36 "BoardNotation$Tree" "size" "I", Cond.methodLink RX5 103 yX1_include, Cond.instanceMethod yX1_include, Cond.selects RX1 yX1_include yX1_include, Cond.code yX1_include cX1_include 2 (some .int)]
def wsL_addKind : List Cond := .codeWith yL_addKind cL_addKind 4 (some .int) [(0, 9, 12, 13), (0, 9, 15, 15)] :: ((wsL_addKind_r1 ++ wsL_addKind_r2) ++ wsX50 ++ wsX10 ++ wsX40 ++ (vx_atS RX5 90 "java/lang/IllegalArgumentException" ["java/lang/RuntimeException", "java/lang/Exception"]).filter goodWord ++ (vx_atS RX5 102 "java/lang/IllegalStateException" ["java/lang/RuntimeException", "java/lang/Exception"]).filter goodWord)
def wsL_addStep_r1 : List Cond := [Cond.classLink RL 21 "java/lang/IndexOutOfBoundsException", Cond.classLink RL 13 "java/lang/IllegalArgumentException", Cond.classLink RL 15 "java/lang/IllegalStateException", Cond.methodLink RL 17 yX5_addStep, Cond.instanceMethod yX5_addStep, Cond.selects RX5 yX5_addStep yX5_addStep, Cond.initialized RX5, Cond.code yX5_addStep cX5_addStep 5 (some .int), Cond.classLink RX5 110 "java/lang/IndexOutOfBoundsException", Cond.initialized "java/lang/IndexOutOfBoundsException", Cond.classLink RX5 86 "java/lang/IllegalArgumentException", Cond.initialized "java/lang/IllegalArgumentException", Cond.classLink RX5 98 "java/lang/IllegalStateException", Cond.initialized "java/lang/IllegalStateException", Cond.fieldLink RX5 12 "BoardNotation" "kinds" "LBoardNotation$Kinds;", Cond.fieldLink RX5 28 "BoardNotation" "tree" "LBoardNotation$Tree;", Cond.methodLink RX5 106 yX1_has, Cond.instanceMethod yX1_has, Cond.selects RX1 yX1_has yX1_has, Cond.initialized RX1, Cond.code yX1_has cX1_has 2 (some .boolean), Cond.fieldLink RX1 27 "BoardNotation$Kinds" "size" "I", Cond.methodLink RX5 115 yX5_isStep, Cond.static yX5_isStep]
def wsL_addStep_r2 : List Cond := [Cond.code yX5_isStep cX5_isStep 2 (some .boolean), Cond.methodLink RX5 121 yX1_stepCount, Cond.instanceMethod yX1_stepCount, Cond.selects RX1 yX1_stepCount yX1_stepCount, Cond.code yX1_stepCount cX1_stepCount 2 (some .int), Cond.fieldLink RX1 15 "BoardNotation$Kinds" "stepCounts" "[I", Cond.methodLink RX1 31 yX1_has, Cond.methodLink RX5 97 yX4_size, Cond.instanceMethod yX4_size, Cond.selects RX4 yX4_size yX4_size, Cond.initialized RX4, Cond.code yX4_size cX4_size 1 (some .int), Cond.fieldLink RX4 36 "BoardNotation$Tree" "size" "I", Cond.methodLink RX5 126 yX1_includeStep, Cond.instanceMethod yX1_includeStep, Cond.selects RX1 yX1_includeStep yX1_includeStep, Cond.code yX1_includeStep cX1_includeStep 6 (some .int), Cond.fieldLink RX1 18 "BoardNotation$Kinds" "stepX" "[I", Cond.fieldLink RX1 21 "BoardNotation$Kinds" "stepY" "[I", Cond.fieldLink RX1 24 "BoardNotation$Kinds" "stepReach" "[I"]
def wsL_addStep : List Cond := .codeWith yL_addStep cL_addStep 7 (some .int) [(0, 14, 17, 21), (0, 14, 21, 13), (0, 14, 25, 15)] :: ((wsL_addStep_r1 ++ wsL_addStep_r2) ++ wsX50 ++ wsX10 ++ wsX40 ++ (vx_atS RX5 114 "java/lang/IndexOutOfBoundsException" ["java/lang/RuntimeException", "java/lang/Exception"]).filter goodWord ++ (vx_atS RX5 90 "java/lang/IllegalArgumentException" ["java/lang/RuntimeException", "java/lang/Exception"]).filter goodWord ++ (vx_atS RX5 102 "java/lang/IllegalStateException" ["java/lang/RuntimeException", "java/lang/Exception"]).filter goodWord)
def wsL_put_r1 : List Cond := [Cond.classLink RL 21 "java/lang/IndexOutOfBoundsException", Cond.classLink RL 13 "java/lang/IllegalArgumentException", Cond.classLink RL 15 "java/lang/IllegalStateException", Cond.methodLink RL 23 yX5_put, Cond.instanceMethod yX5_put, Cond.selects RX5 yX5_put yX5_put, Cond.initialized RX5, Cond.code yX5_put cX5_put 4 (some .int), Cond.classLink RX5 110 "java/lang/IndexOutOfBoundsException", Cond.initialized "java/lang/IndexOutOfBoundsException", Cond.classLink RX5 86 "java/lang/IllegalArgumentException", Cond.initialized "java/lang/IllegalArgumentException", Cond.classLink RX5 98 "java/lang/IllegalStateException", Cond.initialized "java/lang/IllegalStateException", Cond.fieldLink RX5 12 "BoardNotation" "kinds" "LBoardNotation$Kinds;", Cond.fieldLink RX5 28 "BoardNotation" "tree" "LBoardNotation$Tree;", Cond.fieldLink RX5 21 "BoardNotation" "board" "LBoardNotation$Board;", Cond.methodLink RX5 130 yX5_isSquare, Cond.static yX5_isSquare, Cond.code yX5_isSquare cX5_isSquare 1 (some .boolean), Cond.methodLink RX5 106 yX1_has, Cond.instanceMethod yX1_has, Cond.selects RX1 yX1_has yX1_has, Cond.initialized RX1]
def wsL_put_r2 : List Cond := [Cond.code yX1_has cX1_has 2 (some .boolean), Cond.fieldLink RX1 27 "BoardNotation$Kinds" "size" "I", Cond.methodLink RX5 97 yX4_size, Cond.instanceMethod yX4_size, Cond.selects RX4 yX4_size yX4_size, Cond.initialized RX4, Cond.code yX4_size cX4_size 1 (some .int), Cond.fieldLink RX4 36 "BoardNotation$Tree" "size" "I", Cond.methodLink RX5 139 yX0_replace, Cond.instanceMethod yX0_replace, Cond.selects RX0 yX0_replace yX0_replace, Cond.initialized RX0, Cond.code yX0_replace cX0_replace 4 (some .int), Cond.fieldLink RX0 9 "BoardNotation$Board" "pieces" "[I"]
def wsL_put : List Cond := .codeWith yL_put cL_put 6 (some .int) [(0, 12, 15, 21), (0, 12, 19, 13), (0, 12, 23, 15)] :: ((wsL_put_r1 ++ wsL_put_r2) ++ wsX50 ++ wsX10 ++ wsX40 ++ wsX00 ++ (vx_atS RX5 114 "java/lang/IndexOutOfBoundsException" ["java/lang/RuntimeException", "java/lang/Exception"]).filter goodWord ++ (vx_atS RX5 90 "java/lang/IllegalArgumentException" ["java/lang/RuntimeException", "java/lang/Exception"]).filter goodWord ++ (vx_atS RX5 102 "java/lang/IllegalStateException" ["java/lang/RuntimeException", "java/lang/Exception"]).filter goodWord)
def wsL_at : List Cond := .codeWith yL_at cL_at 4 (some .int) [(0, 9, 12, 21)] :: ([.classLink RL 21 "java/lang/IndexOutOfBoundsException", .methodLink RL 27 yX5_at, .instanceMethod yX5_at, .selects RX5 yX5_at yX5_at, .initialized RX5, .code yX5_at cX5_at 2 (some .int), .classLink RX5 110 "java/lang/IndexOutOfBoundsException", .initialized "java/lang/IndexOutOfBoundsException", .fieldLink RX5 21 "BoardNotation" "board" "LBoardNotation$Board;", .methodLink RX5 130 yX5_isSquare, .static yX5_isSquare, .code yX5_isSquare cX5_isSquare 1 (some .boolean), .methodLink RX5 145 yX0_pieceOn, .instanceMethod yX0_pieceOn, .selects RX0 yX0_pieceOn yX0_pieceOn, .initialized RX0, .code yX0_pieceOn cX0_pieceOn 2 (some .int), .fieldLink RX0 9 "BoardNotation$Board" "pieces" "[I"] ++ wsX50 ++ wsX00 ++ (vx_atS RX5 114 "java/lang/IndexOutOfBoundsException" ["java/lang/RuntimeException", "java/lang/Exception"]).filter goodWord)
def wsL_state_r1 : List Cond := [Cond.classLink RL 21 "java/lang/IndexOutOfBoundsException", Cond.methodLink RL 30 yX5_state, Cond.instanceMethod yX5_state, Cond.selects RX5 yX5_state yX5_state, Cond.initialized RX5, Cond.code yX5_state cX5_state 2 (some .int), Cond.classLink RX5 110 "java/lang/IndexOutOfBoundsException", Cond.initialized "java/lang/IndexOutOfBoundsException", Cond.fieldLink RX5 21 "BoardNotation" "board" "LBoardNotation$Board;", Cond.fieldLink RX5 56 "BoardNotation" "present" "I", Cond.fieldLink RX5 28 "BoardNotation" "tree" "LBoardNotation$Tree;", Cond.fieldLink RX5 12 "BoardNotation" "kinds" "LBoardNotation$Kinds;", Cond.fieldLink RX5 49 "BoardNotation" "tape" "LBoardNotation$Text;", Cond.methodLink RX5 148 yX5_turn, Cond.instanceMethod yX5_turn, Cond.selects RX5 yX5_turn yX5_turn, Cond.code yX5_turn cX5_turn 1 (some .int), Cond.methodLink RX5 276 yX4_depth, Cond.instanceMethod yX4_depth, Cond.selects RX4 yX4_depth yX4_depth, Cond.initialized RX4, Cond.code yX4_depth cX4_depth 2 (some .int), Cond.fieldLink RX4 24 "BoardNotation$Tree" "depth" "[I", Cond.methodLink RX4 44 yX4_has]
def wsL_state_r2 : List Cond := [Cond.instanceMethod yX4_has, Cond.selects RX4 yX4_has yX4_has, Cond.code yX4_has cX4_has 2 (some .boolean), Cond.fieldLink RX4 36 "BoardNotation$Tree" "size" "I", Cond.methodLink RX5 151 yX0_inCheck, Cond.instanceMethod yX0_inCheck, Cond.selects RX0 yX0_inCheck yX0_inCheck, Cond.initialized RX0, Cond.code yX0_inCheck cX0_inCheck 6 (some .boolean), Cond.fieldLink RX0 9 "BoardNotation$Board" "pieces" "[I", Cond.methodLink RX0 58 yX0_royalsOf, Cond.instanceMethod yX0_royalsOf, Cond.selects RX0 yX0_royalsOf yX0_royalsOf, Cond.code yX0_royalsOf cX0_royalsOf 5 (some .long), Cond.methodLink RX0 36 yX0_reachedFrom, Cond.instanceMethod yX0_reachedFrom, Cond.selects RX0 yX0_reachedFrom yX0_reachedFrom, Cond.code yX0_reachedFrom cX0_reachedFrom 16 (some .long), Cond.fieldLink RX0 15 "BoardNotation$Board" "kinds" "LBoardNotation$Kinds;", Cond.methodLink RX5 154 yX0_countLegalMoves, Cond.instanceMethod yX0_countLegalMoves, Cond.selects RX0 yX0_countLegalMoves yX0_countLegalMoves, Cond.code yX0_countLegalMoves cX0_countLegalMoves 8 (some .int), Cond.methodLink RX0 72 yX0_keepsRoyalsSafe]
def wsL_state_r3 : List Cond := [Cond.instanceMethod yX0_keepsRoyalsSafe, Cond.selects RX0 yX0_keepsRoyalsSafe yX0_keepsRoyalsSafe, Cond.code yX0_keepsRoyalsSafe cX0_keepsRoyalsSafe 6 (some .boolean), Cond.methodLink RX0 29 yX0_pieceOn, Cond.instanceMethod yX0_pieceOn, Cond.selects RX0 yX0_pieceOn yX0_pieceOn, Cond.code yX0_pieceOn cX0_pieceOn 2 (some .int), Cond.static yX5_isSquare, Cond.code yX5_isSquare cX5_isSquare 1 (some .boolean), Cond.methodLink RX0 61 yX0_move, Cond.instanceMethod yX0_move, Cond.selects RX0 yX0_move yX0_move, Cond.code yX0_move cX0_move 4 (some .int), Cond.methodLink RX0 65 yX0_inCheck, Cond.methodLink RX0 68 yX0_takeBack, Cond.instanceMethod yX0_takeBack, Cond.selects RX0 yX0_takeBack yX0_takeBack, Cond.code yX0_takeBack cX0_takeBack 4 none, Cond.methodLink RX5 97 yX4_size, Cond.instanceMethod yX4_size, Cond.selects RX4 yX4_size yX4_size, Cond.code yX4_size cX4_size 1 (some .int), Cond.methodLink RX5 93 yX1_size, Cond.instanceMethod yX1_size]
def wsL_state_r4 : List Cond := [Cond.selects RX1 yX1_size yX1_size, Cond.initialized RX1, Cond.code yX1_size cX1_size 1 (some .int), Cond.fieldLink RX1 27 "BoardNotation$Kinds" "size" "I", Cond.methodLink RX5 157 yX3_size, Cond.instanceMethod yX3_size, Cond.selects RX3 yX3_size yX3_size, Cond.initialized RX3, Cond.code yX3_size cX3_size 1 (some .int), Cond.fieldLink RX3 15 "BoardNotation$Text" "size" "I"]
def wsL_state : List Cond := .codeWith yL_state cL_state 4 (some .int) [(0, 9, 12, 21)] :: ((wsL_state_r1 ++ (wsL_state_r2 ++ (wsL_state_r3 ++ wsL_state_r4))) ++ wsX50 ++ wsX40 ++ wsX00 ++ wsX10 ++ wsX30 ++ (vx_atS RX5 114 "java/lang/IndexOutOfBoundsException" ["java/lang/RuntimeException", "java/lang/Exception"]).filter goodWord)
def wsL_reason_r1 : List Cond := [Cond.classLink RL 21 "java/lang/IndexOutOfBoundsException", Cond.methodLink RL 33 yX5_reason, Cond.instanceMethod yX5_reason, Cond.selects RX5 yX5_reason yX5_reason, Cond.initialized RX5, Cond.code yX5_reason cX5_reason 3 (some .int), Cond.classLink RX5 110 "java/lang/IndexOutOfBoundsException", Cond.initialized "java/lang/IndexOutOfBoundsException", Cond.methodLink RX5 130 yX5_isSquare, Cond.static yX5_isSquare, Cond.code yX5_isSquare cX5_isSquare 1 (some .boolean), Cond.methodLink RX5 160 yX5_reasonAgainst, Cond.instanceMethod yX5_reasonAgainst, Cond.selects RX5 yX5_reasonAgainst yX5_reasonAgainst, Cond.code yX5_reasonAgainst cX5_reasonAgainst 3 (some .int), Cond.fieldLink RX5 21 "BoardNotation" "board" "LBoardNotation$Board;", Cond.methodLink RX5 148 yX5_turn, Cond.instanceMethod yX5_turn, Cond.selects RX5 yX5_turn yX5_turn, Cond.code yX5_turn cX5_turn 1 (some .int), Cond.fieldLink RX5 28 "BoardNotation" "tree" "LBoardNotation$Tree;", Cond.fieldLink RX5 56 "BoardNotation" "present" "I", Cond.methodLink RX5 276 yX4_depth, Cond.instanceMethod yX4_depth]
def wsL_reason_r2 : List Cond := [Cond.selects RX4 yX4_depth yX4_depth, Cond.initialized RX4, Cond.code yX4_depth cX4_depth 2 (some .int), Cond.fieldLink RX4 24 "BoardNotation$Tree" "depth" "[I", Cond.methodLink RX4 44 yX4_has, Cond.instanceMethod yX4_has, Cond.selects RX4 yX4_has yX4_has, Cond.code yX4_has cX4_has 2 (some .boolean), Cond.fieldLink RX4 36 "BoardNotation$Tree" "size" "I", Cond.methodLink RX5 279 yX0_isOf, Cond.instanceMethod yX0_isOf, Cond.selects RX0 yX0_isOf yX0_isOf, Cond.initialized RX0, Cond.code yX0_isOf cX0_isOf 3 (some .boolean), Cond.methodLink RX0 33 yX0_isTaken, Cond.instanceMethod yX0_isTaken, Cond.selects RX0 yX0_isTaken yX0_isTaken, Cond.code yX0_isTaken cX0_isTaken 2 (some .boolean), Cond.methodLink RX0 29 yX0_pieceOn, Cond.instanceMethod yX0_pieceOn, Cond.selects RX0 yX0_pieceOn yX0_pieceOn, Cond.code yX0_pieceOn cX0_pieceOn 2 (some .int), Cond.fieldLink RX0 9 "BoardNotation$Board" "pieces" "[I", Cond.methodLink RX5 282 yX0_reaches]
def wsL_reason_r3 : List Cond := [Cond.instanceMethod yX0_reaches, Cond.selects RX0 yX0_reaches yX0_reaches, Cond.code yX0_reaches cX0_reaches 3 (some .boolean), Cond.methodLink RX0 36 yX0_reachedFrom, Cond.instanceMethod yX0_reachedFrom, Cond.selects RX0 yX0_reachedFrom yX0_reachedFrom, Cond.code yX0_reachedFrom cX0_reachedFrom 16 (some .long), Cond.fieldLink RX0 15 "BoardNotation$Board" "kinds" "LBoardNotation$Kinds;", Cond.methodLink RX5 285 yX0_keepsRoyalsSafe, Cond.instanceMethod yX0_keepsRoyalsSafe, Cond.selects RX0 yX0_keepsRoyalsSafe yX0_keepsRoyalsSafe, Cond.code yX0_keepsRoyalsSafe cX0_keepsRoyalsSafe 6 (some .boolean), Cond.methodLink RX0 61 yX0_move, Cond.instanceMethod yX0_move, Cond.selects RX0 yX0_move yX0_move, Cond.code yX0_move cX0_move 4 (some .int), Cond.methodLink RX0 65 yX0_inCheck, Cond.instanceMethod yX0_inCheck, Cond.selects RX0 yX0_inCheck yX0_inCheck, Cond.code yX0_inCheck cX0_inCheck 6 (some .boolean), Cond.methodLink RX0 58 yX0_royalsOf, Cond.instanceMethod yX0_royalsOf, Cond.selects RX0 yX0_royalsOf yX0_royalsOf, Cond.code yX0_royalsOf cX0_royalsOf 5 (some .long)]
def wsL_reason_r4 : List Cond := [Cond.methodLink RX0 68 yX0_takeBack, Cond.instanceMethod yX0_takeBack, Cond.selects RX0 yX0_takeBack yX0_takeBack, Cond.code yX0_takeBack cX0_takeBack 4 none]
def wsL_reason : List Cond := .codeWith yL_reason cL_reason 5 (some .int) [(0, 10, 13, 21)] :: ((wsL_reason_r1 ++ (wsL_reason_r2 ++ (wsL_reason_r3 ++ wsL_reason_r4))) ++ wsX50 ++ wsX40 ++ wsX00 ++ wsX10 ++ (vx_atS RX5 114 "java/lang/IndexOutOfBoundsException" ["java/lang/RuntimeException", "java/lang/Exception"]).filter goodWord)
def wsL_play_r1 : List Cond := [Cond.classLink RL 21 "java/lang/IndexOutOfBoundsException", Cond.classLink RL 15 "java/lang/IllegalStateException", Cond.methodLink RL 37 yX5_play, Cond.instanceMethod yX5_play, Cond.selects RX5 yX5_play yX5_play, Cond.initialized RX5, Cond.code yX5_play cX5_play 3 (some .int), Cond.classLink RX5 110 "java/lang/IndexOutOfBoundsException", Cond.initialized "java/lang/IndexOutOfBoundsException", Cond.classLink RX5 98 "java/lang/IllegalStateException", Cond.initialized "java/lang/IllegalStateException", Cond.fieldLink RX5 56 "BoardNotation" "present" "I", Cond.methodLink RX5 130 yX5_isSquare, Cond.static yX5_isSquare, Cond.code yX5_isSquare cX5_isSquare 1 (some .boolean), Cond.methodLink RX5 160 yX5_reasonAgainst, Cond.instanceMethod yX5_reasonAgainst, Cond.selects RX5 yX5_reasonAgainst yX5_reasonAgainst, Cond.code yX5_reasonAgainst cX5_reasonAgainst 3 (some .int), Cond.fieldLink RX5 21 "BoardNotation" "board" "LBoardNotation$Board;", Cond.methodLink RX5 148 yX5_turn, Cond.instanceMethod yX5_turn, Cond.selects RX5 yX5_turn yX5_turn, Cond.code yX5_turn cX5_turn 1 (some .int)]
def wsL_play_r2 : List Cond := [Cond.fieldLink RX5 28 "BoardNotation" "tree" "LBoardNotation$Tree;", Cond.methodLink RX5 276 yX4_depth, Cond.instanceMethod yX4_depth, Cond.selects RX4 yX4_depth yX4_depth, Cond.initialized RX4, Cond.code yX4_depth cX4_depth 2 (some .int), Cond.fieldLink RX4 24 "BoardNotation$Tree" "depth" "[I", Cond.methodLink RX4 44 yX4_has, Cond.instanceMethod yX4_has, Cond.selects RX4 yX4_has yX4_has, Cond.code yX4_has cX4_has 2 (some .boolean), Cond.fieldLink RX4 36 "BoardNotation$Tree" "size" "I", Cond.methodLink RX5 279 yX0_isOf, Cond.instanceMethod yX0_isOf, Cond.selects RX0 yX0_isOf yX0_isOf, Cond.initialized RX0, Cond.code yX0_isOf cX0_isOf 3 (some .boolean), Cond.methodLink RX0 33 yX0_isTaken, Cond.instanceMethod yX0_isTaken, Cond.selects RX0 yX0_isTaken yX0_isTaken, Cond.code yX0_isTaken cX0_isTaken 2 (some .boolean), Cond.methodLink RX0 29 yX0_pieceOn, Cond.instanceMethod yX0_pieceOn, Cond.selects RX0 yX0_pieceOn yX0_pieceOn]
def wsL_play_r3 : List Cond := [Cond.code yX0_pieceOn cX0_pieceOn 2 (some .int), Cond.fieldLink RX0 9 "BoardNotation$Board" "pieces" "[I", Cond.methodLink RX5 282 yX0_reaches, Cond.instanceMethod yX0_reaches, Cond.selects RX0 yX0_reaches yX0_reaches, Cond.code yX0_reaches cX0_reaches 3 (some .boolean), Cond.methodLink RX0 36 yX0_reachedFrom, Cond.instanceMethod yX0_reachedFrom, Cond.selects RX0 yX0_reachedFrom yX0_reachedFrom, Cond.code yX0_reachedFrom cX0_reachedFrom 16 (some .long), Cond.fieldLink RX0 15 "BoardNotation$Board" "kinds" "LBoardNotation$Kinds;", Cond.methodLink RX5 285 yX0_keepsRoyalsSafe, Cond.instanceMethod yX0_keepsRoyalsSafe, Cond.selects RX0 yX0_keepsRoyalsSafe yX0_keepsRoyalsSafe, Cond.code yX0_keepsRoyalsSafe cX0_keepsRoyalsSafe 6 (some .boolean), Cond.methodLink RX0 61 yX0_move, Cond.instanceMethod yX0_move, Cond.selects RX0 yX0_move yX0_move, Cond.code yX0_move cX0_move 4 (some .int), Cond.methodLink RX0 65 yX0_inCheck, Cond.instanceMethod yX0_inCheck, Cond.selects RX0 yX0_inCheck yX0_inCheck, Cond.code yX0_inCheck cX0_inCheck 6 (some .boolean), Cond.methodLink RX0 58 yX0_royalsOf]
def wsL_play_r4 : List Cond := [Cond.instanceMethod yX0_royalsOf, Cond.selects RX0 yX0_royalsOf yX0_royalsOf, Cond.code yX0_royalsOf cX0_royalsOf 5 (some .long), Cond.methodLink RX0 68 yX0_takeBack, Cond.instanceMethod yX0_takeBack, Cond.selects RX0 yX0_takeBack yX0_takeBack, Cond.code yX0_takeBack cX0_takeBack 4 none, Cond.methodLink RX5 165 yX5_follow, Cond.instanceMethod yX5_follow, Cond.selects RX5 yX5_follow yX5_follow, Cond.code yX5_follow cX5_follow 4 (some .boolean), Cond.methodLink RX5 319 yX4_childOfMove, Cond.instanceMethod yX4_childOfMove, Cond.selects RX4 yX4_childOfMove yX4_childOfMove, Cond.code yX4_childOfMove cX4_childOfMove 6 (some .int), Cond.fieldLink RX4 15 "BoardNotation$Tree" "from" "[I", Cond.fieldLink RX4 18 "BoardNotation$Tree" "to" "[I", Cond.fieldLink RX4 33 "BoardNotation$Tree" "nextBeside" "[I", Cond.methodLink RX4 59 yX4_child, Cond.instanceMethod yX4_child, Cond.selects RX4 yX4_child yX4_child, Cond.code yX4_child cX4_child 5 (some .int), Cond.fieldLink RX4 27 "BoardNotation$Tree" "childCount" "[I", Cond.fieldLink RX4 30 "BoardNotation$Tree" "firstChild" "[I"]
def wsL_play_r5 : List Cond := [Cond.methodLink RX4 57 yX4_childCount, Cond.instanceMethod yX4_childCount, Cond.selects RX4 yX4_childCount yX4_childCount, Cond.code yX4_childCount cX4_childCount 2 (some .int), Cond.methodLink RX5 97 yX4_size, Cond.instanceMethod yX4_size, Cond.selects RX4 yX4_size yX4_size, Cond.code yX4_size cX4_size 1 (some .int), Cond.methodLink RX5 323 yX4_grow, Cond.instanceMethod yX4_grow, Cond.selects RX4 yX4_grow yX4_grow, Cond.code yX4_grow cX4_grow 6 (some .int), Cond.methodLink RX4 40 yX4_occupy, Cond.instanceMethod yX4_occupy, Cond.selects RX4 yX4_occupy yX4_occupy, Cond.code yX4_occupy cX4_occupy 5 (some .int), Cond.fieldLink RX4 9 "BoardNotation$Tree" "above" "[I", Cond.fieldLink RX4 21 "BoardNotation$Tree" "taken" "[I", Cond.methodLink RX5 313 yX5_stepDown, Cond.instanceMethod yX5_stepDown, Cond.selects RX5 yX5_stepDown yX5_stepDown, Cond.code yX5_stepDown cX5_stepDown 2 none, Cond.methodLink RX5 237 yX4_from, Cond.instanceMethod yX4_from]
def wsL_play_r6 : List Cond := [Cond.selects RX4 yX4_from yX4_from, Cond.code yX4_from cX4_from 2 (some .int), Cond.methodLink RX5 240 yX4_to, Cond.instanceMethod yX4_to, Cond.selects RX4 yX4_to yX4_to, Cond.code yX4_to cX4_to 2 (some .int), Cond.methodLink RX5 288 yX0_move, Cond.methodLink RX5 291 yX4_keepTaken, Cond.instanceMethod yX4_keepTaken, Cond.selects RX4 yX4_keepTaken yX4_keepTaken, Cond.code yX4_keepTaken cX4_keepTaken 3 none]
def wsL_play : List Cond := .codeWith yL_play cL_play 5 (some .int) [(0, 10, 13, 21), (0, 10, 17, 15)] :: ((wsL_play_r1 ++ (wsL_play_r2 ++ (wsL_play_r3 ++ (wsL_play_r4 ++ (wsL_play_r5 ++ wsL_play_r6))))) ++ wsX50 ++ wsX40 ++ wsX00 ++ wsX10 ++ (vx_atS RX5 114 "java/lang/IndexOutOfBoundsException" ["java/lang/RuntimeException", "java/lang/Exception"]).filter goodWord ++ (vx_atS RX5 102 "java/lang/IllegalStateException" ["java/lang/RuntimeException", "java/lang/Exception"]).filter goodWord)
def wsL_feed_r1 : List Cond := [Cond.classLink RL 13 "java/lang/IllegalArgumentException", Cond.classLink RL 15 "java/lang/IllegalStateException", Cond.methodLink RL 40 yX5_feed, Cond.instanceMethod yX5_feed, Cond.selects RX5 yX5_feed yX5_feed, Cond.initialized RX5, Cond.code yX5_feed cX5_feed 6 (some .int), Cond.classLink RX5 86 "java/lang/IllegalArgumentException", Cond.initialized "java/lang/IllegalArgumentException", Cond.classLink RX5 98 "java/lang/IllegalStateException", Cond.initialized "java/lang/IllegalStateException", Cond.fieldLink RX5 49 "BoardNotation" "tape" "LBoardNotation$Text;", Cond.methodLink RX5 170 yX5_isByteOrNothing, Cond.static yX5_isByteOrNothing, Cond.code yX5_isByteOrNothing cX5_isByteOrNothing 1 (some .boolean), Cond.methodLink RX5 175 yX5_countByte, Cond.static yX5_countByte, Cond.code yX5_countByte cX5_countByte 1 (some .int), Cond.methodLink RX5 157 yX3_size, Cond.instanceMethod yX3_size, Cond.selects RX3 yX3_size yX3_size, Cond.initialized RX3, Cond.code yX3_size cX3_size 1 (some .int), Cond.fieldLink RX3 15 "BoardNotation$Text" "size" "I"]
def wsL_feed_r2 : List Cond := [Cond.methodLink RX5 180 yX3_append, Cond.instanceMethod yX3_append, Cond.selects RX3 yX3_append yX3_append, Cond.code yX3_append cX3_append 2 none, Cond.fieldLink RX3 9 "BoardNotation$Text" "bytes" "[I", Cond.fieldLink RX3 19 "BoardNotation$Text" "spilled" "Z", Cond.methodLink RX5 184 yX5_appendUnlessNothing, Cond.instanceMethod yX5_appendUnlessNothing, Cond.selects RX5 yX5_appendUnlessNothing yX5_appendUnlessNothing, Cond.code yX5_appendUnlessNothing cX5_appendUnlessNothing 2 none]
def wsL_feed : List Cond := .codeWith yL_feed cL_feed 7 (some .int) [(0, 14, 17, 13), (0, 14, 21, 15)] :: ((wsL_feed_r1 ++ wsL_feed_r2) ++ wsX50 ++ wsX30 ++ (vx_atS RX5 90 "java/lang/IllegalArgumentException" ["java/lang/RuntimeException", "java/lang/Exception"]).filter goodWord ++ (vx_atS RX5 102 "java/lang/IllegalStateException" ["java/lang/RuntimeException", "java/lang/Exception"]).filter goodWord)
def wsL_found : List Cond := .codeWith yL_found cL_found 4 (some .int) [(0, 9, 12, 21)] :: ([.classLink RL 21 "java/lang/IndexOutOfBoundsException", .methodLink RL 43 yX5_found, .instanceMethod yX5_found, .selects RX5 yX5_found yX5_found, .initialized RX5, .code yX5_found cX5_found 2 (some .int), .classLink RX5 110 "java/lang/IndexOutOfBoundsException", .initialized "java/lang/IndexOutOfBoundsException", .fieldLink RX5 73 "BoardNotation" "errorPlace" "I", .fieldLink RX5 76 "BoardNotation" "foundFrom" "I", .fieldLink RX5 79 "BoardNotation" "foundTo" "I"] ++ wsX50 ++ (vx_atS RX5 114 "java/lang/IndexOutOfBoundsException" ["java/lang/RuntimeException", "java/lang/Exception"]).filter goodWord)
def wsL_write_r1 : List Cond := [Cond.classLink RL 21 "java/lang/IndexOutOfBoundsException", Cond.classLink RL 15 "java/lang/IllegalStateException", Cond.methodLink RL 46 yX5_write, Cond.instanceMethod yX5_write, Cond.selects RX5 yX5_write yX5_write, Cond.initialized RX5, Cond.code yX5_write cX5_write 3 (some .int), Cond.classLink RX5 110 "java/lang/IndexOutOfBoundsException", Cond.initialized "java/lang/IndexOutOfBoundsException", Cond.classLink RX5 98 "java/lang/IllegalStateException", Cond.initialized "java/lang/IllegalStateException", Cond.fieldLink RX5 49 "BoardNotation" "tape" "LBoardNotation$Text;", Cond.methodLink RX5 130 yX5_isSquare, Cond.static yX5_isSquare, Cond.code yX5_isSquare cX5_isSquare 1 (some .boolean), Cond.methodLink RX5 160 yX5_reasonAgainst, Cond.instanceMethod yX5_reasonAgainst, Cond.selects RX5 yX5_reasonAgainst yX5_reasonAgainst, Cond.code yX5_reasonAgainst cX5_reasonAgainst 3 (some .int), Cond.fieldLink RX5 21 "BoardNotation" "board" "LBoardNotation$Board;", Cond.methodLink RX5 148 yX5_turn, Cond.instanceMethod yX5_turn, Cond.selects RX5 yX5_turn yX5_turn, Cond.code yX5_turn cX5_turn 1 (some .int)]
def wsL_write_r2 : List Cond := [Cond.fieldLink RX5 28 "BoardNotation" "tree" "LBoardNotation$Tree;", Cond.fieldLink RX5 56 "BoardNotation" "present" "I", Cond.methodLink RX5 276 yX4_depth, Cond.instanceMethod yX4_depth, Cond.selects RX4 yX4_depth yX4_depth, Cond.initialized RX4, Cond.code yX4_depth cX4_depth 2 (some .int), Cond.fieldLink RX4 24 "BoardNotation$Tree" "depth" "[I", Cond.methodLink RX4 44 yX4_has, Cond.instanceMethod yX4_has, Cond.selects RX4 yX4_has yX4_has, Cond.code yX4_has cX4_has 2 (some .boolean), Cond.fieldLink RX4 36 "BoardNotation$Tree" "size" "I", Cond.methodLink RX5 279 yX0_isOf, Cond.instanceMethod yX0_isOf, Cond.selects RX0 yX0_isOf yX0_isOf, Cond.initialized RX0, Cond.code yX0_isOf cX0_isOf 3 (some .boolean), Cond.methodLink RX0 33 yX0_isTaken, Cond.instanceMethod yX0_isTaken, Cond.selects RX0 yX0_isTaken yX0_isTaken, Cond.code yX0_isTaken cX0_isTaken 2 (some .boolean), Cond.methodLink RX0 29 yX0_pieceOn, Cond.instanceMethod yX0_pieceOn]
def wsL_write_r3 : List Cond := [Cond.selects RX0 yX0_pieceOn yX0_pieceOn, Cond.code yX0_pieceOn cX0_pieceOn 2 (some .int), Cond.fieldLink RX0 9 "BoardNotation$Board" "pieces" "[I", Cond.methodLink RX5 282 yX0_reaches, Cond.instanceMethod yX0_reaches, Cond.selects RX0 yX0_reaches yX0_reaches, Cond.code yX0_reaches cX0_reaches 3 (some .boolean), Cond.methodLink RX0 36 yX0_reachedFrom, Cond.instanceMethod yX0_reachedFrom, Cond.selects RX0 yX0_reachedFrom yX0_reachedFrom, Cond.code yX0_reachedFrom cX0_reachedFrom 16 (some .long), Cond.fieldLink RX0 15 "BoardNotation$Board" "kinds" "LBoardNotation$Kinds;", Cond.methodLink RX5 285 yX0_keepsRoyalsSafe, Cond.instanceMethod yX0_keepsRoyalsSafe, Cond.selects RX0 yX0_keepsRoyalsSafe yX0_keepsRoyalsSafe, Cond.code yX0_keepsRoyalsSafe cX0_keepsRoyalsSafe 6 (some .boolean), Cond.methodLink RX0 61 yX0_move, Cond.instanceMethod yX0_move, Cond.selects RX0 yX0_move yX0_move, Cond.code yX0_move cX0_move 4 (some .int), Cond.methodLink RX0 65 yX0_inCheck, Cond.instanceMethod yX0_inCheck, Cond.selects RX0 yX0_inCheck yX0_inCheck, Cond.code yX0_inCheck cX0_inCheck 6 (some .boolean)]
def wsL_write_r4 : List Cond := [Cond.methodLink RX0 58 yX0_royalsOf, Cond.instanceMethod yX0_royalsOf, Cond.selects RX0 yX0_royalsOf yX0_royalsOf, Cond.code yX0_royalsOf cX0_royalsOf 5 (some .long), Cond.methodLink RX0 68 yX0_takeBack, Cond.instanceMethod yX0_takeBack, Cond.selects RX0 yX0_takeBack yX0_takeBack, Cond.code yX0_takeBack cX0_takeBack 4 none, Cond.methodLink RX5 187 yX3_wipe, Cond.instanceMethod yX3_wipe, Cond.selects RX3 yX3_wipe yX3_wipe, Cond.initialized RX3, Cond.code yX3_wipe cX3_wipe 1 none, Cond.fieldLink RX3 15 "BoardNotation$Text" "size" "I", Cond.fieldLink RX3 19 "BoardNotation$Text" "spilled" "Z", Cond.methodLink RX5 198 yX5_writeMove, Cond.instanceMethod yX5_writeMove, Cond.selects RX5 yX5_writeMove yX5_writeMove, Cond.code yX5_writeMove cX5_writeMove 6 none, Cond.fieldLink RX5 12 "BoardNotation" "kinds" "LBoardNotation$Kinds;", Cond.methodLink RX5 145 yX0_pieceOn, Cond.methodLink RX5 350 yX1_letter, Cond.instanceMethod yX1_letter, Cond.selects RX1 yX1_letter yX1_letter]
def wsL_write_r5 : List Cond := [Cond.initialized RX1, Cond.code yX1_letter cX1_letter 2 (some .int), Cond.fieldLink RX1 9 "BoardNotation$Kinds" "letters" "[I", Cond.methodLink RX1 31 yX1_has, Cond.instanceMethod yX1_has, Cond.selects RX1 yX1_has yX1_has, Cond.code yX1_has cX1_has 2 (some .boolean), Cond.fieldLink RX1 27 "BoardNotation$Kinds" "size" "I", Cond.methodLink RX5 180 yX3_append, Cond.instanceMethod yX3_append, Cond.selects RX3 yX3_append yX3_append, Cond.code yX3_append cX3_append 2 none, Cond.fieldLink RX3 9 "BoardNotation$Text" "bytes" "[I", Cond.methodLink RX5 352 yX5_writeOrigin, Cond.instanceMethod yX5_writeOrigin, Cond.selects RX5 yX5_writeOrigin yX5_writeOrigin, Cond.code yX5_writeOrigin cX5_writeOrigin 9 none, Cond.methodLink RX5 341 yX0_isTaken, Cond.methodLink RX5 347 yX0_signBehind, Cond.instanceMethod yX0_signBehind, Cond.selects RX0 yX0_signBehind yX0_signBehind, Cond.code yX0_signBehind cX0_signBehind 6 (some .int), Cond.methodLink RX0 76 yX0_countLegalMoves, Cond.instanceMethod yX0_countLegalMoves]
def wsL_write_r6 : List Cond := [Cond.selects RX0 yX0_countLegalMoves yX0_countLegalMoves, Cond.code yX0_countLegalMoves cX0_countLegalMoves 8 (some .int), Cond.methodLink RX0 72 yX0_keepsRoyalsSafe, Cond.methodLink RX5 157 yX3_size, Cond.instanceMethod yX3_size, Cond.selects RX3 yX3_size yX3_size, Cond.code yX3_size cX3_size 1 (some .int)]
def wsL_write : List Cond := .codeWith yL_write cL_write 5 (some .int) [(0, 10, 13, 21), (0, 10, 17, 15)] :: ((wsL_write_r1 ++ (wsL_write_r2 ++ (wsL_write_r3 ++ (wsL_write_r4 ++ (wsL_write_r5 ++ wsL_write_r6))))) ++ wsX50 ++ wsX40 ++ wsX00 ++ wsX10 ++ wsX30 ++ (vx_atS RX5 114 "java/lang/IndexOutOfBoundsException" ["java/lang/RuntimeException", "java/lang/Exception"]).filter goodWord ++ (vx_atS RX5 102 "java/lang/IllegalStateException" ["java/lang/RuntimeException", "java/lang/Exception"]).filter goodWord)
def wsL_byteAt : List Cond := .codeWith yL_byteAt cL_byteAt 4 (some .int) [(0, 9, 12, 21)] :: ([.classLink RL 21 "java/lang/IndexOutOfBoundsException", .methodLink RL 49 yX5_byteAt, .instanceMethod yX5_byteAt, .selects RX5 yX5_byteAt yX5_byteAt, .initialized RX5, .code yX5_byteAt cX5_byteAt 2 (some .int), .classLink RX5 110 "java/lang/IndexOutOfBoundsException", .initialized "java/lang/IndexOutOfBoundsException", .fieldLink RX5 49 "BoardNotation" "tape" "LBoardNotation$Text;", .methodLink RX5 157 yX3_size, .instanceMethod yX3_size, .selects RX3 yX3_size yX3_size, .initialized RX3, .code yX3_size cX3_size 1 (some .int), .fieldLink RX3 15 "BoardNotation$Text" "size" "I", .methodLink RX5 204 yX3_get, .instanceMethod yX3_get, .selects RX3 yX3_get yX3_get, .code yX3_get cX3_get 2 (some .int), .fieldLink RX3 9 "BoardNotation$Text" "bytes" "[I"] ++ wsX50 ++ wsX30 ++ (vx_atS RX5 114 "java/lang/IndexOutOfBoundsException" ["java/lang/RuntimeException", "java/lang/Exception"]).filter goodWord)
def wsL_node_r1 : List Cond := [Cond.classLink RL 21 "java/lang/IndexOutOfBoundsException", Cond.methodLink RL 52 yX5_node, Cond.instanceMethod yX5_node, Cond.selects RX5 yX5_node yX5_node, Cond.initialized RX5, Cond.code yX5_node cX5_node 3 (some .int), Cond.classLink RX5 110 "java/lang/IndexOutOfBoundsException", Cond.initialized "java/lang/IndexOutOfBoundsException", Cond.fieldLink RX5 28 "BoardNotation" "tree" "LBoardNotation$Tree;", Cond.methodLink RX5 207 yX4_has, Cond.instanceMethod yX4_has, Cond.selects RX4 yX4_has yX4_has, Cond.initialized RX4, Cond.code yX4_has cX4_has 2 (some .boolean), Cond.fieldLink RX4 36 "BoardNotation$Tree" "size" "I", Cond.methodLink RX5 210 yX4_fact, Cond.instanceMethod yX4_fact, Cond.selects RX4 yX4_fact yX4_fact, Cond.code yX4_fact cX4_fact 3 (some .int), Cond.methodLink RX4 48 yX4_above, Cond.instanceMethod yX4_above, Cond.selects RX4 yX4_above yX4_above, Cond.code yX4_above cX4_above 2 (some .int), Cond.fieldLink RX4 9 "BoardNotation$Tree" "above" "[I"]
def wsL_node_r2 : List Cond := [Cond.methodLink RX4 44 yX4_has, Cond.methodLink RX4 51 yX4_from, Cond.instanceMethod yX4_from, Cond.selects RX4 yX4_from yX4_from, Cond.code yX4_from cX4_from 2 (some .int), Cond.fieldLink RX4 15 "BoardNotation$Tree" "from" "[I", Cond.methodLink RX4 53 yX4_to, Cond.instanceMethod yX4_to, Cond.selects RX4 yX4_to yX4_to, Cond.code yX4_to cX4_to 2 (some .int), Cond.fieldLink RX4 18 "BoardNotation$Tree" "to" "[I", Cond.methodLink RX4 55 yX4_depth, Cond.instanceMethod yX4_depth, Cond.selects RX4 yX4_depth yX4_depth, Cond.code yX4_depth cX4_depth 2 (some .int), Cond.fieldLink RX4 24 "BoardNotation$Tree" "depth" "[I", Cond.methodLink RX4 57 yX4_childCount, Cond.instanceMethod yX4_childCount, Cond.selects RX4 yX4_childCount yX4_childCount, Cond.code yX4_childCount cX4_childCount 2 (some .int), Cond.fieldLink RX4 27 "BoardNotation$Tree" "childCount" "[I"]
def wsL_node : List Cond := .codeWith yL_node cL_node 5 (some .int) [(0, 10, 13, 21)] :: ((wsL_node_r1 ++ wsL_node_r2) ++ wsX50 ++ wsX40 ++ (vx_atS RX5 114 "java/lang/IndexOutOfBoundsException" ["java/lang/RuntimeException", "java/lang/Exception"]).filter goodWord)
def wsL_continuation_r1 : List Cond := [Cond.classLink RL 21 "java/lang/IndexOutOfBoundsException", Cond.methodLink RL 55 yX5_continuation, Cond.instanceMethod yX5_continuation, Cond.selects RX5 yX5_continuation yX5_continuation, Cond.initialized RX5, Cond.code yX5_continuation cX5_continuation 3 (some .int), Cond.classLink RX5 110 "java/lang/IndexOutOfBoundsException", Cond.initialized "java/lang/IndexOutOfBoundsException", Cond.fieldLink RX5 28 "BoardNotation" "tree" "LBoardNotation$Tree;", Cond.methodLink RX5 207 yX4_has, Cond.instanceMethod yX4_has, Cond.selects RX4 yX4_has yX4_has, Cond.initialized RX4, Cond.code yX4_has cX4_has 2 (some .boolean), Cond.fieldLink RX4 36 "BoardNotation$Tree" "size" "I", Cond.methodLink RX5 213 yX4_childCount, Cond.instanceMethod yX4_childCount, Cond.selects RX4 yX4_childCount yX4_childCount, Cond.code yX4_childCount cX4_childCount 2 (some .int), Cond.fieldLink RX4 27 "BoardNotation$Tree" "childCount" "[I", Cond.methodLink RX4 44 yX4_has, Cond.methodLink RX5 218 yX4_child, Cond.instanceMethod yX4_child, Cond.selects RX4 yX4_child yX4_child]
def wsL_continuation_r2 : List Cond := [Cond.code yX4_child cX4_child 5 (some .int), Cond.fieldLink RX4 30 "BoardNotation$Tree" "firstChild" "[I", Cond.fieldLink RX4 33 "BoardNotation$Tree" "nextBeside" "[I"]
def wsL_continuation : List Cond := .codeWith yL_continuation cL_continuation 5 (some .int) [(0, 10, 13, 21)] :: ((wsL_continuation_r1 ++ wsL_continuation_r2) ++ wsX50 ++ wsX40 ++ (vx_atS RX5 114 "java/lang/IndexOutOfBoundsException" ["java/lang/RuntimeException", "java/lang/Exception"]).filter goodWord)
def wsL_goTo_r1 : List Cond := [Cond.classLink RL 21 "java/lang/IndexOutOfBoundsException", Cond.methodLink RL 58 yX5_goTo, Cond.instanceMethod yX5_goTo, Cond.selects RX5 yX5_goTo yX5_goTo, Cond.initialized RX5, Cond.code yX5_goTo cX5_goTo 2 (some .int), Cond.classLink RX5 110 "java/lang/IndexOutOfBoundsException", Cond.initialized "java/lang/IndexOutOfBoundsException", Cond.fieldLink RX5 28 "BoardNotation" "tree" "LBoardNotation$Tree;", Cond.methodLink RX5 207 yX4_has, Cond.instanceMethod yX4_has, Cond.selects RX4 yX4_has yX4_has, Cond.initialized RX4, Cond.code yX4_has cX4_has 2 (some .boolean), Cond.fieldLink RX4 36 "BoardNotation$Tree" "size" "I", Cond.methodLink RX5 223 yX5_visit, Cond.instanceMethod yX5_visit, Cond.selects RX5 yX5_visit yX5_visit, Cond.code yX5_visit cX5_visit 5 none, Cond.fieldLink RX5 56 "BoardNotation" "present" "I", Cond.fieldLink RX5 39 "BoardNotation" "path" "[I", Cond.methodLink RX5 308 Lib.Math.min.name, Cond.static Lib.Math.min.name, Cond.initialized "java/lang/Math"]
def wsL_goTo_r2 : List Cond := [Cond.code Lib.Math.min.name Lib.Math.min.code 2 (some .int), Cond.methodLink RX5 276 yX4_depth, Cond.instanceMethod yX4_depth, Cond.selects RX4 yX4_depth yX4_depth, Cond.code yX4_depth cX4_depth 2 (some .int), Cond.fieldLink RX4 24 "BoardNotation$Tree" "depth" "[I", Cond.methodLink RX4 44 yX4_has, Cond.methodLink RX5 305 yX5_stepUp, Cond.instanceMethod yX5_stepUp, Cond.selects RX5 yX5_stepUp yX5_stepUp, Cond.code yX5_stepUp cX5_stepUp 1 none, Cond.fieldLink RX5 21 "BoardNotation" "board" "LBoardNotation$Board;", Cond.methodLink RX5 237 yX4_from, Cond.instanceMethod yX4_from, Cond.selects RX4 yX4_from yX4_from, Cond.code yX4_from cX4_from 2 (some .int), Cond.fieldLink RX4 15 "BoardNotation$Tree" "from" "[I", Cond.methodLink RX5 240 yX4_to, Cond.instanceMethod yX4_to, Cond.selects RX4 yX4_to yX4_to, Cond.code yX4_to cX4_to 2 (some .int), Cond.fieldLink RX4 18 "BoardNotation$Tree" "to" "[I", Cond.methodLink RX5 295 yX4_taken, Cond.instanceMethod yX4_taken]
def wsL_goTo_r3 : List Cond := [Cond.selects RX4 yX4_taken yX4_taken, Cond.code yX4_taken cX4_taken 2 (some .int), Cond.fieldLink RX4 21 "BoardNotation$Tree" "taken" "[I", Cond.methodLink RX5 298 yX0_takeBack, Cond.instanceMethod yX0_takeBack, Cond.selects RX0 yX0_takeBack yX0_takeBack, Cond.initialized RX0, Cond.code yX0_takeBack cX0_takeBack 4 none, Cond.fieldLink RX0 9 "BoardNotation$Board" "pieces" "[I", Cond.static yX5_isSquare, Cond.code yX5_isSquare cX5_isSquare 1 (some .boolean), Cond.methodLink RX5 302 yX4_above, Cond.instanceMethod yX4_above, Cond.selects RX4 yX4_above yX4_above, Cond.code yX4_above cX4_above 2 (some .int), Cond.fieldLink RX4 9 "BoardNotation$Tree" "above" "[I", Cond.methodLink RX5 313 yX5_stepDown, Cond.instanceMethod yX5_stepDown, Cond.selects RX5 yX5_stepDown yX5_stepDown, Cond.code yX5_stepDown cX5_stepDown 2 none, Cond.methodLink RX5 288 yX0_move, Cond.instanceMethod yX0_move, Cond.selects RX0 yX0_move yX0_move, Cond.code yX0_move cX0_move 4 (some .int)]
def wsL_goTo_r4 : List Cond := [Cond.methodLink RX5 291 yX4_keepTaken, Cond.instanceMethod yX4_keepTaken, Cond.selects RX4 yX4_keepTaken yX4_keepTaken, Cond.code yX4_keepTaken cX4_keepTaken 3 none, Cond.methodLink RX5 148 yX5_turn, Cond.instanceMethod yX5_turn, Cond.selects RX5 yX5_turn yX5_turn, Cond.code yX5_turn cX5_turn 1 (some .int)]
def wsL_goTo : List Cond := .codeWith yL_goTo cL_goTo 4 (some .int) [(0, 9, 12, 21)] :: ((wsL_goTo_r1 ++ (wsL_goTo_r2 ++ (wsL_goTo_r3 ++ wsL_goTo_r4))) ++ wsX50 ++ wsX40 ++ wsX00 ++ (vx_atS RX5 114 "java/lang/IndexOutOfBoundsException" ["java/lang/RuntimeException", "java/lang/Exception"]).filter goodWord)
def wsL_promote_r1 : List Cond := [Cond.classLink RL 21 "java/lang/IndexOutOfBoundsException", Cond.methodLink RL 61 yX5_promote, Cond.instanceMethod yX5_promote, Cond.selects RX5 yX5_promote yX5_promote, Cond.initialized RX5, Cond.code yX5_promote cX5_promote 2 (some .int), Cond.classLink RX5 110 "java/lang/IndexOutOfBoundsException", Cond.initialized "java/lang/IndexOutOfBoundsException", Cond.fieldLink RX5 28 "BoardNotation" "tree" "LBoardNotation$Tree;", Cond.methodLink RX5 207 yX4_has, Cond.instanceMethod yX4_has, Cond.selects RX4 yX4_has yX4_has, Cond.initialized RX4, Cond.code yX4_has cX4_has 2 (some .boolean), Cond.fieldLink RX4 36 "BoardNotation$Tree" "size" "I", Cond.methodLink RX5 228 yX4_makeMain, Cond.instanceMethod yX4_makeMain, Cond.selects RX4 yX4_makeMain yX4_makeMain, Cond.code yX4_makeMain cX4_makeMain 5 (some .int), Cond.fieldLink RX4 33 "BoardNotation$Tree" "nextBeside" "[I", Cond.fieldLink RX4 30 "BoardNotation$Tree" "firstChild" "[I", Cond.methodLink RX4 63 yX4_placeOf, Cond.instanceMethod yX4_placeOf, Cond.selects RX4 yX4_placeOf yX4_placeOf]
def wsL_promote_r2 : List Cond := [Cond.code yX4_placeOf cX4_placeOf 4 (some .int), Cond.methodLink RX4 48 yX4_above, Cond.instanceMethod yX4_above, Cond.selects RX4 yX4_above yX4_above, Cond.code yX4_above cX4_above 2 (some .int), Cond.fieldLink RX4 9 "BoardNotation$Tree" "above" "[I", Cond.methodLink RX4 44 yX4_has, Cond.methodLink RX4 59 yX4_child, Cond.instanceMethod yX4_child, Cond.selects RX4 yX4_child yX4_child, Cond.code yX4_child cX4_child 5 (some .int), Cond.fieldLink RX4 27 "BoardNotation$Tree" "childCount" "[I", Cond.methodLink RX4 57 yX4_childCount, Cond.instanceMethod yX4_childCount, Cond.selects RX4 yX4_childCount yX4_childCount, Cond.code yX4_childCount cX4_childCount 2 (some .int)]
def wsL_promote : List Cond := .codeWith yL_promote cL_promote 4 (some .int) [(0, 9, 12, 21)] :: ((wsL_promote_r1 ++ wsL_promote_r2) ++ wsX50 ++ wsX40 ++ (vx_atS RX5 114 "java/lang/IndexOutOfBoundsException" ["java/lang/RuntimeException", "java/lang/Exception"]).filter goodWord)
def wsL_writeGame_r1 : List Cond := [Cond.classLink RL 15 "java/lang/IllegalStateException", Cond.methodLink RL 64 yX5_writeGame, Cond.instanceMethod yX5_writeGame, Cond.selects RX5 yX5_writeGame yX5_writeGame, Cond.initialized RX5, Cond.code yX5_writeGame cX5_writeGame 5 (some .int), Cond.classLink RX5 98 "java/lang/IllegalStateException", Cond.initialized "java/lang/IllegalStateException", Cond.fieldLink RX5 56 "BoardNotation" "present" "I", Cond.fieldLink RX5 53 "BoardNotation" "draft" "LBoardNotation$Text;", Cond.fieldLink RX5 28 "BoardNotation" "tree" "LBoardNotation$Tree;", Cond.fieldLink RX5 49 "BoardNotation" "tape" "LBoardNotation$Text;", Cond.methodLink RX5 223 yX5_visit, Cond.instanceMethod yX5_visit, Cond.selects RX5 yX5_visit yX5_visit, Cond.code yX5_visit cX5_visit 5 none, Cond.fieldLink RX5 39 "BoardNotation" "path" "[I", Cond.methodLink RX5 308 Lib.Math.min.name, Cond.static Lib.Math.min.name, Cond.initialized "java/lang/Math", Cond.code Lib.Math.min.name Lib.Math.min.code 2 (some .int), Cond.methodLink RX5 276 yX4_depth, Cond.instanceMethod yX4_depth, Cond.selects RX4 yX4_depth yX4_depth]
def wsL_writeGame_r2 : List Cond := [Cond.initialized RX4, Cond.code yX4_depth cX4_depth 2 (some .int), Cond.fieldLink RX4 24 "BoardNotation$Tree" "depth" "[I", Cond.methodLink RX4 44 yX4_has, Cond.instanceMethod yX4_has, Cond.selects RX4 yX4_has yX4_has, Cond.code yX4_has cX4_has 2 (some .boolean), Cond.fieldLink RX4 36 "BoardNotation$Tree" "size" "I", Cond.methodLink RX5 305 yX5_stepUp, Cond.instanceMethod yX5_stepUp, Cond.selects RX5 yX5_stepUp yX5_stepUp, Cond.code yX5_stepUp cX5_stepUp 1 none, Cond.fieldLink RX5 21 "BoardNotation" "board" "LBoardNotation$Board;", Cond.methodLink RX5 237 yX4_from, Cond.instanceMethod yX4_from, Cond.selects RX4 yX4_from yX4_from, Cond.code yX4_from cX4_from 2 (some .int), Cond.fieldLink RX4 15 "BoardNotation$Tree" "from" "[I", Cond.methodLink RX5 240 yX4_to, Cond.instanceMethod yX4_to, Cond.selects RX4 yX4_to yX4_to, Cond.code yX4_to cX4_to 2 (some .int), Cond.fieldLink RX4 18 "BoardNotation$Tree" "to" "[I", Cond.methodLink RX5 295 yX4_taken]
def wsL_writeGame_r3 : List Cond := [Cond.instanceMethod yX4_taken, Cond.selects RX4 yX4_taken yX4_taken, Cond.code yX4_taken cX4_taken 2 (some .int), Cond.fieldLink RX4 21 "BoardNotation$Tree" "taken" "[I", Cond.methodLink RX5 298 yX0_takeBack, Cond.instanceMethod yX0_takeBack, Cond.selects RX0 yX0_takeBack yX0_takeBack, Cond.initialized RX0, Cond.code yX0_takeBack cX0_takeBack 4 none, Cond.fieldLink RX0 9 "BoardNotation$Board" "pieces" "[I", Cond.static yX5_isSquare, Cond.code yX5_isSquare cX5_isSquare 1 (some .boolean), Cond.methodLink RX5 302 yX4_above, Cond.instanceMethod yX4_above, Cond.selects RX4 yX4_above yX4_above, Cond.code yX4_above cX4_above 2 (some .int), Cond.fieldLink RX4 9 "BoardNotation$Tree" "above" "[I", Cond.methodLink RX5 313 yX5_stepDown, Cond.instanceMethod yX5_stepDown, Cond.selects RX5 yX5_stepDown yX5_stepDown, Cond.code yX5_stepDown cX5_stepDown 2 none, Cond.methodLink RX5 288 yX0_move, Cond.instanceMethod yX0_move, Cond.selects RX0 yX0_move yX0_move]
def wsL_writeGame_r4 : List Cond := [Cond.code yX0_move cX0_move 4 (some .int), Cond.methodLink RX5 291 yX4_keepTaken, Cond.instanceMethod yX4_keepTaken, Cond.selects RX4 yX4_keepTaken yX4_keepTaken, Cond.code yX4_keepTaken cX4_keepTaken 3 none, Cond.methodLink RX5 187 yX3_wipe, Cond.instanceMethod yX3_wipe, Cond.selects RX3 yX3_wipe yX3_wipe, Cond.initialized RX3, Cond.code yX3_wipe cX3_wipe 1 none, Cond.fieldLink RX3 15 "BoardNotation$Text" "size" "I", Cond.fieldLink RX3 19 "BoardNotation$Text" "spilled" "Z", Cond.methodLink RX5 218 yX4_child, Cond.instanceMethod yX4_child, Cond.selects RX4 yX4_child yX4_child, Cond.code yX4_child cX4_child 5 (some .int), Cond.fieldLink RX4 27 "BoardNotation$Tree" "childCount" "[I", Cond.fieldLink RX4 30 "BoardNotation$Tree" "firstChild" "[I", Cond.fieldLink RX4 33 "BoardNotation$Tree" "nextBeside" "[I", Cond.methodLink RX5 231 yX5_writeOpening, Cond.instanceMethod yX5_writeOpening, Cond.selects RX5 yX5_writeOpening yX5_writeOpening, Cond.code yX5_writeOpening cX5_writeOpening 2 none, Cond.methodLink RX5 234 yX3_separate]
def wsL_writeGame_r5 : List Cond := [Cond.instanceMethod yX3_separate, Cond.selects RX3 yX3_separate yX3_separate, Cond.code yX3_separate cX3_separate 1 none, Cond.methodLink RX3 23 yX3_get, Cond.instanceMethod yX3_get, Cond.selects RX3 yX3_get yX3_get, Cond.code yX3_get cX3_get 2 (some .int), Cond.fieldLink RX3 9 "BoardNotation$Text" "bytes" "[I", Cond.methodLink RX3 27 yX3_append, Cond.instanceMethod yX3_append, Cond.selects RX3 yX3_append yX3_append, Cond.code yX3_append cX3_append 2 none, Cond.methodLink RX5 180 yX3_append, Cond.methodLink RX5 198 yX5_writeMove, Cond.instanceMethod yX5_writeMove, Cond.selects RX5 yX5_writeMove yX5_writeMove, Cond.code yX5_writeMove cX5_writeMove 6 none, Cond.fieldLink RX5 12 "BoardNotation" "kinds" "LBoardNotation$Kinds;", Cond.methodLink RX5 145 yX0_pieceOn, Cond.instanceMethod yX0_pieceOn, Cond.selects RX0 yX0_pieceOn yX0_pieceOn, Cond.code yX0_pieceOn cX0_pieceOn 2 (some .int), Cond.methodLink RX5 350 yX1_letter, Cond.instanceMethod yX1_letter]
def wsL_writeGame_r6 : List Cond := [Cond.selects RX1 yX1_letter yX1_letter, Cond.initialized RX1, Cond.code yX1_letter cX1_letter 2 (some .int), Cond.fieldLink RX1 9 "BoardNotation$Kinds" "letters" "[I", Cond.methodLink RX1 31 yX1_has, Cond.instanceMethod yX1_has, Cond.selects RX1 yX1_has yX1_has, Cond.code yX1_has cX1_has 2 (some .boolean), Cond.fieldLink RX1 27 "BoardNotation$Kinds" "size" "I", Cond.methodLink RX5 352 yX5_writeOrigin, Cond.instanceMethod yX5_writeOrigin, Cond.selects RX5 yX5_writeOrigin yX5_writeOrigin, Cond.code yX5_writeOrigin cX5_writeOrigin 9 none, Cond.methodLink RX5 282 yX0_reaches, Cond.instanceMethod yX0_reaches, Cond.selects RX0 yX0_reaches yX0_reaches, Cond.code yX0_reaches cX0_reaches 3 (some .boolean), Cond.methodLink RX0 36 yX0_reachedFrom, Cond.instanceMethod yX0_reachedFrom, Cond.selects RX0 yX0_reachedFrom yX0_reachedFrom, Cond.code yX0_reachedFrom cX0_reachedFrom 16 (some .long), Cond.fieldLink RX0 15 "BoardNotation$Board" "kinds" "LBoardNotation$Kinds;", Cond.methodLink RX5 285 yX0_keepsRoyalsSafe, Cond.instanceMethod yX0_keepsRoyalsSafe]
def wsL_writeGame_r7 : List Cond := [Cond.selects RX0 yX0_keepsRoyalsSafe yX0_keepsRoyalsSafe, Cond.code yX0_keepsRoyalsSafe cX0_keepsRoyalsSafe 6 (some .boolean), Cond.methodLink RX0 29 yX0_pieceOn, Cond.methodLink RX0 61 yX0_move, Cond.methodLink RX0 65 yX0_inCheck, Cond.instanceMethod yX0_inCheck, Cond.selects RX0 yX0_inCheck yX0_inCheck, Cond.code yX0_inCheck cX0_inCheck 6 (some .boolean), Cond.methodLink RX0 58 yX0_royalsOf, Cond.instanceMethod yX0_royalsOf, Cond.selects RX0 yX0_royalsOf yX0_royalsOf, Cond.code yX0_royalsOf cX0_royalsOf 5 (some .long), Cond.methodLink RX0 68 yX0_takeBack, Cond.methodLink RX5 341 yX0_isTaken, Cond.instanceMethod yX0_isTaken, Cond.selects RX0 yX0_isTaken yX0_isTaken, Cond.code yX0_isTaken cX0_isTaken 2 (some .boolean), Cond.methodLink RX5 347 yX0_signBehind, Cond.instanceMethod yX0_signBehind, Cond.selects RX0 yX0_signBehind yX0_signBehind, Cond.code yX0_signBehind cX0_signBehind 6 (some .int), Cond.methodLink RX0 76 yX0_countLegalMoves, Cond.instanceMethod yX0_countLegalMoves, Cond.selects RX0 yX0_countLegalMoves yX0_countLegalMoves]
def wsL_writeGame_r8 : List Cond := [Cond.code yX0_countLegalMoves cX0_countLegalMoves 8 (some .int), Cond.methodLink RX0 72 yX0_keepsRoyalsSafe, Cond.methodLink RX5 243 yX5_goOn, Cond.instanceMethod yX5_goOn, Cond.selects RX5 yX5_goOn yX5_goOn, Cond.code yX5_goOn cX5_goOn 4 (some .int), Cond.methodLink RX5 356 yX5_leaveLine, Cond.instanceMethod yX5_leaveLine, Cond.selects RX5 yX5_leaveLine yX5_leaveLine, Cond.code yX5_leaveLine cX5_leaveLine 3 (some .int), Cond.methodLink RX5 359 yX4_placeOf, Cond.instanceMethod yX4_placeOf, Cond.selects RX4 yX4_placeOf yX4_placeOf, Cond.code yX4_placeOf cX4_placeOf 4 (some .int), Cond.methodLink RX4 48 yX4_above, Cond.methodLink RX4 59 yX4_child, Cond.methodLink RX4 57 yX4_childCount, Cond.instanceMethod yX4_childCount, Cond.selects RX4 yX4_childCount yX4_childCount, Cond.code yX4_childCount cX4_childCount 2 (some .int), Cond.methodLink RX5 246 yX3_hasSpilled, Cond.instanceMethod yX3_hasSpilled, Cond.selects RX3 yX3_hasSpilled yX3_hasSpilled, Cond.code yX3_hasSpilled cX3_hasSpilled 1 (some .boolean)]
def wsL_writeGame_r9 : List Cond := [Cond.methodLink RX5 157 yX3_size, Cond.instanceMethod yX3_size, Cond.selects RX3 yX3_size yX3_size, Cond.code yX3_size cX3_size 1 (some .int)]
def wsL_writeGame : List Cond := .codeWith yL_writeGame cL_writeGame 3 (some .int) [(0, 8, 11, 15)] :: ((wsL_writeGame_r1 ++ (wsL_writeGame_r2 ++ (wsL_writeGame_r3 ++ (wsL_writeGame_r4 ++ (wsL_writeGame_r5 ++ (wsL_writeGame_r6 ++ (wsL_writeGame_r7 ++ (wsL_writeGame_r8 ++ wsL_writeGame_r9)))))))) ++ wsX50 ++ wsX40 ++ wsX00 ++ wsX30 ++ wsX10 ++ (vx_atS RX5 102 "java/lang/IllegalStateException" ["java/lang/RuntimeException", "java/lang/Exception"]).filter goodWord)
def wsL_law0_r1 : List Cond := [Cond.classLink RL 8 RX5, Cond.instantiable RX5 16, Cond.initialized RX5, Cond.classLink RL 69 RX6, Cond.instantiable RX6 26, Cond.initialized RX6, Cond.arrayClass .long, Cond.methodLink RL 68 yX5_init, Cond.instanceMethod yX5_init, Cond.code yX5_init cX5_init 1 none, Cond.methodLink RX5 3 objectInit, Cond.instanceMethod objectInit, Cond.code objectInit ⟨#[0xb1]⟩ 1 none, Cond.classLink RX5 9 RX1, Cond.instantiable RX1 6, Cond.initialized RX1, Cond.fieldLink RX5 12 "BoardNotation" "kinds" "LBoardNotation$Kinds;", Cond.classLink RX5 16 RX0, Cond.instantiable RX0 2, Cond.initialized RX0, Cond.fieldLink RX5 21 "BoardNotation" "board" "LBoardNotation$Board;", Cond.classLink RX5 25 RX4, Cond.instantiable RX4 9, Cond.initialized RX4]
def wsL_law0_r2 : List Cond := [Cond.fieldLink RX5 28 "BoardNotation" "tree" "LBoardNotation$Tree;", Cond.classLink RX5 32 RX2, Cond.instantiable RX2 8, Cond.initialized RX2, Cond.fieldLink RX5 35 "BoardNotation" "form" "LBoardNotation$ShortForm;", Cond.arrayClass .int, Cond.fieldLink RX5 39 "BoardNotation" "path" "[I", Cond.fieldLink RX5 43 "BoardNotation" "bracketNodes" "[I", Cond.classLink RX5 46 RX3, Cond.instantiable RX3 3, Cond.initialized RX3, Cond.fieldLink RX5 49 "BoardNotation" "tape" "LBoardNotation$Text;", Cond.fieldLink RX5 53 "BoardNotation" "draft" "LBoardNotation$Text;", Cond.fieldLink RX5 56 "BoardNotation" "present" "I", Cond.fieldLink RX5 60 "BoardNotation" "openBrackets" "I", Cond.fieldLink RX5 63 "BoardNotation" "moveIsDue" "Z", Cond.fieldLink RX5 67 "BoardNotation" "judgedFrom" "I", Cond.fieldLink RX5 70 "BoardNotation" "judgedTo" "I", Cond.fieldLink RX5 73 "BoardNotation" "errorPlace" "I", Cond.fieldLink RX5 76 "BoardNotation" "foundFrom" "I", Cond.fieldLink RX5 79 "BoardNotation" "foundTo" "I", Cond.instanceMethod yX1_init, Cond.code yX1_init cX1_init 1 none, Cond.methodLink RX1 3 objectInit]
def wsL_law0_r3 : List Cond := [Cond.fieldLink RX1 9 "BoardNotation$Kinds" "letters" "[I", Cond.fieldLink RX1 15 "BoardNotation$Kinds" "stepCounts" "[I", Cond.fieldLink RX1 18 "BoardNotation$Kinds" "stepX" "[I", Cond.fieldLink RX1 21 "BoardNotation$Kinds" "stepY" "[I", Cond.fieldLink RX1 24 "BoardNotation$Kinds" "stepReach" "[I", Cond.fieldLink RX1 27 "BoardNotation$Kinds" "size" "I", Cond.methodLink RX5 18 yX0_init, Cond.instanceMethod yX0_init, Cond.code yX0_init cX0_init 2 none, Cond.methodLink RX0 3 objectInit, Cond.fieldLink RX0 9 "BoardNotation$Board" "pieces" "[I", Cond.fieldLink RX0 15 "BoardNotation$Board" "kinds" "LBoardNotation$Kinds;", Cond.methodLink RX0 19 yJ7_fill_53178, Cond.static yJ7_fill_53178, Cond.initialized RJ7, Cond.code yJ7_fill_53178 cJ7_fill_53178 4 none, Cond.methodLink RX5 27 yX4_init, Cond.instanceMethod yX4_init, Cond.code yX4_init cX4_init 1 none, Cond.methodLink RX4 3 objectInit, Cond.fieldLink RX4 9 "BoardNotation$Tree" "above" "[I", Cond.fieldLink RX4 15 "BoardNotation$Tree" "from" "[I", Cond.fieldLink RX4 18 "BoardNotation$Tree" "to" "[I", Cond.fieldLink RX4 21 "BoardNotation$Tree" "taken" "[I"]
def wsL_law0_r4 : List Cond := [Cond.fieldLink RX4 24 "BoardNotation$Tree" "depth" "[I", Cond.fieldLink RX4 27 "BoardNotation$Tree" "childCount" "[I", Cond.fieldLink RX4 30 "BoardNotation$Tree" "firstChild" "[I", Cond.fieldLink RX4 33 "BoardNotation$Tree" "nextBeside" "[I", Cond.fieldLink RX4 36 "BoardNotation$Tree" "size" "I", Cond.methodLink RX4 40 yX4_occupy, Cond.instanceMethod yX4_occupy, Cond.selects RX4 yX4_occupy yX4_occupy, Cond.code yX4_occupy cX4_occupy 5 (some .int), Cond.instanceMethod yX2_init, Cond.code yX2_init cX2_init 1 none, Cond.methodLink RX2 3 objectInit, Cond.fieldLink RX2 9 "BoardNotation$ShortForm" "misfit" "I", Cond.fieldLink RX2 15 "BoardNotation$ShortForm" "letter" "I", Cond.fieldLink RX2 18 "BoardNotation$ShortForm" "fromFile" "I", Cond.fieldLink RX2 21 "BoardNotation$ShortForm" "fromRank" "I", Cond.fieldLink RX2 24 "BoardNotation$ShortForm" "toFile" "I", Cond.fieldLink RX2 27 "BoardNotation$ShortForm" "toRank" "I", Cond.fieldLink RX2 30 "BoardNotation$ShortForm" "sign" "I", Cond.fieldLink RX2 33 "BoardNotation$ShortForm" "captures" "Z", Cond.instanceMethod yX3_init, Cond.code yX3_init cX3_init 1 none, Cond.methodLink RX3 3 objectInit, Cond.fieldLink RX3 9 "BoardNotation$Text" "bytes" "[I"]
def wsL_law0_r5 : List Cond := [Cond.fieldLink RX3 15 "BoardNotation$Text" "size" "I", Cond.fieldLink RX3 19 "BoardNotation$Text" "spilled" "Z", Cond.methodLink RL 71 yX6_init, Cond.instanceMethod yX6_init, Cond.code yX6_init cX6_init 2 none, Cond.methodLink RX6 1 objectInit, Cond.fieldLink RX6 9 "BoardNotationModel" "letters" "[I", Cond.fieldLink RX6 13 "BoardNotationModel" "manySteps" "[I", Cond.fieldLink RX6 16 "BoardNotationModel" "steps" "[I", Cond.fieldLink RX6 19 "BoardNotationModel" "first" "[I", Cond.fieldLink RX6 22 "BoardNotationModel" "board" "[I", Cond.fieldLink RX6 25 "BoardNotationModel" "trial" "[I", Cond.fieldLink RX6 28 "BoardNotationModel" "nodes" "I", Cond.fieldLink RX6 32 "BoardNotationModel" "table" "[I", Cond.constant RX6 35 (40000), Cond.fieldLink RX6 36 "BoardNotationModel" "continuations" "[I", Cond.fieldLink RX6 39 "BoardNotationModel" "tape" "[I", Cond.fieldLink RX6 42 "BoardNotationModel" "errorAt" "I", Cond.fieldLink RX6 45 "BoardNotationModel" "readFrom" "I", Cond.fieldLink RX6 48 "BoardNotationModel" "readTo" "I", Cond.fieldLink RX6 51 "BoardNotationModel" "way" "[I", Cond.fieldLink RX6 54 "BoardNotationModel" "paper" "[I", Cond.fieldLink RX6 57 "BoardNotationModel" "pile" "[I", Cond.methodLink RX6 60 arraycopyName]
def wsL_law0_r6 : List Cond := [Cond.native arraycopyName, Cond.static arraycopyName, Cond.initialized "java/lang/System", Cond.methodLink RL 72 yL_addKind, Cond.static yL_addKind, Cond.initialized RL, Cond.codeWith yL_addKind cL_addKind 4 (some .int) [(0, 9, 12, 13), (0, 9, 15, 15)], Cond.classLink RL 13 "java/lang/IllegalArgumentException", Cond.classLink RL 15 "java/lang/IllegalStateException", Cond.methodLink RL 7 yX5_addKind, Cond.instanceMethod yX5_addKind, Cond.selects RX5 yX5_addKind yX5_addKind, Cond.code yX5_addKind cX5_addKind 2 (some .int), Cond.classLink RX5 86 "java/lang/IllegalArgumentException", Cond.initialized "java/lang/IllegalArgumentException", Cond.classLink RX5 98 "java/lang/IllegalStateException", Cond.initialized "java/lang/IllegalStateException", Cond.methodLink RX5 82 yX1_withLetter, Cond.instanceMethod yX1_withLetter, Cond.selects RX1 yX1_withLetter yX1_withLetter, Cond.code yX1_withLetter cX1_withLetter 3 (some .int), Cond.methodLink RX5 93 yX1_size, Cond.instanceMethod yX1_size, Cond.selects RX1 yX1_size yX1_size]
def wsL_law0_r7 : List Cond := [Cond.code yX1_size cX1_size 1 (some .int), Cond.methodLink RX5 97 yX4_size, Cond.instanceMethod yX4_size, Cond.selects RX4 yX4_size yX4_size, Cond.code yX4_size cX4_size 1 (some .int), Cond.methodLink RX5 103 yX1_include, Cond.instanceMethod yX1_include, Cond.selects RX1 yX1_include yX1_include, Cond.code yX1_include cX1_include 2 (some .int), Cond.methodLink RL 77 yX6_addKind, Cond.instanceMethod yX6_addKind, Cond.selects RX6 yX6_addKind yX6_addKind, Cond.code yX6_addKind cX6_addKind 2 (some .int), Cond.fieldLink RX6 66 "BoardNotationModel" "thrown" "I", Cond.fieldLink RX6 80 "BoardNotationModel" "kinds" "I", Cond.methodLink RX6 69 yX6_isIn, Cond.static yX6_isIn, Cond.code yX6_isIn cX6_isIn 3 (some .boolean), Cond.methodLink RX6 73 yX6_kindOf, Cond.instanceMethod yX6_kindOf, Cond.selects RX6 yX6_kindOf yX6_kindOf, Cond.code yX6_kindOf cX6_kindOf 3 (some .int), Cond.methodLink RX6 77 yX6_fail, Cond.instanceMethod yX6_fail]
def wsL_law0_r8 : List Cond := [Cond.selects RX6 yX6_fail yX6_fail, Cond.code yX6_fail cX6_fail 2 (some .int), Cond.methodLink RL 78 yX6_thrown, Cond.instanceMethod yX6_thrown, Cond.selects RX6 yX6_thrown yX6_thrown, Cond.code yX6_thrown cX6_thrown 1 (some .int), Cond.methodLink RL 81 yL_addStep, Cond.static yL_addStep, Cond.codeWith yL_addStep cL_addStep 7 (some .int) [(0, 14, 17, 21), (0, 14, 21, 13), (0, 14, 25, 15)], Cond.classLink RL 21 "java/lang/IndexOutOfBoundsException", Cond.methodLink RL 17 yX5_addStep, Cond.instanceMethod yX5_addStep, Cond.selects RX5 yX5_addStep yX5_addStep, Cond.code yX5_addStep cX5_addStep 5 (some .int), Cond.classLink RX5 110 "java/lang/IndexOutOfBoundsException", Cond.initialized "java/lang/IndexOutOfBoundsException", Cond.methodLink RX5 106 yX1_has, Cond.instanceMethod yX1_has, Cond.selects RX1 yX1_has yX1_has, Cond.code yX1_has cX1_has 2 (some .boolean), Cond.methodLink RX5 115 yX5_isStep, Cond.static yX5_isStep, Cond.code yX5_isStep cX5_isStep 2 (some .boolean), Cond.methodLink RX5 121 yX1_stepCount]
def wsL_law0_r9 : List Cond := [Cond.instanceMethod yX1_stepCount, Cond.selects RX1 yX1_stepCount yX1_stepCount, Cond.code yX1_stepCount cX1_stepCount 2 (some .int), Cond.methodLink RX1 31 yX1_has, Cond.methodLink RX5 126 yX1_includeStep, Cond.instanceMethod yX1_includeStep, Cond.selects RX1 yX1_includeStep yX1_includeStep, Cond.code yX1_includeStep cX1_includeStep 6 (some .int), Cond.methodLink RL 84 yX6_addStep, Cond.instanceMethod yX6_addStep, Cond.selects RX6 yX6_addStep yX6_addStep, Cond.code yX6_addStep cX6_addStep 6 (some .int), Cond.methodLink RL 85 yL_put, Cond.static yL_put, Cond.codeWith yL_put cL_put 6 (some .int) [(0, 12, 15, 21), (0, 12, 19, 13), (0, 12, 23, 15)], Cond.methodLink RL 23 yX5_put, Cond.instanceMethod yX5_put, Cond.selects RX5 yX5_put yX5_put, Cond.code yX5_put cX5_put 4 (some .int), Cond.methodLink RX5 130 yX5_isSquare, Cond.static yX5_isSquare, Cond.code yX5_isSquare cX5_isSquare 1 (some .boolean), Cond.methodLink RX5 139 yX0_replace, Cond.instanceMethod yX0_replace]
def wsL_law0_r10 : List Cond := [Cond.selects RX0 yX0_replace yX0_replace, Cond.code yX0_replace cX0_replace 4 (some .int), Cond.methodLink RL 88 yX6_put, Cond.instanceMethod yX6_put, Cond.selects RX6 yX6_put yX6_put, Cond.code yX6_put cX6_put 5 (some .int), Cond.methodLink RX6 83 yX6_isSquare, Cond.static yX6_isSquare, Cond.code yX6_isSquare cX6_isSquare 1 (some .boolean), Cond.methodLink RL 89 yL_at, Cond.static yL_at, Cond.codeWith yL_at cL_at 4 (some .int) [(0, 9, 12, 21)], Cond.methodLink RL 27 yX5_at, Cond.instanceMethod yX5_at, Cond.selects RX5 yX5_at yX5_at, Cond.code yX5_at cX5_at 2 (some .int), Cond.methodLink RX5 145 yX0_pieceOn, Cond.instanceMethod yX0_pieceOn, Cond.selects RX0 yX0_pieceOn yX0_pieceOn, Cond.code yX0_pieceOn cX0_pieceOn 2 (some .int), Cond.methodLink RL 91 yX6_at, Cond.instanceMethod yX6_at, Cond.selects RX6 yX6_at yX6_at, Cond.code yX6_at cX6_at 2 (some .int)]
def wsL_law0_r11 : List Cond := [Cond.methodLink RL 92 yL_state, Cond.static yL_state, Cond.codeWith yL_state cL_state 4 (some .int) [(0, 9, 12, 21)], Cond.methodLink RL 30 yX5_state, Cond.instanceMethod yX5_state, Cond.selects RX5 yX5_state yX5_state, Cond.code yX5_state cX5_state 2 (some .int), Cond.methodLink RX5 148 yX5_turn, Cond.instanceMethod yX5_turn, Cond.selects RX5 yX5_turn yX5_turn, Cond.code yX5_turn cX5_turn 1 (some .int), Cond.methodLink RX5 276 yX4_depth, Cond.instanceMethod yX4_depth, Cond.selects RX4 yX4_depth yX4_depth, Cond.code yX4_depth cX4_depth 2 (some .int), Cond.methodLink RX4 44 yX4_has, Cond.instanceMethod yX4_has, Cond.selects RX4 yX4_has yX4_has, Cond.code yX4_has cX4_has 2 (some .boolean), Cond.methodLink RX5 151 yX0_inCheck, Cond.instanceMethod yX0_inCheck, Cond.selects RX0 yX0_inCheck yX0_inCheck, Cond.code yX0_inCheck cX0_inCheck 6 (some .boolean), Cond.methodLink RX0 58 yX0_royalsOf]
def wsL_law0_r12 : List Cond := [Cond.instanceMethod yX0_royalsOf, Cond.selects RX0 yX0_royalsOf yX0_royalsOf, Cond.code yX0_royalsOf cX0_royalsOf 5 (some .long), Cond.methodLink RX0 36 yX0_reachedFrom, Cond.instanceMethod yX0_reachedFrom, Cond.selects RX0 yX0_reachedFrom yX0_reachedFrom, Cond.code yX0_reachedFrom cX0_reachedFrom 16 (some .long), Cond.methodLink RX5 154 yX0_countLegalMoves, Cond.instanceMethod yX0_countLegalMoves, Cond.selects RX0 yX0_countLegalMoves yX0_countLegalMoves, Cond.code yX0_countLegalMoves cX0_countLegalMoves 8 (some .int), Cond.methodLink RX0 72 yX0_keepsRoyalsSafe, Cond.instanceMethod yX0_keepsRoyalsSafe, Cond.selects RX0 yX0_keepsRoyalsSafe yX0_keepsRoyalsSafe, Cond.code yX0_keepsRoyalsSafe cX0_keepsRoyalsSafe 6 (some .boolean), Cond.methodLink RX0 29 yX0_pieceOn, Cond.methodLink RX0 61 yX0_move, Cond.instanceMethod yX0_move, Cond.selects RX0 yX0_move yX0_move, Cond.code yX0_move cX0_move 4 (some .int), Cond.methodLink RX0 65 yX0_inCheck, Cond.methodLink RX0 68 yX0_takeBack, Cond.instanceMethod yX0_takeBack, Cond.selects RX0 yX0_takeBack yX0_takeBack]
def wsL_law0_r13 : List Cond := [Cond.code yX0_takeBack cX0_takeBack 4 none, Cond.methodLink RX5 157 yX3_size, Cond.instanceMethod yX3_size, Cond.selects RX3 yX3_size yX3_size, Cond.code yX3_size cX3_size 1 (some .int), Cond.methodLink RL 94 yX6_state, Cond.instanceMethod yX6_state, Cond.selects RX6 yX6_state yX6_state, Cond.code yX6_state cX6_state 2 (some .int), Cond.methodLink RX6 130 yX6_stateTold, Cond.instanceMethod yX6_stateTold, Cond.selects RX6 yX6_stateTold yX6_stateTold, Cond.code yX6_stateTold cX6_stateTold 2 (some .int), Cond.fieldLink RX6 95 "BoardNotationModel" "present" "I", Cond.fieldLink RX6 127 "BoardNotationModel" "taped" "I", Cond.methodLink RX6 120 yX6_turn, Cond.instanceMethod yX6_turn, Cond.selects RX6 yX6_turn yX6_turn, Cond.code yX6_turn cX6_turn 1 (some .int), Cond.methodLink RX6 87 yX6_get, Cond.instanceMethod yX6_get, Cond.selects RX6 yX6_get yX6_get, Cond.code yX6_get cX6_get 3 (some .int), Cond.methodLink RX6 112 yX6_isChecked]
def wsL_law0_r14 : List Cond := [Cond.instanceMethod yX6_isChecked, Cond.selects RX6 yX6_isChecked yX6_isChecked, Cond.code yX6_isChecked cX6_isChecked 5 (some .boolean), Cond.methodLink RX6 98 yX6_sideOf, Cond.static yX6_sideOf, Cond.code yX6_sideOf cX6_sideOf 1 (some .int), Cond.methodLink RX6 108 yX6_reaches, Cond.instanceMethod yX6_reaches, Cond.selects RX6 yX6_reaches yX6_reaches, Cond.code yX6_reaches cX6_reaches 9 (some .boolean), Cond.methodLink RX6 101 yX6_reach, Cond.instanceMethod yX6_reach, Cond.selects RX6 yX6_reach yX6_reach, Cond.code yX6_reach cX6_reach 3 (some .int), Cond.methodLink RX6 104 yX6_target, Cond.instanceMethod yX6_target, Cond.selects RX6 yX6_target yX6_target, Cond.code yX6_target cX6_target 8 (some .int), Cond.methodLink RX6 124 yX6_legalMoves, Cond.instanceMethod yX6_legalMoves, Cond.selects RX6 yX6_legalMoves yX6_legalMoves, Cond.code yX6_legalMoves cX6_legalMoves 6 (some .int), Cond.methodLink RX6 116 yX6_isLegal, Cond.instanceMethod yX6_isLegal]
def wsL_law0_r15 : List Cond := [Cond.selects RX6 yX6_isLegal yX6_isLegal, Cond.code yX6_isLegal cX6_isLegal 3 (some .boolean), Cond.methodLink RX6 91 yX6_play, Cond.static yX6_play, Cond.code yX6_play cX6_play 3 none, Cond.methodLink RL 95 yL_reason, Cond.static yL_reason, Cond.codeWith yL_reason cL_reason 5 (some .int) [(0, 10, 13, 21)], Cond.methodLink RL 33 yX5_reason, Cond.instanceMethod yX5_reason, Cond.selects RX5 yX5_reason yX5_reason, Cond.code yX5_reason cX5_reason 3 (some .int), Cond.methodLink RX5 160 yX5_reasonAgainst, Cond.instanceMethod yX5_reasonAgainst, Cond.selects RX5 yX5_reasonAgainst yX5_reasonAgainst, Cond.code yX5_reasonAgainst cX5_reasonAgainst 3 (some .int), Cond.methodLink RX5 279 yX0_isOf, Cond.instanceMethod yX0_isOf, Cond.selects RX0 yX0_isOf yX0_isOf, Cond.code yX0_isOf cX0_isOf 3 (some .boolean), Cond.methodLink RX0 33 yX0_isTaken, Cond.instanceMethod yX0_isTaken, Cond.selects RX0 yX0_isTaken yX0_isTaken, Cond.code yX0_isTaken cX0_isTaken 2 (some .boolean)]
def wsL_law0_r16 : List Cond := [Cond.methodLink RX5 282 yX0_reaches, Cond.instanceMethod yX0_reaches, Cond.selects RX0 yX0_reaches yX0_reaches, Cond.code yX0_reaches cX0_reaches 3 (some .boolean), Cond.methodLink RX5 285 yX0_keepsRoyalsSafe, Cond.methodLink RL 98 yX6_reason, Cond.instanceMethod yX6_reason, Cond.selects RX6 yX6_reason yX6_reason, Cond.code yX6_reason cX6_reason 3 (some .int), Cond.methodLink RX6 133 yX6_why, Cond.instanceMethod yX6_why, Cond.selects RX6 yX6_why yX6_why, Cond.code yX6_why cX6_why 3 (some .int), Cond.methodLink RL 99 yL_play, Cond.static yL_play, Cond.codeWith yL_play cL_play 5 (some .int) [(0, 10, 13, 21), (0, 10, 17, 15)], Cond.methodLink RL 37 yX5_play, Cond.instanceMethod yX5_play, Cond.selects RX5 yX5_play yX5_play, Cond.code yX5_play cX5_play 3 (some .int), Cond.methodLink RX5 165 yX5_follow, Cond.instanceMethod yX5_follow, Cond.selects RX5 yX5_follow yX5_follow, Cond.code yX5_follow cX5_follow 4 (some .boolean)]
def wsL_law0_r17 : List Cond := [Cond.methodLink RX5 319 yX4_childOfMove, Cond.instanceMethod yX4_childOfMove, Cond.selects RX4 yX4_childOfMove yX4_childOfMove, Cond.code yX4_childOfMove cX4_childOfMove 6 (some .int), Cond.methodLink RX4 59 yX4_child, Cond.instanceMethod yX4_child, Cond.selects RX4 yX4_child yX4_child, Cond.code yX4_child cX4_child 5 (some .int), Cond.methodLink RX4 57 yX4_childCount, Cond.instanceMethod yX4_childCount, Cond.selects RX4 yX4_childCount yX4_childCount, Cond.code yX4_childCount cX4_childCount 2 (some .int), Cond.methodLink RX5 323 yX4_grow, Cond.instanceMethod yX4_grow, Cond.selects RX4 yX4_grow yX4_grow, Cond.code yX4_grow cX4_grow 6 (some .int), Cond.methodLink RX5 313 yX5_stepDown, Cond.instanceMethod yX5_stepDown, Cond.selects RX5 yX5_stepDown yX5_stepDown, Cond.code yX5_stepDown cX5_stepDown 2 none, Cond.methodLink RX5 237 yX4_from, Cond.instanceMethod yX4_from, Cond.selects RX4 yX4_from yX4_from, Cond.code yX4_from cX4_from 2 (some .int)]
def wsL_law0_r18 : List Cond := [Cond.methodLink RX5 240 yX4_to, Cond.instanceMethod yX4_to, Cond.selects RX4 yX4_to yX4_to, Cond.code yX4_to cX4_to 2 (some .int), Cond.methodLink RX5 288 yX0_move, Cond.methodLink RX5 291 yX4_keepTaken, Cond.instanceMethod yX4_keepTaken, Cond.selects RX4 yX4_keepTaken yX4_keepTaken, Cond.code yX4_keepTaken cX4_keepTaken 3 none, Cond.methodLink RL 101 yX6_play_, Cond.instanceMethod yX6_play_, Cond.selects RX6 yX6_play_ yX6_play_, Cond.code yX6_play_ cX6_play_ 3 (some .int), Cond.methodLink RX6 139 yX6_known, Cond.instanceMethod yX6_known, Cond.selects RX6 yX6_known yX6_known, Cond.code yX6_known cX6_known 5 (some .int), Cond.methodLink RX6 136 yX6_continuation0, Cond.instanceMethod yX6_continuation0, Cond.selects RX6 yX6_continuation0 yX6_continuation0, Cond.code yX6_continuation0 cX6_continuation0 3 (some .int), Cond.methodLink RX6 142 yX6_playOn, Cond.instanceMethod yX6_playOn, Cond.selects RX6 yX6_playOn yX6_playOn]
def wsL_law0_r19 : List Cond := [Cond.code yX6_playOn cX6_playOn 5 none, Cond.methodLink RL 102 yL_feed, Cond.static yL_feed, Cond.codeWith yL_feed cL_feed 7 (some .int) [(0, 14, 17, 13), (0, 14, 21, 15)], Cond.methodLink RL 40 yX5_feed, Cond.instanceMethod yX5_feed, Cond.selects RX5 yX5_feed yX5_feed, Cond.code yX5_feed cX5_feed 6 (some .int), Cond.methodLink RX5 170 yX5_isByteOrNothing, Cond.static yX5_isByteOrNothing, Cond.code yX5_isByteOrNothing cX5_isByteOrNothing 1 (some .boolean), Cond.methodLink RX5 175 yX5_countByte, Cond.static yX5_countByte, Cond.code yX5_countByte cX5_countByte 1 (some .int), Cond.methodLink RX5 180 yX3_append, Cond.instanceMethod yX3_append, Cond.selects RX3 yX3_append yX3_append, Cond.code yX3_append cX3_append 2 none, Cond.methodLink RX5 184 yX5_appendUnlessNothing, Cond.instanceMethod yX5_appendUnlessNothing, Cond.selects RX5 yX5_appendUnlessNothing yX5_appendUnlessNothing, Cond.code yX5_appendUnlessNothing cX5_appendUnlessNothing 2 none, Cond.methodLink RL 104 yX6_feed, Cond.instanceMethod yX6_feed]
def wsL_law0_r20 : List Cond := [Cond.selects RX6 yX6_feed yX6_feed, Cond.code yX6_feed cX6_feed 12 (some .int), Cond.methodLink RL 105 yX5_empty, Cond.instanceMethod yX5_empty, Cond.selects RX5 yX5_empty yX5_empty, Cond.code yX5_empty cX5_empty 2 (some .int), Cond.methodLink RX5 187 yX3_wipe, Cond.instanceMethod yX3_wipe, Cond.selects RX3 yX3_wipe yX3_wipe, Cond.code yX3_wipe cX3_wipe 1 none, Cond.methodLink RL 108 yX6_empty, Cond.instanceMethod yX6_empty, Cond.selects RX6 yX6_empty yX6_empty, Cond.code yX6_empty cX6_empty 2 (some .int), Cond.methodLink RL 109 yX5_read, Cond.instanceMethod yX5_read, Cond.selects RX5 yX5_read yX5_read, Cond.code yX5_read cX5_read 2 (some .int), Cond.methodLink RX5 190 yX5_judge, Cond.instanceMethod yX5_judge, Cond.selects RX5 yX5_judge yX5_judge, Cond.code yX5_judge cX5_judge 10 (some .int), Cond.methodLink RX5 326 yX2_fits, Cond.instanceMethod yX2_fits]
def wsL_law0_r21 : List Cond := [Cond.selects RX2 yX2_fits yX2_fits, Cond.code yX2_fits cX2_fits 6 (some .boolean), Cond.methodLink RX2 37 yX2_forget, Cond.instanceMethod yX2_forget, Cond.selects RX2 yX2_forget yX2_forget, Cond.code yX2_forget cX2_forget 1 none, Cond.methodLink RX2 40 yX3_get, Cond.instanceMethod yX3_get, Cond.selects RX3 yX3_get yX3_get, Cond.code yX3_get cX3_get 2 (some .int), Cond.methodLink RX2 46 yX2_stateBehind, Cond.static yX2_stateBehind, Cond.code yX2_stateBehind cX2_stateBehind 2 (some .int), Cond.methodLink RX2 54 yX2_isFile, Cond.static yX2_isFile, Cond.code yX2_isFile cX2_isFile 1 (some .boolean), Cond.methodLink RX2 58 yX2_isRank, Cond.static yX2_isRank, Cond.code yX2_isRank cX2_isRank 1 (some .boolean), Cond.methodLink RX2 64 yX2_stateBehindOrigin, Cond.static yX2_stateBehindOrigin, Cond.code yX2_stateBehindOrigin cX2_stateBehindOrigin 1 (some .int), Cond.methodLink RX2 61 yX2_isSign, Cond.static yX2_isSign]
def wsL_law0_r22 : List Cond := [Cond.code yX2_isSign cX2_isSign 1 (some .boolean), Cond.methodLink RX2 50 yX2_keep, Cond.instanceMethod yX2_keep, Cond.selects RX2 yX2_keep yX2_keep, Cond.code yX2_keep cX2_keep 2 none, Cond.methodLink RX5 330 yX2_letter, Cond.instanceMethod yX2_letter, Cond.selects RX2 yX2_letter yX2_letter, Cond.code yX2_letter cX2_letter 1 (some .int), Cond.methodLink RX5 333 yX2_to, Cond.instanceMethod yX2_to, Cond.selects RX2 yX2_to yX2_to, Cond.code yX2_to cX2_to 1 (some .int), Cond.methodLink RX5 335 yX2_allowsFrom, Cond.instanceMethod yX2_allowsFrom, Cond.selects RX2 yX2_allowsFrom yX2_allowsFrom, Cond.code yX2_allowsFrom cX2_allowsFrom 2 (some .boolean), Cond.methodLink RX5 338 yX2_captures, Cond.instanceMethod yX2_captures, Cond.selects RX2 yX2_captures yX2_captures, Cond.code yX2_captures cX2_captures 1 (some .boolean), Cond.methodLink RX5 341 yX0_isTaken, Cond.methodLink RX5 344 yX2_sign, Cond.instanceMethod yX2_sign]
def wsL_law0_r23 : List Cond := [Cond.selects RX2 yX2_sign yX2_sign, Cond.code yX2_sign cX2_sign 1 (some .int), Cond.methodLink RX5 347 yX0_signBehind, Cond.instanceMethod yX0_signBehind, Cond.selects RX0 yX0_signBehind yX0_signBehind, Cond.code yX0_signBehind cX0_signBehind 6 (some .int), Cond.methodLink RX0 76 yX0_countLegalMoves, Cond.methodLink RX5 193 yX2_misfit, Cond.instanceMethod yX2_misfit, Cond.selects RX2 yX2_misfit yX2_misfit, Cond.code yX2_misfit cX2_misfit 1 (some .int), Cond.methodLink RL 112 yX6_read, Cond.instanceMethod yX6_read, Cond.selects RX6 yX6_read yX6_read, Cond.code yX6_read cX6_read 2 (some .int), Cond.fieldLink RX6 149 "BoardNotationModel" "badAt" "I", Cond.fieldLink RX6 193 "BoardNotationModel" "from" "I", Cond.fieldLink RX6 187 "BoardNotationModel" "to" "I", Cond.methodLink RX6 199 yX6_readMove, Cond.instanceMethod yX6_readMove, Cond.selects RX6 yX6_readMove yX6_readMove, Cond.code yX6_readMove cX6_readMove 10 (some .int), Cond.methodLink RX6 180 yX6_findForm, Cond.instanceMethod yX6_findForm]
def wsL_law0_r24 : List Cond := [Cond.selects RX6 yX6_findForm yX6_findForm, Cond.code yX6_findForm cX6_findForm 6 (some .boolean), Cond.fieldLink RX6 146 "BoardNotationModel" "form" "I", Cond.fieldLink RX6 152 "BoardNotationModel" "FORMS" "[Ljava/lang/String;", Cond.methodLink RX6 169 Lib.Math.max.name, Cond.static Lib.Math.max.name, Cond.initialized "java/lang/Math", Cond.code Lib.Math.max.name Lib.Math.max.code 2 (some .int), Cond.methodLink RX6 156 yJ0_length_8abf5, Cond.instanceMethod yJ0_length_8abf5, Cond.selects RJ0 yJ0_length_8abf5 yJ0_length_8abf5, Cond.initialized RJ0, Cond.code yJ0_length_8abf5 cJ0_length_8abf5 1 (some .int), Cond.fieldLink RJ0 9 "java/lang/String" "value" "[B", Cond.methodLink RJ0 335 yJ0_coder_7d493, Cond.instanceMethod yJ0_coder_7d493, Cond.selects RJ0 yJ0_coder_7d493 yJ0_coder_7d493, Cond.code yJ0_coder_7d493 cJ0_coder_7d493 1 (some .byte), Cond.fieldLink RJ0 38 "java/lang/String" "COMPACT_STRINGS" "Z", Cond.fieldLink RJ0 15 "java/lang/String" "coder" "B", Cond.methodLink RX6 161 yJ0_charAt_5068e, Cond.instanceMethod yJ0_charAt_5068e, Cond.selects RJ0 yJ0_charAt_5068e yJ0_charAt_5068e, Cond.code yJ0_charAt_5068e cJ0_charAt_5068e 2 (some .char)]
def wsL_law0_r25 : List Cond := [Cond.methodLink RJ0 492 yJ0_isLatin1_aae02, Cond.instanceMethod yJ0_isLatin1_aae02, Cond.selects RJ0 yJ0_isLatin1_aae02 yJ0_isLatin1_aae02, Cond.code yJ0_isLatin1_aae02 cJ0_isLatin1_aae02 1 (some .boolean), Cond.methodLink RJ0 495 yJ1_charAt_3b067, Cond.static yJ1_charAt_3b067, Cond.initialized RJ1, Cond.code yJ1_charAt_3b067 cJ1_charAt_3b067 2 (some .char), Cond.methodLink RJ1 9 yJ0_checkIndex_df160, Cond.static yJ0_checkIndex_df160, Cond.code yJ0_checkIndex_df160 cJ0_checkIndex_df160 2 none, Cond.fieldLink RJ0 1053 "jdk/internal/util/Preconditions" "SIOOBE_FORMATTER" "Ljava/util/function/BiFunction;", Cond.methodLink RJ0 1059 yJ3_checkIndex_8e157, Cond.static yJ3_checkIndex_8e157, Cond.initialized RJ3, Cond.code yJ3_checkIndex_8e157 cJ3_checkIndex_8e157 3 (some .int), Cond.methodLink RJ0 498 yJ2_charAt_3b067, Cond.static yJ2_charAt_3b067, Cond.initialized RJ2, Cond.code yJ2_charAt_3b067 cJ2_charAt_3b067 2 (some .char), Cond.methodLink RJ2 67 yJ2_checkIndex_2214a, Cond.static yJ2_checkIndex_2214a, Cond.code yJ2_checkIndex_2214a cJ2_checkIndex_2214a 2 none, Cond.methodLink RJ2 48 yJ2_length_9d52b]
def wsL_law0_r26 : List Cond := [Cond.static yJ2_length_9d52b, Cond.code yJ2_length_9d52b cJ2_length_9d52b 1 (some .int), Cond.methodLink RJ2 414 yJ0_checkIndex_df160, Cond.methodLink RJ2 71 yJ2_getChar_3b067, Cond.static yJ2_getChar_3b067, Cond.code yJ2_getChar_3b067 cJ2_getChar_3b067 2 (some .char), Cond.fieldLink RJ2 44 "java/lang/StringUTF16" "$assertionsDisabled" "Z", Cond.fieldLink RJ2 59 "java/lang/StringUTF16" "HI_BYTE_SHIFT" "I", Cond.fieldLink RJ2 63 "java/lang/StringUTF16" "LO_BYTE_SHIFT" "I", Cond.methodLink RX6 165 yX6_fits, Cond.static yX6_fits, Cond.code yX6_fits cX6_fits 2 (some .boolean), Cond.methodLink RX6 183 yX6_late, Cond.instanceMethod yX6_late, Cond.selects RX6 yX6_late yX6_late, Cond.code yX6_late cX6_late 4 (some .int), Cond.methodLink RX6 177 yJ0_lastIndexOf_0f7a4, Cond.instanceMethod yJ0_lastIndexOf_0f7a4, Cond.selects RJ0 yJ0_lastIndexOf_0f7a4 yJ0_lastIndexOf_0f7a4, Cond.code yJ0_lastIndexOf_0f7a4 cJ0_lastIndexOf_0f7a4 2 (some .int), Cond.methodLink RJ0 505 yJ0_length_8abf5, Cond.methodLink RJ0 641 yJ0_lastIndexOf_7cf53, Cond.instanceMethod yJ0_lastIndexOf_7cf53, Cond.selects RJ0 yJ0_lastIndexOf_7cf53 yJ0_lastIndexOf_7cf53]
def wsL_law0_r27 : List Cond := [Cond.code yJ0_lastIndexOf_7cf53 cJ0_lastIndexOf_7cf53 3 (some .int), Cond.methodLink RJ0 644 yJ1_lastIndexOf_7d655, Cond.static yJ1_lastIndexOf_7d655, Cond.code yJ1_lastIndexOf_7d655 cJ1_lastIndexOf_7d655 4 (some .int), Cond.methodLink RJ1 38 Lib.Math.min.name, Cond.static Lib.Math.min.name, Cond.code Lib.Math.min.name Lib.Math.min.code 2 (some .int), Cond.methodLink RJ1 88 yJ1_canEncode_9a6ad, Cond.static yJ1_canEncode_9a6ad, Cond.code yJ1_canEncode_9a6ad cJ1_canEncode_9a6ad 1 (some .boolean), Cond.methodLink RJ0 646 yJ2_lastIndexOf_7d655, Cond.static yJ2_lastIndexOf_7d655, Cond.code yJ2_lastIndexOf_7d655 cJ2_lastIndexOf_7d655 4 (some .int), Cond.constant RJ2 227 (65536), Cond.methodLink RJ2 183 Lib.Math.min.name, Cond.methodLink RJ2 247 yJ2_lastIndexOfSupplementary_7d655, Cond.static yJ2_lastIndexOfSupplementary_7d655, Cond.code yJ2_lastIndexOfSupplementary_7d655 cJ2_lastIndexOfSupplementary_7d655 6 (some .int), Cond.methodLink RJ2 164 yJ11_isValidCodePoint_9a6ad, Cond.static yJ11_isValidCodePoint_9a6ad, Cond.initialized RJ11, Cond.code yJ11_isValidCodePoint_9a6ad cJ11_isValidCodePoint_9a6ad 2 (some .boolean), Cond.methodLink RJ2 157 yJ11_highSurrogate_5068e, Cond.static yJ11_highSurrogate_5068e]
def wsL_law0_r28 : List Cond := [Cond.code yJ11_highSurrogate_5068e cJ11_highSurrogate_5068e 1 (some .char), Cond.constant RJ11 110 (55232), Cond.methodLink RJ2 161 yJ11_lowSurrogate_5068e, Cond.static yJ11_lowSurrogate_5068e, Cond.code yJ11_lowSurrogate_5068e cJ11_lowSurrogate_5068e 1 (some .char), Cond.constant RJ11 76 (56320), Cond.methodLink RX6 190 yX6_early, Cond.instanceMethod yX6_early, Cond.selects RX6 yX6_early yX6_early, Cond.code yX6_early cX6_early 5 (some .int), Cond.methodLink RX6 174 yJ0_indexOf_0f7a4, Cond.instanceMethod yJ0_indexOf_0f7a4, Cond.selects RJ0 yJ0_indexOf_0f7a4 yJ0_indexOf_0f7a4, Cond.code yJ0_indexOf_0f7a4 cJ0_indexOf_0f7a4 2 (some .int), Cond.methodLink RJ0 633 yJ0_indexOf_7cf53, Cond.instanceMethod yJ0_indexOf_7cf53, Cond.selects RJ0 yJ0_indexOf_7cf53 yJ0_indexOf_7cf53, Cond.code yJ0_indexOf_7cf53 cJ0_indexOf_7cf53 3 (some .int), Cond.methodLink RJ0 637 yJ1_indexOf_4cfef, Cond.static yJ1_indexOf_4cfef, Cond.code yJ1_indexOf_4cfef cJ1_indexOf_4cfef 4 (some .int), Cond.methodLink RJ1 92 Lib.Math.max.name, Cond.methodLink RJ1 95 yJ1_indexOfChar_4cfef, Cond.static yJ1_indexOfChar_4cfef]
def wsL_law0_r29 : List Cond := [Cond.code yJ1_indexOfChar_4cfef cJ1_indexOfChar_4cfef 6 (some .int), Cond.methodLink RJ0 640 yJ2_indexOf_4cfef, Cond.static yJ2_indexOf_4cfef, Cond.code yJ2_indexOf_4cfef cJ2_indexOf_4cfef 4 (some .int), Cond.methodLink RJ2 224 Lib.Math.max.name, Cond.methodLink RJ2 228 yJ2_indexOfChar_4cfef, Cond.static yJ2_indexOfChar_4cfef, Cond.code yJ2_indexOfChar_4cfef cJ2_indexOfChar_4cfef 4 (some .int), Cond.methodLink RJ2 96 yJ2_checkBoundsBeginEnd_d044e, Cond.static yJ2_checkBoundsBeginEnd_d044e, Cond.code yJ2_checkBoundsBeginEnd_d044e cJ2_checkBoundsBeginEnd_d044e 3 none, Cond.methodLink RJ2 241 yJ0_checkBoundsBeginEnd_23922, Cond.static yJ0_checkBoundsBeginEnd_23922, Cond.code yJ0_checkBoundsBeginEnd_23922 cJ0_checkBoundsBeginEnd_23922 3 none, Cond.methodLink RJ0 1062 yJ3_checkFromToIndex_8c36e, Cond.static yJ3_checkFromToIndex_8c36e, Cond.code yJ3_checkFromToIndex_8c36e cJ3_checkFromToIndex_8c36e 4 (some .int), Cond.methodLink RJ2 244 yJ2_indexOfCharUnsafe_4cfef, Cond.static yJ2_indexOfCharUnsafe_4cfef, Cond.code yJ2_indexOfCharUnsafe_4cfef cJ2_indexOfCharUnsafe_4cfef 5 (some .int), Cond.methodLink RJ2 232 yJ2_indexOfSupplementary_4cfef, Cond.static yJ2_indexOfSupplementary_4cfef, Cond.code yJ2_indexOfSupplementary_4cfef cJ2_indexOfSupplementary_4cfef 7 (some .int), Cond.methodLink RX6 196 yX6_sign]
def wsL_law0_r30 : List Cond := [Cond.instanceMethod yX6_sign, Cond.selects RX6 yX6_sign yX6_sign, Cond.code yX6_sign cX6_sign 6 (some .int), Cond.methodLink RL 113 yL_found, Cond.static yL_found, Cond.codeWith yL_found cL_found 4 (some .int) [(0, 9, 12, 21)], Cond.methodLink RL 43 yX5_found, Cond.instanceMethod yX5_found, Cond.selects RX5 yX5_found yX5_found, Cond.code yX5_found cX5_found 2 (some .int), Cond.methodLink RL 115 yX6_found, Cond.instanceMethod yX6_found, Cond.selects RX6 yX6_found yX6_found, Cond.code yX6_found cX6_found 2 (some .int), Cond.methodLink RL 116 yL_write, Cond.static yL_write, Cond.codeWith yL_write cL_write 5 (some .int) [(0, 10, 13, 21), (0, 10, 17, 15)], Cond.methodLink RL 46 yX5_write, Cond.instanceMethod yX5_write, Cond.selects RX5 yX5_write yX5_write, Cond.code yX5_write cX5_write 3 (some .int), Cond.methodLink RX5 198 yX5_writeMove, Cond.instanceMethod yX5_writeMove, Cond.selects RX5 yX5_writeMove yX5_writeMove]
def wsL_law0_r31 : List Cond := [Cond.code yX5_writeMove cX5_writeMove 6 none, Cond.methodLink RX5 350 yX1_letter, Cond.instanceMethod yX1_letter, Cond.selects RX1 yX1_letter yX1_letter, Cond.code yX1_letter cX1_letter 2 (some .int), Cond.methodLink RX5 352 yX5_writeOrigin, Cond.instanceMethod yX5_writeOrigin, Cond.selects RX5 yX5_writeOrigin yX5_writeOrigin, Cond.code yX5_writeOrigin cX5_writeOrigin 9 none, Cond.methodLink RL 118 yX6_write, Cond.instanceMethod yX6_write, Cond.selects RX6 yX6_write yX6_write, Cond.code yX6_write cX6_write 3 (some .int), Cond.fieldLink RX6 206 "BoardNotationModel" "written" "I", Cond.fieldLink RX6 202 "BoardNotationModel" "isTooLong" "Z", Cond.methodLink RX6 213 yX6_putMove, Cond.instanceMethod yX6_putMove, Cond.selects RX6 yX6_putMove yX6_putMove, Cond.code yX6_putMove cX6_putMove 8 none, Cond.methodLink RX6 209 yX6_put_, Cond.instanceMethod yX6_put_, Cond.selects RX6 yX6_put_ yX6_put_, Cond.code yX6_put_ cX6_put_ 2 none, Cond.methodLink RX6 216 yX6_toTape]
def wsL_law0_r32 : List Cond := [Cond.instanceMethod yX6_toTape, Cond.selects RX6 yX6_toTape yX6_toTape, Cond.code yX6_toTape cX6_toTape 1 (some .int), Cond.methodLink RL 119 yL_byteAt, Cond.static yL_byteAt, Cond.codeWith yL_byteAt cL_byteAt 4 (some .int) [(0, 9, 12, 21)], Cond.methodLink RL 49 yX5_byteAt, Cond.instanceMethod yX5_byteAt, Cond.selects RX5 yX5_byteAt yX5_byteAt, Cond.code yX5_byteAt cX5_byteAt 2 (some .int), Cond.methodLink RX5 204 yX3_get, Cond.methodLink RL 121 yX6_byteAt, Cond.instanceMethod yX6_byteAt, Cond.selects RX6 yX6_byteAt yX6_byteAt, Cond.code yX6_byteAt cX6_byteAt 2 (some .int), Cond.methodLink RL 122 yL_node, Cond.static yL_node, Cond.codeWith yL_node cL_node 5 (some .int) [(0, 10, 13, 21)], Cond.methodLink RL 52 yX5_node, Cond.instanceMethod yX5_node, Cond.selects RX5 yX5_node yX5_node, Cond.code yX5_node cX5_node 3 (some .int), Cond.methodLink RX5 207 yX4_has, Cond.methodLink RX5 210 yX4_fact]
def wsL_law0_r33 : List Cond := [Cond.instanceMethod yX4_fact, Cond.selects RX4 yX4_fact yX4_fact, Cond.code yX4_fact cX4_fact 3 (some .int), Cond.methodLink RX4 48 yX4_above, Cond.instanceMethod yX4_above, Cond.selects RX4 yX4_above yX4_above, Cond.code yX4_above cX4_above 2 (some .int), Cond.methodLink RX4 51 yX4_from, Cond.methodLink RX4 53 yX4_to, Cond.methodLink RX4 55 yX4_depth, Cond.methodLink RL 124 yX6_node, Cond.instanceMethod yX6_node, Cond.selects RX6 yX6_node yX6_node, Cond.code yX6_node cX6_node 3 (some .int), Cond.methodLink RX6 219 yX6_isNode, Cond.instanceMethod yX6_isNode, Cond.selects RX6 yX6_isNode yX6_isNode, Cond.code yX6_isNode cX6_isNode 2 (some .boolean), Cond.methodLink RL 125 yL_continuation, Cond.static yL_continuation, Cond.codeWith yL_continuation cL_continuation 5 (some .int) [(0, 10, 13, 21)], Cond.methodLink RL 55 yX5_continuation, Cond.instanceMethod yX5_continuation, Cond.selects RX5 yX5_continuation yX5_continuation]
def wsL_law0_r34 : List Cond := [Cond.code yX5_continuation cX5_continuation 3 (some .int), Cond.methodLink RX5 213 yX4_childCount, Cond.methodLink RX5 218 yX4_child, Cond.methodLink RL 127 yX6_continuation, Cond.instanceMethod yX6_continuation, Cond.selects RX6 yX6_continuation yX6_continuation, Cond.code yX6_continuation cX6_continuation 3 (some .int), Cond.methodLink RL 128 yL_goTo, Cond.static yL_goTo, Cond.codeWith yL_goTo cL_goTo 4 (some .int) [(0, 9, 12, 21)], Cond.methodLink RL 58 yX5_goTo, Cond.instanceMethod yX5_goTo, Cond.selects RX5 yX5_goTo yX5_goTo, Cond.code yX5_goTo cX5_goTo 2 (some .int), Cond.methodLink RX5 223 yX5_visit, Cond.instanceMethod yX5_visit, Cond.selects RX5 yX5_visit yX5_visit, Cond.code yX5_visit cX5_visit 5 none, Cond.methodLink RX5 308 Lib.Math.min.name, Cond.methodLink RX5 305 yX5_stepUp, Cond.instanceMethod yX5_stepUp, Cond.selects RX5 yX5_stepUp yX5_stepUp, Cond.code yX5_stepUp cX5_stepUp 1 none, Cond.methodLink RX5 295 yX4_taken]
def wsL_law0_r35 : List Cond := [Cond.instanceMethod yX4_taken, Cond.selects RX4 yX4_taken yX4_taken, Cond.code yX4_taken cX4_taken 2 (some .int), Cond.methodLink RX5 298 yX0_takeBack, Cond.methodLink RX5 302 yX4_above, Cond.methodLink RL 130 yX6_goTo, Cond.instanceMethod yX6_goTo, Cond.selects RX6 yX6_goTo yX6_goTo, Cond.code yX6_goTo cX6_goTo 2 (some .int), Cond.methodLink RX6 222 yX6_set, Cond.instanceMethod yX6_set, Cond.selects RX6 yX6_set yX6_set, Cond.code yX6_set cX6_set 4 none, Cond.methodLink RL 131 yL_promote, Cond.static yL_promote, Cond.codeWith yL_promote cL_promote 4 (some .int) [(0, 9, 12, 21)], Cond.methodLink RL 61 yX5_promote, Cond.instanceMethod yX5_promote, Cond.selects RX5 yX5_promote yX5_promote, Cond.code yX5_promote cX5_promote 2 (some .int), Cond.methodLink RX5 228 yX4_makeMain, Cond.instanceMethod yX4_makeMain, Cond.selects RX4 yX4_makeMain yX4_makeMain, Cond.code yX4_makeMain cX4_makeMain 5 (some .int)]
def wsL_law0_r36 : List Cond := [Cond.methodLink RX4 63 yX4_placeOf, Cond.instanceMethod yX4_placeOf, Cond.selects RX4 yX4_placeOf yX4_placeOf, Cond.code yX4_placeOf cX4_placeOf 4 (some .int), Cond.methodLink RL 133 yX6_promote, Cond.instanceMethod yX6_promote, Cond.selects RX6 yX6_promote yX6_promote, Cond.code yX6_promote cX6_promote 4 (some .int), Cond.methodLink RL 134 yL_writeGame, Cond.static yL_writeGame, Cond.codeWith yL_writeGame cL_writeGame 3 (some .int) [(0, 8, 11, 15)], Cond.methodLink RL 64 yX5_writeGame, Cond.instanceMethod yX5_writeGame, Cond.selects RX5 yX5_writeGame yX5_writeGame, Cond.code yX5_writeGame cX5_writeGame 5 (some .int), Cond.methodLink RX5 231 yX5_writeOpening, Cond.instanceMethod yX5_writeOpening, Cond.selects RX5 yX5_writeOpening yX5_writeOpening, Cond.code yX5_writeOpening cX5_writeOpening 2 none, Cond.methodLink RX5 234 yX3_separate, Cond.instanceMethod yX3_separate, Cond.selects RX3 yX3_separate yX3_separate, Cond.code yX3_separate cX3_separate 1 none, Cond.methodLink RX3 23 yX3_get]
def wsL_law0_r37 : List Cond := [Cond.methodLink RX3 27 yX3_append, Cond.methodLink RX5 243 yX5_goOn, Cond.instanceMethod yX5_goOn, Cond.selects RX5 yX5_goOn yX5_goOn, Cond.code yX5_goOn cX5_goOn 4 (some .int), Cond.methodLink RX5 356 yX5_leaveLine, Cond.instanceMethod yX5_leaveLine, Cond.selects RX5 yX5_leaveLine yX5_leaveLine, Cond.code yX5_leaveLine cX5_leaveLine 3 (some .int), Cond.methodLink RX5 359 yX4_placeOf, Cond.methodLink RX5 246 yX3_hasSpilled, Cond.instanceMethod yX3_hasSpilled, Cond.selects RX3 yX3_hasSpilled yX3_hasSpilled, Cond.code yX3_hasSpilled cX3_hasSpilled 1 (some .boolean), Cond.methodLink RL 137 yX6_writeGame, Cond.instanceMethod yX6_writeGame, Cond.selects RX6 yX6_writeGame yX6_writeGame, Cond.code yX6_writeGame cX6_writeGame 1 (some .int), Cond.methodLink RX6 231 yX6_putBelow, Cond.instanceMethod yX6_putBelow, Cond.selects RX6 yX6_putBelow yX6_putBelow, Cond.code yX6_putBelow cX6_putBelow 4 none, Cond.methodLink RX6 228 yX6_putNode, Cond.instanceMethod yX6_putNode]
def wsL_law0_r38 : List Cond := [Cond.selects RX6 yX6_putNode yX6_putNode, Cond.code yX6_putNode cX6_putNode 2 none, Cond.methodLink RX6 225 yX6_blank, Cond.instanceMethod yX6_blank, Cond.selects RX6 yX6_blank yX6_blank, Cond.code yX6_blank cX6_blank 1 none, Cond.methodLink RL 138 yX5_readGame, Cond.instanceMethod yX5_readGame, Cond.selects RX5 yX5_readGame yX5_readGame, Cond.code yX5_readGame cX5_readGame 3 (some .int), Cond.methodLink RX5 250 yX5_beginAnew, Cond.instanceMethod yX5_beginAnew, Cond.selects RX5 yX5_beginAnew yX5_beginAnew, Cond.code yX5_beginAnew cX5_beginAnew 1 none, Cond.methodLink RX5 316 yX4_cutToRoot, Cond.instanceMethod yX4_cutToRoot, Cond.selects RX4 yX4_cutToRoot yX4_cutToRoot, Cond.code yX4_cutToRoot cX4_cutToRoot 1 none, Cond.methodLink RX5 253 yX5_openVariation, Cond.instanceMethod yX5_openVariation, Cond.selects RX5 yX5_openVariation yX5_openVariation, Cond.code yX5_openVariation cX5_openVariation 1 (some .int), Cond.methodLink RX5 256 yX5_closeVariation, Cond.instanceMethod yX5_closeVariation]
def wsL_law0_r39 : List Cond := [Cond.selects RX5 yX5_closeVariation yX5_closeVariation, Cond.code yX5_closeVariation cX5_closeVariation 1 (some .int), Cond.methodLink RX5 259 yX3_isWordStart, Cond.instanceMethod yX3_isWordStart, Cond.selects RX3 yX3_isWordStart yX3_isWordStart, Cond.code yX3_isWordStart cX3_isWordStart 2 (some .boolean), Cond.methodLink RX3 31 yX3_isOfWord, Cond.instanceMethod yX3_isOfWord, Cond.selects RX3 yX3_isOfWord yX3_isOfWord, Cond.code yX3_isOfWord cX3_isOfWord 3 (some .boolean), Cond.methodLink RX5 262 yX3_wordEnd, Cond.instanceMethod yX3_wordEnd, Cond.selects RX3 yX3_wordEnd yX3_wordEnd, Cond.code yX3_wordEnd cX3_wordEnd 3 (some .int), Cond.methodLink RL 141 yX6_readGame, Cond.instanceMethod yX6_readGame, Cond.selects RX6 yX6_readGame yX6_readGame, Cond.code yX6_readGame cX6_readGame 6 (some .int), Cond.methodLink RX6 234 yX6_clearNodes, Cond.instanceMethod yX6_clearNodes, Cond.selects RX6 yX6_clearNodes yX6_clearNodes, Cond.code yX6_clearNodes cX6_clearNodes 1 none, Cond.methodLink RX6 237 yX6_stop, Cond.instanceMethod yX6_stop]
def wsL_law0_r40 : List Cond := [Cond.selects RX6 yX6_stop yX6_stop, Cond.code yX6_stop cX6_stop 3 (some .int), Cond.methodLink RX6 240 yX6_isWord, Cond.instanceMethod yX6_isWord, Cond.selects RX6 yX6_isWord yX6_isWord, Cond.code yX6_isWord cX6_isWord 2 (some .boolean), Cond.methodLink RL 142 yX5_clear, Cond.instanceMethod yX5_clear, Cond.selects RX5 yX5_clear yX5_clear, Cond.code yX5_clear cX5_clear 2 (some .int), Cond.methodLink RL 145 yX6_clear, Cond.instanceMethod yX6_clear, Cond.selects RX6 yX6_clear yX6_clear, Cond.code yX6_clear cX6_clear 2 (some .int), Cond.methodLink RL 146 yX5_branching, Cond.instanceMethod yX5_branching, Cond.selects RX5 yX5_branching yX5_branching, Cond.code yX5_branching cX5_branching 3 (some .double), Cond.methodLink RL 150 yX6_branching, Cond.instanceMethod yX6_branching, Cond.selects RX6 yX6_branching yX6_branching, Cond.code yX6_branching cX6_branching 4 (some .double), Cond.methodLink RL 151 yX5_digest, Cond.instanceMethod yX5_digest]
def wsL_law0_r41 : List Cond := [Cond.selects RX5 yX5_digest yX5_digest, Cond.code yX5_digest cX5_digest 4 (some .long), Cond.constantLong RX5 265 (353), Cond.constantLong RX5 267 (31), Cond.methodLink RX5 269 yX5_state, Cond.methodLink RX5 272 yX5_digestNode, Cond.instanceMethod yX5_digestNode, Cond.selects RX5 yX5_digestNode yX5_digestNode, Cond.code yX5_digestNode cX5_digestNode 7 (some .long), Cond.methodLink RL 155 yX6_digest, Cond.instanceMethod yX6_digest, Cond.selects RX6 yX6_digest yX6_digest, Cond.code yX6_digest cX6_digest 5 (some .long), Cond.constantLong RX6 243 (353), Cond.constantLong RX6 245 (31)]
def wsL_law0 : List Cond := (wsL_law0_r1 ++ (wsL_law0_r2 ++ (wsL_law0_r3 ++ (wsL_law0_r4 ++ (wsL_law0_r5 ++ (wsL_law0_r6 ++ (wsL_law0_r7 ++ (wsL_law0_r8 ++ (wsL_law0_r9 ++ (wsL_law0_r10 ++ (wsL_law0_r11 ++ (wsL_law0_r12 ++ (wsL_law0_r13 ++ (wsL_law0_r14 ++ (wsL_law0_r15 ++ (wsL_law0_r16 ++ (wsL_law0_r17 ++ (wsL_law0_r18 ++ (wsL_law0_r19 ++ (wsL_law0_r20 ++ (wsL_law0_r21 ++ (wsL_law0_r22 ++ (wsL_law0_r23 ++ (wsL_law0_r24 ++ (wsL_law0_r25 ++ (wsL_law0_r26 ++ (wsL_law0_r27 ++ (wsL_law0_r28 ++ (wsL_law0_r29 ++ (wsL_law0_r30 ++ (wsL_law0_r31 ++ (wsL_law0_r32 ++ (wsL_law0_r33 ++ (wsL_law0_r34 ++ (wsL_law0_r35 ++ (wsL_law0_r36 ++ (wsL_law0_r37 ++ (wsL_law0_r38 ++ (wsL_law0_r39 ++ (wsL_law0_r40 ++ wsL_law0_r41)))))))))))))))))))))))))))))))))))))))) ++ wsX50 ++ wsX60 ++ wsX10 ++ wsX00 ++ wsX40 ++ wsX20 ++ wsX30 ++ ([] : List Cond)
def wsL_law : List Cond := wsL_law0 ++ (vx_atS RX5 90 "java/lang/IllegalArgumentException" ["java/lang/RuntimeException", "java/lang/Exception"]).filter goodWord ++ (vx_atS RX5 102 "java/lang/IllegalStateException" ["java/lang/RuntimeException", "java/lang/Exception"]).filter goodWord ++ (vx_atS RX5 114 "java/lang/IndexOutOfBoundsException" ["java/lang/RuntimeException", "java/lang/Exception"]).filter goodWord
theorem inJx145de : ∀ w ∈ wsJx145de0, w ∈ lw_tbl := by decide +kernel
theorem inJx9f9b0 : ∀ w ∈ wsJx9f9b00, w ∈ lw_tbl := by decide +kernel
theorem inJ11 : ∀ w ∈ wsJ110, w ∈ lw_tbl := by decide +kernel
theorem inJxb160c : ∀ w ∈ wsJxb160c0, w ∈ lw_tbl := by decide +kernel
theorem inJ9 : ∀ w ∈ wsJ90, w ∈ lw_tbl := by decide +kernel
theorem inJ0 : ∀ w ∈ wsJ00, w ∈ lw_tbl := by decide +kernel
theorem inJ1 : ∀ w ∈ wsJ10, w ∈ lw_tbl := by decide +kernel
theorem inJ2 : ∀ w ∈ wsJ20, w ∈ lw_tbl := by decide +kernel
theorem inJ10 : ∀ w ∈ wsJ100, w ∈ lw_tbl := by decide +kernel
theorem inJxfd54e : ∀ w ∈ wsJxfd54e0, w ∈ lw_tbl := by decide +kernel
theorem inJx3cf43 : ∀ w ∈ wsJx3cf430, w ∈ lw_tbl := by decide +kernel
theorem inJ7 : ∀ w ∈ wsJ70, w ∈ lw_tbl := by decide +kernel
theorem inJ3 : ∀ w ∈ wsJ30, w ∈ lw_tbl := by decide +kernel
set_option maxRecDepth 20000 in
theorem ggX0_init_J7_fill_53178 : GoodIn wsX0_init wsJ7_fill_53178 := goodIn_r _ [10] (by decide +kernel) (by decide +kernel)
set_option maxRecDepth 20000 in
theorem gX0_init_J7_fill_53178 : GoodIn wsX0_init (va_wsS RX0 19 yJ7_fill_53178 wsJ7_fill_53178) := goodIn_app (goodIn_of _ (by decide +kernel)) ggX0_init_J7_fill_53178
theorem dX0_init_0 : decode cX0_init 0 = .ok (.aload_n 0, 1) := by decide +kernel
theorem dX0_init_1 : decode cX0_init 1 = .ok (.invokespecial 3, 3) := by decide +kernel
theorem dX0_init_4 : decode cX0_init 4 = .ok (.aload_n 0, 1) := by decide +kernel
theorem dX0_init_5 : decode cX0_init 5 = .ok (.bipush 64, 2) := by decide +kernel
theorem dX0_init_7 : decode cX0_init 7 = .ok (.newarray .int, 2) := by decide +kernel
theorem dX0_init_9 : decode cX0_init 9 = .ok (.putfield 9, 3) := by decide +kernel
theorem dX0_init_12 : decode cX0_init 12 = .ok (.aload_n 0, 1) := by decide +kernel
theorem dX0_init_13 : decode cX0_init 13 = .ok (.aload_n 1, 1) := by decide +kernel
theorem dX0_init_14 : decode cX0_init 14 = .ok (.putfield 15, 3) := by decide +kernel
theorem dX0_init_17 : decode cX0_init 17 = .ok (.aload_n 0, 1) := by decide +kernel
theorem dX0_init_18 : decode cX0_init 18 = .ok (.getfield 9, 3) := by decide +kernel
theorem dX0_init_21 : decode cX0_init 21 = .ok (.iconst (-1), 1) := by decide +kernel
theorem dX0_init_22 : decode cX0_init 22 = .ok (.invokestatic 19, 3) := by decide +kernel
theorem dX0_init_25 : decode cX0_init 25 = .ok (.return_, 1) := by decide +kernel
set_option maxRecDepth 20000 in
theorem ggX0_pieceOn_X5_isSquare : GoodIn wsX0_pieceOn wsX5_isSquare := goodIn_r _ [4] (by decide +kernel) (by decide +kernel)
set_option maxRecDepth 20000 in
theorem gX0_pieceOn_X5_isSquare_n25 : GoodIn wsX0_pieceOn (wsX5_isSquare) := ggX0_pieceOn_X5_isSquare
theorem dX0_pieceOn_0 : decode cX0_pieceOn 0 = .ok (.iload_n 1, 1) := by decide +kernel
theorem dX0_pieceOn_1 : decode cX0_pieceOn 1 = .ok (.invokestatic 25, 3) := by decide +kernel
theorem dX0_pieceOn_4 : decode cX0_pieceOn 4 = .ok (.ifCond .eq 12, 3) := by decide +kernel
theorem dX0_pieceOn_7 : decode cX0_pieceOn 7 = .ok (.aload_n 0, 1) := by decide +kernel
theorem dX0_pieceOn_8 : decode cX0_pieceOn 8 = .ok (.getfield 9, 3) := by decide +kernel
theorem dX0_pieceOn_11 : decode cX0_pieceOn 11 = .ok (.iload_n 1, 1) := by decide +kernel
theorem dX0_pieceOn_12 : decode cX0_pieceOn 12 = .ok (.iaload, 1) := by decide +kernel
theorem dX0_pieceOn_13 : decode cX0_pieceOn 13 = .ok (.goto 4, 3) := by decide +kernel
theorem dX0_pieceOn_16 : decode cX0_pieceOn 16 = .ok (.iconst (-1), 1) := by decide +kernel
theorem dX0_pieceOn_17 : decode cX0_pieceOn 17 = .ok (.ireturn, 1) := by decide +kernel
set_option maxRecDepth 20000 in
theorem ggX0_isTaken_X0_pieceOn : GoodIn wsX0_isTaken wsX0_pieceOn := goodIn_r _ [5, 6, 7, 8, 9, 10, 11] (by decide +kernel) (by decide +kernel)
set_option maxRecDepth 20000 in
theorem gX0_isTaken_X0_pieceOn : GoodIn wsX0_isTaken (wsV RX0 29 RX0 yX0_pieceOn wsX0_pieceOn) := goodIn_app (goodIn_of _ (by decide +kernel)) ggX0_isTaken_X0_pieceOn
theorem dX0_isTaken_0 : decode cX0_isTaken 0 = .ok (.aload_n 0, 1) := by decide +kernel
theorem dX0_isTaken_1 : decode cX0_isTaken 1 = .ok (.iload_n 1, 1) := by decide +kernel
theorem dX0_isTaken_2 : decode cX0_isTaken 2 = .ok (.invokevirtual 29, 3) := by decide +kernel
theorem dX0_isTaken_5 : decode cX0_isTaken 5 = .ok (.iconst (-1), 1) := by decide +kernel
theorem dX0_isTaken_6 : decode cX0_isTaken 6 = .ok (.if_icmp .eq 7, 3) := by decide +kernel
theorem dX0_isTaken_9 : decode cX0_isTaken 9 = .ok (.iconst 1, 1) := by decide +kernel
theorem dX0_isTaken_10 : decode cX0_isTaken 10 = .ok (.goto 4, 3) := by decide +kernel
theorem dX0_isTaken_13 : decode cX0_isTaken 13 = .ok (.iconst 0, 1) := by decide +kernel
theorem dX0_isTaken_14 : decode cX0_isTaken 14 = .ok (.ireturn, 1) := by decide +kernel
set_option maxRecDepth 20000 in
theorem ggX0_isOf_X0_isTaken : GoodIn wsX0_isOf wsX0_isTaken := goodIn_r _ [5, 6, 7, 8, 4, 9, 10, 11, 12, 13, 14, 15] (by decide +kernel) (by decide +kernel)
set_option maxRecDepth 20000 in
theorem gX0_isOf_X0_isTaken : GoodIn wsX0_isOf (wsV RX0 33 RX0 yX0_isTaken wsX0_isTaken) := goodIn_app (goodIn_of _ (by decide +kernel)) ggX0_isOf_X0_isTaken
set_option maxRecDepth 20000 in
theorem ggX0_isOf_X0_pieceOn : GoodIn wsX0_isOf wsX0_pieceOn := goodIn_r _ [9, 10, 11, 12, 13, 14, 15] (by decide +kernel) (by decide +kernel)
set_option maxRecDepth 20000 in
theorem gX0_isOf_X0_pieceOn : GoodIn wsX0_isOf (wsV RX0 29 RX0 yX0_pieceOn wsX0_pieceOn) := goodIn_app (goodIn_of _ (by decide +kernel)) ggX0_isOf_X0_pieceOn
theorem dX0_isOf_0 : decode cX0_isOf 0 = .ok (.aload_n 0, 1) := by decide +kernel
theorem dX0_isOf_1 : decode cX0_isOf 1 = .ok (.iload_n 1, 1) := by decide +kernel
theorem dX0_isOf_2 : decode cX0_isOf 2 = .ok (.invokevirtual 33, 3) := by decide +kernel
theorem dX0_isOf_5 : decode cX0_isOf 5 = .ok (.ifCond .eq 18, 3) := by decide +kernel
theorem dX0_isOf_8 : decode cX0_isOf 8 = .ok (.aload_n 0, 1) := by decide +kernel
theorem dX0_isOf_9 : decode cX0_isOf 9 = .ok (.iload_n 1, 1) := by decide +kernel
theorem dX0_isOf_10 : decode cX0_isOf 10 = .ok (.invokevirtual 29, 3) := by decide +kernel
theorem dX0_isOf_13 : decode cX0_isOf 13 = .ok (.iconst 2, 1) := by decide +kernel
theorem dX0_isOf_14 : decode cX0_isOf 14 = .ok (.irem, 1) := by decide +kernel
theorem dX0_isOf_15 : decode cX0_isOf 15 = .ok (.iload_n 2, 1) := by decide +kernel
theorem dX0_isOf_16 : decode cX0_isOf 16 = .ok (.if_icmp .ne 7, 3) := by decide +kernel
theorem dX0_isOf_19 : decode cX0_isOf 19 = .ok (.iconst 1, 1) := by decide +kernel
theorem dX0_isOf_20 : decode cX0_isOf 20 = .ok (.goto 4, 3) := by decide +kernel
theorem dX0_isOf_23 : decode cX0_isOf 23 = .ok (.iconst 0, 1) := by decide +kernel
theorem dX0_isOf_24 : decode cX0_isOf 24 = .ok (.ireturn, 1) := by decide +kernel
set_option maxRecDepth 20000 in
theorem ggX0_replace_X5_isSquare : GoodIn wsX0_replace wsX5_isSquare := goodIn_r _ [4] (by decide +kernel) (by decide +kernel)
set_option maxRecDepth 20000 in
theorem gX0_replace_X5_isSquare_n25 : GoodIn wsX0_replace (wsX5_isSquare) := ggX0_replace_X5_isSquare
theorem dX0_replace_0 : decode cX0_replace 0 = .ok (.iload_n 1, 1) := by decide +kernel
theorem dX0_replace_1 : decode cX0_replace 1 = .ok (.invokestatic 25, 3) := by decide +kernel
theorem dX0_replace_4 : decode cX0_replace 4 = .ok (.ifCond .ne 5, 3) := by decide +kernel
theorem dX0_replace_7 : decode cX0_replace 7 = .ok (.iconst (-1), 1) := by decide +kernel
theorem dX0_replace_8 : decode cX0_replace 8 = .ok (.ireturn, 1) := by decide +kernel
theorem dX0_replace_9 : decode cX0_replace 9 = .ok (.aload_n 0, 1) := by decide +kernel
theorem dX0_replace_10 : decode cX0_replace 10 = .ok (.getfield 9, 3) := by decide +kernel
theorem dX0_replace_13 : decode cX0_replace 13 = .ok (.iload_n 1, 1) := by decide +kernel
theorem dX0_replace_14 : decode cX0_replace 14 = .ok (.iaload, 1) := by decide +kernel
theorem dX0_replace_15 : decode cX0_replace 15 = .ok (.istore_n 3, 1) := by decide +kernel
theorem dX0_replace_16 : decode cX0_replace 16 = .ok (.aload_n 0, 1) := by decide +kernel
theorem dX0_replace_17 : decode cX0_replace 17 = .ok (.getfield 9, 3) := by decide +kernel
theorem dX0_replace_20 : decode cX0_replace 20 = .ok (.iload_n 1, 1) := by decide +kernel
theorem dX0_replace_21 : decode cX0_replace 21 = .ok (.iload_n 2, 1) := by decide +kernel
theorem dX0_replace_22 : decode cX0_replace 22 = .ok (.iastore, 1) := by decide +kernel
theorem dX0_replace_23 : decode cX0_replace 23 = .ok (.iload_n 3, 1) := by decide +kernel
theorem dX0_replace_24 : decode cX0_replace 24 = .ok (.ireturn, 1) := by decide +kernel
set_option maxRecDepth 20000 in
theorem ggX0_move_X5_isSquare : GoodIn wsX0_move wsX5_isSquare := goodIn_r _ [4] (by decide +kernel) (by decide +kernel)
set_option maxRecDepth 20000 in
theorem gX0_move_X5_isSquare_n25 : GoodIn wsX0_move (wsX5_isSquare) := ggX0_move_X5_isSquare
theorem dX0_move_0 : decode cX0_move 0 = .ok (.iload_n 1, 1) := by decide +kernel
theorem dX0_move_1 : decode cX0_move 1 = .ok (.invokestatic 25, 3) := by decide +kernel
theorem dX0_move_4 : decode cX0_move 4 = .ok (.ifCond .eq 10, 3) := by decide +kernel
theorem dX0_move_7 : decode cX0_move 7 = .ok (.iload_n 2, 1) := by decide +kernel
theorem dX0_move_8 : decode cX0_move 8 = .ok (.invokestatic 25, 3) := by decide +kernel
theorem dX0_move_11 : decode cX0_move 11 = .ok (.ifCond .ne 5, 3) := by decide +kernel
theorem dX0_move_14 : decode cX0_move 14 = .ok (.iconst (-1), 1) := by decide +kernel
theorem dX0_move_15 : decode cX0_move 15 = .ok (.ireturn, 1) := by decide +kernel
theorem dX0_move_16 : decode cX0_move 16 = .ok (.aload_n 0, 1) := by decide +kernel
theorem dX0_move_17 : decode cX0_move 17 = .ok (.getfield 9, 3) := by decide +kernel
theorem dX0_move_20 : decode cX0_move 20 = .ok (.iload_n 2, 1) := by decide +kernel
theorem dX0_move_21 : decode cX0_move 21 = .ok (.iaload, 1) := by decide +kernel
theorem dX0_move_22 : decode cX0_move 22 = .ok (.istore_n 3, 1) := by decide +kernel
theorem dX0_move_23 : decode cX0_move 23 = .ok (.aload_n 0, 1) := by decide +kernel
theorem dX0_move_24 : decode cX0_move 24 = .ok (.getfield 9, 3) := by decide +kernel
theorem dX0_move_27 : decode cX0_move 27 = .ok (.iload_n 2, 1) := by decide +kernel
theorem dX0_move_28 : decode cX0_move 28 = .ok (.aload_n 0, 1) := by decide +kernel
theorem dX0_move_29 : decode cX0_move 29 = .ok (.getfield 9, 3) := by decide +kernel
theorem dX0_move_32 : decode cX0_move 32 = .ok (.iload_n 1, 1) := by decide +kernel
theorem dX0_move_33 : decode cX0_move 33 = .ok (.iaload, 1) := by decide +kernel
theorem dX0_move_34 : decode cX0_move 34 = .ok (.iastore, 1) := by decide +kernel
theorem dX0_move_35 : decode cX0_move 35 = .ok (.aload_n 0, 1) := by decide +kernel
theorem dX0_move_36 : decode cX0_move 36 = .ok (.getfield 9, 3) := by decide +kernel
theorem dX0_move_39 : decode cX0_move 39 = .ok (.iload_n 1, 1) := by decide +kernel
theorem dX0_move_40 : decode cX0_move 40 = .ok (.iconst (-1), 1) := by decide +kernel
theorem dX0_move_41 : decode cX0_move 41 = .ok (.iastore, 1) := by decide +kernel
theorem dX0_move_42 : decode cX0_move 42 = .ok (.iload_n 3, 1) := by decide +kernel
theorem dX0_move_43 : decode cX0_move 43 = .ok (.ireturn, 1) := by decide +kernel
set_option maxRecDepth 20000 in
theorem ggX0_takeBack_X5_isSquare : GoodIn wsX0_takeBack wsX5_isSquare := goodIn_r _ [4] (by decide +kernel) (by decide +kernel)
set_option maxRecDepth 20000 in
theorem gX0_takeBack_X5_isSquare_n25 : GoodIn wsX0_takeBack (wsX5_isSquare) := ggX0_takeBack_X5_isSquare
theorem dX0_takeBack_0 : decode cX0_takeBack 0 = .ok (.iload_n 1, 1) := by decide +kernel
theorem dX0_takeBack_1 : decode cX0_takeBack 1 = .ok (.invokestatic 25, 3) := by decide +kernel
theorem dX0_takeBack_4 : decode cX0_takeBack 4 = .ok (.ifCond .eq 29, 3) := by decide +kernel
theorem dX0_takeBack_7 : decode cX0_takeBack 7 = .ok (.iload_n 2, 1) := by decide +kernel
theorem dX0_takeBack_8 : decode cX0_takeBack 8 = .ok (.invokestatic 25, 3) := by decide +kernel
theorem dX0_takeBack_11 : decode cX0_takeBack 11 = .ok (.ifCond .eq 22, 3) := by decide +kernel
theorem dX0_takeBack_14 : decode cX0_takeBack 14 = .ok (.aload_n 0, 1) := by decide +kernel
theorem dX0_takeBack_15 : decode cX0_takeBack 15 = .ok (.getfield 9, 3) := by decide +kernel
theorem dX0_takeBack_18 : decode cX0_takeBack 18 = .ok (.iload_n 1, 1) := by decide +kernel
theorem dX0_takeBack_19 : decode cX0_takeBack 19 = .ok (.aload_n 0, 1) := by decide +kernel
theorem dX0_takeBack_20 : decode cX0_takeBack 20 = .ok (.getfield 9, 3) := by decide +kernel
theorem dX0_takeBack_23 : decode cX0_takeBack 23 = .ok (.iload_n 2, 1) := by decide +kernel
theorem dX0_takeBack_24 : decode cX0_takeBack 24 = .ok (.iaload, 1) := by decide +kernel
theorem dX0_takeBack_25 : decode cX0_takeBack 25 = .ok (.iastore, 1) := by decide +kernel
theorem dX0_takeBack_26 : decode cX0_takeBack 26 = .ok (.aload_n 0, 1) := by decide +kernel
theorem dX0_takeBack_27 : decode cX0_takeBack 27 = .ok (.getfield 9, 3) := by decide +kernel
theorem dX0_takeBack_30 : decode cX0_takeBack 30 = .ok (.iload_n 2, 1) := by decide +kernel
theorem dX0_takeBack_31 : decode cX0_takeBack 31 = .ok (.iload_n 3, 1) := by decide +kernel
theorem dX0_takeBack_32 : decode cX0_takeBack 32 = .ok (.iastore, 1) := by decide +kernel
theorem dX0_takeBack_33 : decode cX0_takeBack 33 = .ok (.return_, 1) := by decide +kernel
set_option maxRecDepth 20000 in
theorem ggX0_reaches_X5_isSquare : GoodIn wsX0_reaches wsX5_isSquare := goodIn_r _ [3] (by decide +kernel) (by decide +kernel)
set_option maxRecDepth 20000 in
theorem gX0_reaches_X5_isSquare_n25 : GoodIn wsX0_reaches (wsX5_isSquare) := ggX0_reaches_X5_isSquare
set_option maxRecDepth 20000 in
theorem ggX0_reaches_X0_reachedFrom : GoodIn wsX0_reaches wsX0_reachedFrom := goodIn_r _ [8, 9, 10, 11, 12, 13, 14, 15, 16, 17, 18] (by decide +kernel) (by decide +kernel)
set_option maxRecDepth 20000 in
theorem gX0_reaches_X0_reachedFrom : GoodIn wsX0_reaches (wsV RX0 36 RX0 yX0_reachedFrom wsX0_reachedFrom) := goodIn_app (goodIn_of _ (by decide +kernel)) ggX0_reaches_X0_reachedFrom
theorem dX0_reaches_0 : decode cX0_reaches 0 = .ok (.iload_n 2, 1) := by decide +kernel
theorem dX0_reaches_1 : decode cX0_reaches 1 = .ok (.invokestatic 25, 3) := by decide +kernel
theorem dX0_reaches_4 : decode cX0_reaches 4 = .ok (.ifCond .eq 21, 3) := by decide +kernel
theorem dX0_reaches_7 : decode cX0_reaches 7 = .ok (.aload_n 0, 1) := by decide +kernel
theorem dX0_reaches_8 : decode cX0_reaches 8 = .ok (.iload_n 1, 1) := by decide +kernel
theorem dX0_reaches_9 : decode cX0_reaches 9 = .ok (.invokevirtual 36, 3) := by decide +kernel
theorem dX0_reaches_12 : decode cX0_reaches 12 = .ok (.iload_n 2, 1) := by decide +kernel
theorem dX0_reaches_13 : decode cX0_reaches 13 = .ok (.lushr, 1) := by decide +kernel
theorem dX0_reaches_14 : decode cX0_reaches 14 = .ok (.lconst 1, 1) := by decide +kernel
theorem dX0_reaches_15 : decode cX0_reaches 15 = .ok (.land, 1) := by decide +kernel
theorem dX0_reaches_16 : decode cX0_reaches 16 = .ok (.lconst 0, 1) := by decide +kernel
theorem dX0_reaches_17 : decode cX0_reaches 17 = .ok (.lcmp, 1) := by decide +kernel
theorem dX0_reaches_18 : decode cX0_reaches 18 = .ok (.ifCond .eq 7, 3) := by decide +kernel
theorem dX0_reaches_21 : decode cX0_reaches 21 = .ok (.iconst 1, 1) := by decide +kernel
theorem dX0_reaches_22 : decode cX0_reaches 22 = .ok (.goto 4, 3) := by decide +kernel
theorem dX0_reaches_25 : decode cX0_reaches 25 = .ok (.iconst 0, 1) := by decide +kernel
theorem dX0_reaches_26 : decode cX0_reaches 26 = .ok (.ireturn, 1) := by decide +kernel
theorem dX0_reachedFrom_0 : decode cX0_reachedFrom 0 = .ok (.iload_n 1, 1) := by decide +kernel
theorem dX0_reachedFrom_1 : decode cX0_reachedFrom 1 = .ok (.ifCond .lt 9, 3) := by decide +kernel
theorem dX0_reachedFrom_4 : decode cX0_reachedFrom 4 = .ok (.iload_n 1, 1) := by decide +kernel
theorem dX0_reachedFrom_5 : decode cX0_reachedFrom 5 = .ok (.bipush 64, 2) := by decide +kernel
theorem dX0_reachedFrom_7 : decode cX0_reachedFrom 7 = .ok (.if_icmp .lt 5, 3) := by decide +kernel
theorem dX0_reachedFrom_10 : decode cX0_reachedFrom 10 = .ok (.lconst 0, 1) := by decide +kernel
theorem dX0_reachedFrom_11 : decode cX0_reachedFrom 11 = .ok (.lreturn, 1) := by decide +kernel
theorem dX0_reachedFrom_12 : decode cX0_reachedFrom 12 = .ok (.aload_n 0, 1) := by decide +kernel
theorem dX0_reachedFrom_13 : decode cX0_reachedFrom 13 = .ok (.getfield 9, 3) := by decide +kernel
theorem dX0_reachedFrom_16 : decode cX0_reachedFrom 16 = .ok (.iload_n 1, 1) := by decide +kernel
theorem dX0_reachedFrom_17 : decode cX0_reachedFrom 17 = .ok (.iaload, 1) := by decide +kernel
theorem dX0_reachedFrom_18 : decode cX0_reachedFrom 18 = .ok (.istore_n 2, 1) := by decide +kernel
theorem dX0_reachedFrom_19 : decode cX0_reachedFrom 19 = .ok (.iload_n 2, 1) := by decide +kernel
theorem dX0_reachedFrom_20 : decode cX0_reachedFrom 20 = .ok (.ifCond .lt 16, 3) := by decide +kernel
theorem dX0_reachedFrom_23 : decode cX0_reachedFrom 23 = .ok (.iload_n 2, 1) := by decide +kernel
theorem dX0_reachedFrom_24 : decode cX0_reachedFrom 24 = .ok (.iconst 2, 1) := by decide +kernel
theorem dX0_reachedFrom_25 : decode cX0_reachedFrom 25 = .ok (.idiv, 1) := by decide +kernel
theorem dX0_reachedFrom_26 : decode cX0_reachedFrom 26 = .ok (.aload_n 0, 1) := by decide +kernel
theorem dX0_reachedFrom_27 : decode cX0_reachedFrom 27 = .ok (.getfield 15, 3) := by decide +kernel
theorem dX0_reachedFrom_30 : decode cX0_reachedFrom 30 = .ok (.getfield 40, 3) := by decide +kernel
theorem dX0_reachedFrom_33 : decode cX0_reachedFrom 33 = .ok (.if_icmp .lt 5, 3) := by decide +kernel
theorem dX0_reachedFrom_36 : decode cX0_reachedFrom 36 = .ok (.lconst 0, 1) := by decide +kernel
theorem dX0_reachedFrom_37 : decode cX0_reachedFrom 37 = .ok (.lreturn, 1) := by decide +kernel
theorem dX0_reachedFrom_38 : decode cX0_reachedFrom 38 = .ok (.iload_n 2, 1) := by decide +kernel
theorem dX0_reachedFrom_39 : decode cX0_reachedFrom 39 = .ok (.iconst 2, 1) := by decide +kernel
theorem dX0_reachedFrom_40 : decode cX0_reachedFrom 40 = .ok (.irem, 1) := by decide +kernel
theorem dX0_reachedFrom_41 : decode cX0_reachedFrom 41 = .ok (.istore_n 3, 1) := by decide +kernel
theorem dX0_reachedFrom_42 : decode cX0_reachedFrom 42 = .ok (.iload_n 2, 1) := by decide +kernel
theorem dX0_reachedFrom_43 : decode cX0_reachedFrom 43 = .ok (.iconst 2, 1) := by decide +kernel
theorem dX0_reachedFrom_44 : decode cX0_reachedFrom 44 = .ok (.idiv, 1) := by decide +kernel
theorem dX0_reachedFrom_45 : decode cX0_reachedFrom 45 = .ok (.bipush 8, 2) := by decide +kernel
theorem dX0_reachedFrom_47 : decode cX0_reachedFrom 47 = .ok (.imul, 1) := by decide +kernel
theorem dX0_reachedFrom_48 : decode cX0_reachedFrom 48 = .ok (.istore 4, 2) := by decide +kernel
theorem dX0_reachedFrom_50 : decode cX0_reachedFrom 50 = .ok (.iload 4, 2) := by decide +kernel
theorem dX0_reachedFrom_52 : decode cX0_reachedFrom 52 = .ok (.aload_n 0, 1) := by decide +kernel
theorem dX0_reachedFrom_53 : decode cX0_reachedFrom 53 = .ok (.getfield 15, 3) := by decide +kernel
theorem dX0_reachedFrom_56 : decode cX0_reachedFrom 56 = .ok (.getfield 46, 3) := by decide +kernel
theorem dX0_reachedFrom_59 : decode cX0_reachedFrom 59 = .ok (.iload_n 2, 1) := by decide +kernel
theorem dX0_reachedFrom_60 : decode cX0_reachedFrom 60 = .ok (.iconst 2, 1) := by decide +kernel
theorem dX0_reachedFrom_61 : decode cX0_reachedFrom 61 = .ok (.idiv, 1) := by decide +kernel
theorem dX0_reachedFrom_62 : decode cX0_reachedFrom 62 = .ok (.iaload, 1) := by decide +kernel
theorem dX0_reachedFrom_63 : decode cX0_reachedFrom 63 = .ok (.iadd, 1) := by decide +kernel
theorem dX0_reachedFrom_64 : decode cX0_reachedFrom 64 = .ok (.istore 5, 2) := by decide +kernel
theorem dX0_reachedFrom_66 : decode cX0_reachedFrom 66 = .ok (.lconst 0, 1) := by decide +kernel
theorem dX0_reachedFrom_67 : decode cX0_reachedFrom 67 = .ok (.lstore 6, 2) := by decide +kernel
theorem dX0_reachedFrom_69 : decode cX0_reachedFrom 69 = .ok (.iload 4, 2) := by decide +kernel
theorem dX0_reachedFrom_71 : decode cX0_reachedFrom 71 = .ok (.istore 8, 2) := by decide +kernel
theorem dX0_reachedFrom_73 : decode cX0_reachedFrom 73 = .ok (.iload 8, 2) := by decide +kernel
theorem dX0_reachedFrom_75 : decode cX0_reachedFrom 75 = .ok (.iload 5, 2) := by decide +kernel
theorem dX0_reachedFrom_77 : decode cX0_reachedFrom 77 = .ok (.if_icmp .ge 185, 3) := by decide +kernel
theorem dX0_reachedFrom_80 : decode cX0_reachedFrom 80 = .ok (.aload_n 0, 1) := by decide +kernel
theorem dX0_reachedFrom_81 : decode cX0_reachedFrom 81 = .ok (.getfield 15, 3) := by decide +kernel
theorem dX0_reachedFrom_84 : decode cX0_reachedFrom 84 = .ok (.getfield 49, 3) := by decide +kernel
theorem dX0_reachedFrom_87 : decode cX0_reachedFrom 87 = .ok (.iload 8, 2) := by decide +kernel
theorem dX0_reachedFrom_89 : decode cX0_reachedFrom 89 = .ok (.iaload, 1) := by decide +kernel
theorem dX0_reachedFrom_90 : decode cX0_reachedFrom 90 = .ok (.istore 9, 2) := by decide +kernel
theorem dX0_reachedFrom_92 : decode cX0_reachedFrom 92 = .ok (.iload_n 3, 1) := by decide +kernel
theorem dX0_reachedFrom_93 : decode cX0_reachedFrom 93 = .ok (.ifCond .ne 16, 3) := by decide +kernel
theorem dX0_reachedFrom_96 : decode cX0_reachedFrom 96 = .ok (.aload_n 0, 1) := by decide +kernel
theorem dX0_reachedFrom_97 : decode cX0_reachedFrom 97 = .ok (.getfield 15, 3) := by decide +kernel
theorem dX0_reachedFrom_100 : decode cX0_reachedFrom 100 = .ok (.getfield 52, 3) := by decide +kernel
theorem dX0_reachedFrom_103 : decode cX0_reachedFrom 103 = .ok (.iload 8, 2) := by decide +kernel
theorem dX0_reachedFrom_105 : decode cX0_reachedFrom 105 = .ok (.iaload, 1) := by decide +kernel
theorem dX0_reachedFrom_106 : decode cX0_reachedFrom 106 = .ok (.goto 14, 3) := by decide +kernel
theorem dX0_reachedFrom_109 : decode cX0_reachedFrom 109 = .ok (.aload_n 0, 1) := by decide +kernel
theorem dX0_reachedFrom_110 : decode cX0_reachedFrom 110 = .ok (.getfield 15, 3) := by decide +kernel
theorem dX0_reachedFrom_113 : decode cX0_reachedFrom 113 = .ok (.getfield 52, 3) := by decide +kernel
theorem dX0_reachedFrom_116 : decode cX0_reachedFrom 116 = .ok (.iload 8, 2) := by decide +kernel
theorem dX0_reachedFrom_118 : decode cX0_reachedFrom 118 = .ok (.iaload, 1) := by decide +kernel
theorem dX0_reachedFrom_119 : decode cX0_reachedFrom 119 = .ok (.ineg, 1) := by decide +kernel
theorem dX0_reachedFrom_120 : decode cX0_reachedFrom 120 = .ok (.istore 10, 2) := by decide +kernel
theorem dX0_reachedFrom_122 : decode cX0_reachedFrom 122 = .ok (.iload_n 1, 1) := by decide +kernel
theorem dX0_reachedFrom_123 : decode cX0_reachedFrom 123 = .ok (.bipush 8, 2) := by decide +kernel
theorem dX0_reachedFrom_125 : decode cX0_reachedFrom 125 = .ok (.irem, 1) := by decide +kernel
theorem dX0_reachedFrom_126 : decode cX0_reachedFrom 126 = .ok (.iload 9, 2) := by decide +kernel
theorem dX0_reachedFrom_128 : decode cX0_reachedFrom 128 = .ok (.iadd, 1) := by decide +kernel
theorem dX0_reachedFrom_129 : decode cX0_reachedFrom 129 = .ok (.istore 11, 2) := by decide +kernel
theorem dX0_reachedFrom_131 : decode cX0_reachedFrom 131 = .ok (.iload_n 1, 1) := by decide +kernel
theorem dX0_reachedFrom_132 : decode cX0_reachedFrom 132 = .ok (.bipush 8, 2) := by decide +kernel
theorem dX0_reachedFrom_134 : decode cX0_reachedFrom 134 = .ok (.idiv, 1) := by decide +kernel
theorem dX0_reachedFrom_135 : decode cX0_reachedFrom 135 = .ok (.iload 10, 2) := by decide +kernel
theorem dX0_reachedFrom_137 : decode cX0_reachedFrom 137 = .ok (.iadd, 1) := by decide +kernel
theorem dX0_reachedFrom_138 : decode cX0_reachedFrom 138 = .ok (.istore 12, 2) := by decide +kernel
theorem dX0_reachedFrom_140 : decode cX0_reachedFrom 140 = .ok (.aload_n 0, 1) := by decide +kernel
theorem dX0_reachedFrom_141 : decode cX0_reachedFrom 141 = .ok (.getfield 15, 3) := by decide +kernel
theorem dX0_reachedFrom_144 : decode cX0_reachedFrom 144 = .ok (.getfield 55, 3) := by decide +kernel
theorem dX0_reachedFrom_147 : decode cX0_reachedFrom 147 = .ok (.iload 8, 2) := by decide +kernel
theorem dX0_reachedFrom_149 : decode cX0_reachedFrom 149 = .ok (.iaload, 1) := by decide +kernel
theorem dX0_reachedFrom_150 : decode cX0_reachedFrom 150 = .ok (.istore 13, 2) := by decide +kernel
theorem dX0_reachedFrom_152 : decode cX0_reachedFrom 152 = .ok (.iload 13, 2) := by decide +kernel
theorem dX0_reachedFrom_154 : decode cX0_reachedFrom 154 = .ok (.ifCond .le 102, 3) := by decide +kernel
theorem dX0_reachedFrom_157 : decode cX0_reachedFrom 157 = .ok (.iload 11, 2) := by decide +kernel
theorem dX0_reachedFrom_159 : decode cX0_reachedFrom 159 = .ok (.ifCond .lt 97, 3) := by decide +kernel
theorem dX0_reachedFrom_162 : decode cX0_reachedFrom 162 = .ok (.iload 11, 2) := by decide +kernel
theorem dX0_reachedFrom_164 : decode cX0_reachedFrom 164 = .ok (.bipush 8, 2) := by decide +kernel
theorem dX0_reachedFrom_166 : decode cX0_reachedFrom 166 = .ok (.if_icmp .ge 90, 3) := by decide +kernel
theorem dX0_reachedFrom_169 : decode cX0_reachedFrom 169 = .ok (.iload 12, 2) := by decide +kernel
theorem dX0_reachedFrom_171 : decode cX0_reachedFrom 171 = .ok (.ifCond .lt 85, 3) := by decide +kernel
theorem dX0_reachedFrom_174 : decode cX0_reachedFrom 174 = .ok (.iload 12, 2) := by decide +kernel
theorem dX0_reachedFrom_176 : decode cX0_reachedFrom 176 = .ok (.bipush 8, 2) := by decide +kernel
theorem dX0_reachedFrom_178 : decode cX0_reachedFrom 178 = .ok (.if_icmp .ge 78, 3) := by decide +kernel
theorem dX0_reachedFrom_181 : decode cX0_reachedFrom 181 = .ok (.iload 12, 2) := by decide +kernel
theorem dX0_reachedFrom_183 : decode cX0_reachedFrom 183 = .ok (.bipush 8, 2) := by decide +kernel
theorem dX0_reachedFrom_185 : decode cX0_reachedFrom 185 = .ok (.imul, 1) := by decide +kernel
theorem dX0_reachedFrom_186 : decode cX0_reachedFrom 186 = .ok (.iload 11, 2) := by decide +kernel
theorem dX0_reachedFrom_188 : decode cX0_reachedFrom 188 = .ok (.iadd, 1) := by decide +kernel
theorem dX0_reachedFrom_189 : decode cX0_reachedFrom 189 = .ok (.istore 14, 2) := by decide +kernel
theorem dX0_reachedFrom_191 : decode cX0_reachedFrom 191 = .ok (.aload_n 0, 1) := by decide +kernel
theorem dX0_reachedFrom_192 : decode cX0_reachedFrom 192 = .ok (.getfield 9, 3) := by decide +kernel
theorem dX0_reachedFrom_195 : decode cX0_reachedFrom 195 = .ok (.iload 14, 2) := by decide +kernel
theorem dX0_reachedFrom_197 : decode cX0_reachedFrom 197 = .ok (.iaload, 1) := by decide +kernel
theorem dX0_reachedFrom_198 : decode cX0_reachedFrom 198 = .ok (.istore 15, 2) := by decide +kernel
theorem dX0_reachedFrom_200 : decode cX0_reachedFrom 200 = .ok (.iload 15, 2) := by decide +kernel
theorem dX0_reachedFrom_202 : decode cX0_reachedFrom 202 = .ok (.iconst (-1), 1) := by decide +kernel
theorem dX0_reachedFrom_203 : decode cX0_reachedFrom 203 = .ok (.if_icmp .eq 11, 3) := by decide +kernel
theorem dX0_reachedFrom_206 : decode cX0_reachedFrom 206 = .ok (.iload 15, 2) := by decide +kernel
theorem dX0_reachedFrom_208 : decode cX0_reachedFrom 208 = .ok (.iconst 2, 1) := by decide +kernel
theorem dX0_reachedFrom_209 : decode cX0_reachedFrom 209 = .ok (.irem, 1) := by decide +kernel
theorem dX0_reachedFrom_210 : decode cX0_reachedFrom 210 = .ok (.iload_n 3, 1) := by decide +kernel
theorem dX0_reachedFrom_211 : decode cX0_reachedFrom 211 = .ok (.if_icmp .eq 12, 3) := by decide +kernel
theorem dX0_reachedFrom_214 : decode cX0_reachedFrom 214 = .ok (.lload 6, 2) := by decide +kernel
theorem dX0_reachedFrom_216 : decode cX0_reachedFrom 216 = .ok (.lconst 1, 1) := by decide +kernel
theorem dX0_reachedFrom_217 : decode cX0_reachedFrom 217 = .ok (.iload 14, 2) := by decide +kernel
theorem dX0_reachedFrom_219 : decode cX0_reachedFrom 219 = .ok (.lshl, 1) := by decide +kernel
theorem dX0_reachedFrom_220 : decode cX0_reachedFrom 220 = .ok (.lor, 1) := by decide +kernel
theorem dX0_reachedFrom_221 : decode cX0_reachedFrom 221 = .ok (.lstore 6, 2) := by decide +kernel
theorem dX0_reachedFrom_223 : decode cX0_reachedFrom 223 = .ok (.iload 15, 2) := by decide +kernel
theorem dX0_reachedFrom_225 : decode cX0_reachedFrom 225 = .ok (.iconst (-1), 1) := by decide +kernel
theorem dX0_reachedFrom_226 : decode cX0_reachedFrom 226 = .ok (.if_icmp .ne 10, 3) := by decide +kernel
theorem dX0_reachedFrom_229 : decode cX0_reachedFrom 229 = .ok (.iload 13, 2) := by decide +kernel
theorem dX0_reachedFrom_231 : decode cX0_reachedFrom 231 = .ok (.iconst 1, 1) := by decide +kernel
theorem dX0_reachedFrom_232 : decode cX0_reachedFrom 232 = .ok (.isub, 1) := by decide +kernel
theorem dX0_reachedFrom_233 : decode cX0_reachedFrom 233 = .ok (.goto 4, 3) := by decide +kernel
theorem dX0_reachedFrom_236 : decode cX0_reachedFrom 236 = .ok (.iconst 0, 1) := by decide +kernel
theorem dX0_reachedFrom_237 : decode cX0_reachedFrom 237 = .ok (.istore 13, 2) := by decide +kernel
theorem dX0_reachedFrom_239 : decode cX0_reachedFrom 239 = .ok (.iload 11, 2) := by decide +kernel
theorem dX0_reachedFrom_241 : decode cX0_reachedFrom 241 = .ok (.iload 9, 2) := by decide +kernel
theorem dX0_reachedFrom_243 : decode cX0_reachedFrom 243 = .ok (.iadd, 1) := by decide +kernel
theorem dX0_reachedFrom_244 : decode cX0_reachedFrom 244 = .ok (.istore 11, 2) := by decide +kernel
theorem dX0_reachedFrom_246 : decode cX0_reachedFrom 246 = .ok (.iload 12, 2) := by decide +kernel
theorem dX0_reachedFrom_248 : decode cX0_reachedFrom 248 = .ok (.iload 10, 2) := by decide +kernel
theorem dX0_reachedFrom_250 : decode cX0_reachedFrom 250 = .ok (.iadd, 1) := by decide +kernel
theorem dX0_reachedFrom_251 : decode cX0_reachedFrom 251 = .ok (.istore 12, 2) := by decide +kernel
theorem dX0_reachedFrom_253 : decode cX0_reachedFrom 253 = .ok (.goto (-101), 3) := by decide +kernel
theorem dX0_reachedFrom_256 : decode cX0_reachedFrom 256 = .ok (.iinc 8 1, 3) := by decide +kernel
theorem dX0_reachedFrom_259 : decode cX0_reachedFrom 259 = .ok (.goto (-186), 3) := by decide +kernel
theorem dX0_reachedFrom_262 : decode cX0_reachedFrom 262 = .ok (.lload 6, 2) := by decide +kernel
theorem dX0_reachedFrom_264 : decode cX0_reachedFrom 264 = .ok (.lreturn, 1) := by decide +kernel
theorem dX0_royalsOf_0 : decode cX0_royalsOf 0 = .ok (.lconst 0, 1) := by decide +kernel
theorem dX0_royalsOf_1 : decode cX0_royalsOf 1 = .ok (.lstore_n 2, 1) := by decide +kernel
theorem dX0_royalsOf_2 : decode cX0_royalsOf 2 = .ok (.iconst 0, 1) := by decide +kernel
theorem dX0_royalsOf_3 : decode cX0_royalsOf 3 = .ok (.istore 4, 2) := by decide +kernel
theorem dX0_royalsOf_5 : decode cX0_royalsOf 5 = .ok (.iload 4, 2) := by decide +kernel
theorem dX0_royalsOf_7 : decode cX0_royalsOf 7 = .ok (.bipush 64, 2) := by decide +kernel
theorem dX0_royalsOf_9 : decode cX0_royalsOf 9 = .ok (.if_icmp .ge 29, 3) := by decide +kernel
theorem dX0_royalsOf_12 : decode cX0_royalsOf 12 = .ok (.aload_n 0, 1) := by decide +kernel
theorem dX0_royalsOf_13 : decode cX0_royalsOf 13 = .ok (.getfield 9, 3) := by decide +kernel
theorem dX0_royalsOf_16 : decode cX0_royalsOf 16 = .ok (.iload 4, 2) := by decide +kernel
theorem dX0_royalsOf_18 : decode cX0_royalsOf 18 = .ok (.iaload, 1) := by decide +kernel
theorem dX0_royalsOf_19 : decode cX0_royalsOf 19 = .ok (.iconst 0, 1) := by decide +kernel
theorem dX0_royalsOf_20 : decode cX0_royalsOf 20 = .ok (.iload_n 1, 1) := by decide +kernel
theorem dX0_royalsOf_21 : decode cX0_royalsOf 21 = .ok (.iadd, 1) := by decide +kernel
theorem dX0_royalsOf_22 : decode cX0_royalsOf 22 = .ok (.if_icmp .ne 10, 3) := by decide +kernel
theorem dX0_royalsOf_25 : decode cX0_royalsOf 25 = .ok (.lload_n 2, 1) := by decide +kernel
theorem dX0_royalsOf_26 : decode cX0_royalsOf 26 = .ok (.lconst 1, 1) := by decide +kernel
theorem dX0_royalsOf_27 : decode cX0_royalsOf 27 = .ok (.iload 4, 2) := by decide +kernel
theorem dX0_royalsOf_29 : decode cX0_royalsOf 29 = .ok (.lshl, 1) := by decide +kernel
theorem dX0_royalsOf_30 : decode cX0_royalsOf 30 = .ok (.lor, 1) := by decide +kernel
theorem dX0_royalsOf_31 : decode cX0_royalsOf 31 = .ok (.lstore_n 2, 1) := by decide +kernel
theorem dX0_royalsOf_32 : decode cX0_royalsOf 32 = .ok (.iinc 4 1, 3) := by decide +kernel
theorem dX0_royalsOf_35 : decode cX0_royalsOf 35 = .ok (.goto (-30), 3) := by decide +kernel
theorem dX0_royalsOf_38 : decode cX0_royalsOf 38 = .ok (.lload_n 2, 1) := by decide +kernel
theorem dX0_royalsOf_39 : decode cX0_royalsOf 39 = .ok (.lreturn, 1) := by decide +kernel
set_option maxRecDepth 20000 in
theorem ggX0_inCheck_X0_royalsOf : GoodIn wsX0_inCheck wsX0_royalsOf := goodIn_r _ [6, 1, 12, 13] (by decide +kernel) (by decide +kernel)
set_option maxRecDepth 20000 in
theorem gX0_inCheck_X0_royalsOf : GoodIn wsX0_inCheck (wsV RX0 58 RX0 yX0_royalsOf wsX0_royalsOf) := goodIn_app (goodIn_of _ (by decide +kernel)) ggX0_inCheck_X0_royalsOf
set_option maxRecDepth 20000 in
theorem ggX0_inCheck_X0_reachedFrom : GoodIn wsX0_inCheck wsX0_reachedFrom := goodIn_r _ [10, 1, 11, 12, 13, 14, 15, 16, 17, 18, 19] (by decide +kernel) (by decide +kernel)
set_option maxRecDepth 20000 in
theorem gX0_inCheck_X0_reachedFrom : GoodIn wsX0_inCheck (wsV RX0 36 RX0 yX0_reachedFrom wsX0_reachedFrom) := goodIn_app (goodIn_of _ (by decide +kernel)) ggX0_inCheck_X0_reachedFrom
theorem dX0_inCheck_0 : decode cX0_inCheck 0 = .ok (.aload_n 0, 1) := by decide +kernel
theorem dX0_inCheck_1 : decode cX0_inCheck 1 = .ok (.iload_n 1, 1) := by decide +kernel
theorem dX0_inCheck_2 : decode cX0_inCheck 2 = .ok (.invokevirtual 58, 3) := by decide +kernel
theorem dX0_inCheck_5 : decode cX0_inCheck 5 = .ok (.lstore_n 2, 1) := by decide +kernel
theorem dX0_inCheck_6 : decode cX0_inCheck 6 = .ok (.iconst 0, 1) := by decide +kernel
theorem dX0_inCheck_7 : decode cX0_inCheck 7 = .ok (.istore 4, 2) := by decide +kernel
theorem dX0_inCheck_9 : decode cX0_inCheck 9 = .ok (.iconst 0, 1) := by decide +kernel
theorem dX0_inCheck_10 : decode cX0_inCheck 10 = .ok (.istore 5, 2) := by decide +kernel
theorem dX0_inCheck_12 : decode cX0_inCheck 12 = .ok (.iload 5, 2) := by decide +kernel
theorem dX0_inCheck_14 : decode cX0_inCheck 14 = .ok (.bipush 64, 2) := by decide +kernel
theorem dX0_inCheck_16 : decode cX0_inCheck 16 = .ok (.if_icmp .ge 64, 3) := by decide +kernel
theorem dX0_inCheck_19 : decode cX0_inCheck 19 = .ok (.lload_n 2, 1) := by decide +kernel
theorem dX0_inCheck_20 : decode cX0_inCheck 20 = .ok (.lconst 0, 1) := by decide +kernel
theorem dX0_inCheck_21 : decode cX0_inCheck 21 = .ok (.lcmp, 1) := by decide +kernel
theorem dX0_inCheck_22 : decode cX0_inCheck 22 = .ok (.ifCond .eq 58, 3) := by decide +kernel
theorem dX0_inCheck_25 : decode cX0_inCheck 25 = .ok (.iload 4, 2) := by decide +kernel
theorem dX0_inCheck_27 : decode cX0_inCheck 27 = .ok (.ifCond .ne 53, 3) := by decide +kernel
theorem dX0_inCheck_30 : decode cX0_inCheck 30 = .ok (.aload_n 0, 1) := by decide +kernel
theorem dX0_inCheck_31 : decode cX0_inCheck 31 = .ok (.getfield 9, 3) := by decide +kernel
theorem dX0_inCheck_34 : decode cX0_inCheck 34 = .ok (.iload 5, 2) := by decide +kernel
theorem dX0_inCheck_36 : decode cX0_inCheck 36 = .ok (.iaload, 1) := by decide +kernel
theorem dX0_inCheck_37 : decode cX0_inCheck 37 = .ok (.iconst (-1), 1) := by decide +kernel
theorem dX0_inCheck_38 : decode cX0_inCheck 38 = .ok (.if_icmp .eq 36, 3) := by decide +kernel
theorem dX0_inCheck_41 : decode cX0_inCheck 41 = .ok (.aload_n 0, 1) := by decide +kernel
theorem dX0_inCheck_42 : decode cX0_inCheck 42 = .ok (.getfield 9, 3) := by decide +kernel
theorem dX0_inCheck_45 : decode cX0_inCheck 45 = .ok (.iload 5, 2) := by decide +kernel
theorem dX0_inCheck_47 : decode cX0_inCheck 47 = .ok (.iaload, 1) := by decide +kernel
theorem dX0_inCheck_48 : decode cX0_inCheck 48 = .ok (.iconst 2, 1) := by decide +kernel
theorem dX0_inCheck_49 : decode cX0_inCheck 49 = .ok (.irem, 1) := by decide +kernel
theorem dX0_inCheck_50 : decode cX0_inCheck 50 = .ok (.iload_n 1, 1) := by decide +kernel
theorem dX0_inCheck_51 : decode cX0_inCheck 51 = .ok (.if_icmp .eq 23, 3) := by decide +kernel
theorem dX0_inCheck_54 : decode cX0_inCheck 54 = .ok (.aload_n 0, 1) := by decide +kernel
theorem dX0_inCheck_55 : decode cX0_inCheck 55 = .ok (.iload 5, 2) := by decide +kernel
theorem dX0_inCheck_57 : decode cX0_inCheck 57 = .ok (.invokevirtual 36, 3) := by decide +kernel
theorem dX0_inCheck_60 : decode cX0_inCheck 60 = .ok (.lload_n 2, 1) := by decide +kernel
theorem dX0_inCheck_61 : decode cX0_inCheck 61 = .ok (.land, 1) := by decide +kernel
theorem dX0_inCheck_62 : decode cX0_inCheck 62 = .ok (.lconst 0, 1) := by decide +kernel
theorem dX0_inCheck_63 : decode cX0_inCheck 63 = .ok (.lcmp, 1) := by decide +kernel
theorem dX0_inCheck_64 : decode cX0_inCheck 64 = .ok (.ifCond .eq 7, 3) := by decide +kernel
theorem dX0_inCheck_67 : decode cX0_inCheck 67 = .ok (.iconst 1, 1) := by decide +kernel
theorem dX0_inCheck_68 : decode cX0_inCheck 68 = .ok (.goto 4, 3) := by decide +kernel
theorem dX0_inCheck_71 : decode cX0_inCheck 71 = .ok (.iconst 0, 1) := by decide +kernel
theorem dX0_inCheck_72 : decode cX0_inCheck 72 = .ok (.istore 4, 2) := by decide +kernel
theorem dX0_inCheck_74 : decode cX0_inCheck 74 = .ok (.iinc 5 1, 3) := by decide +kernel
theorem dX0_inCheck_77 : decode cX0_inCheck 77 = .ok (.goto (-65), 3) := by decide +kernel
theorem dX0_inCheck_80 : decode cX0_inCheck 80 = .ok (.iload 4, 2) := by decide +kernel
theorem dX0_inCheck_82 : decode cX0_inCheck 82 = .ok (.ireturn, 1) := by decide +kernel
set_option maxRecDepth 20000 in
theorem ggX0_keepsRoyalsSafe_X0_pieceOn : GoodIn wsX0_keepsRoyalsSafe wsX0_pieceOn := goodIn_r _ [5, 6, 7, 8, 9, 31, 32] (by decide +kernel) (by decide +kernel)
set_option maxRecDepth 20000 in
theorem gX0_keepsRoyalsSafe_X0_pieceOn : GoodIn wsX0_keepsRoyalsSafe (wsV RX0 29 RX0 yX0_pieceOn wsX0_pieceOn) := goodIn_app (goodIn_of _ (by decide +kernel)) ggX0_keepsRoyalsSafe_X0_pieceOn
set_option maxRecDepth 20000 in
theorem ggX0_keepsRoyalsSafe_X0_move : GoodIn wsX0_keepsRoyalsSafe wsX0_move := goodIn_r _ [13, 6, 7, 8, 9, 31, 32] (by decide +kernel) (by decide +kernel)
set_option maxRecDepth 20000 in
theorem gX0_keepsRoyalsSafe_X0_move : GoodIn wsX0_keepsRoyalsSafe (wsV RX0 61 RX0 yX0_move wsX0_move) := goodIn_app (goodIn_of _ (by decide +kernel)) ggX0_keepsRoyalsSafe_X0_move
set_option maxRecDepth 20000 in
theorem ggX0_keepsRoyalsSafe_X0_inCheck : GoodIn wsX0_keepsRoyalsSafe wsX0_inCheck := goodIn_r _ [17, 6, 18, 19, 20, 4, 21, 22, 23, 24, 25, 26, 31, 32, 33, 34, 35, 36, 37, 38] (by decide +kernel) (by decide +kernel)
set_option maxRecDepth 20000 in
theorem gX0_keepsRoyalsSafe_X0_inCheck : GoodIn wsX0_keepsRoyalsSafe (wsV RX0 65 RX0 yX0_inCheck wsX0_inCheck) := goodIn_app (goodIn_of _ (by decide +kernel)) ggX0_keepsRoyalsSafe_X0_inCheck
set_option maxRecDepth 20000 in
theorem ggX0_keepsRoyalsSafe_X0_takeBack : GoodIn wsX0_keepsRoyalsSafe wsX0_takeBack := goodIn_r _ [30, 6, 7, 8, 9, 31, 32] (by decide +kernel) (by decide +kernel)
set_option maxRecDepth 20000 in
theorem gX0_keepsRoyalsSafe_X0_takeBack : GoodIn wsX0_keepsRoyalsSafe (wsV RX0 68 RX0 yX0_takeBack wsX0_takeBack) := goodIn_app (goodIn_of _ (by decide +kernel)) ggX0_keepsRoyalsSafe_X0_takeBack
theorem dX0_keepsRoyalsSafe_0 : decode cX0_keepsRoyalsSafe 0 = .ok (.aload_n 0, 1) := by decide +kernel
theorem dX0_keepsRoyalsSafe_1 : decode cX0_keepsRoyalsSafe 1 = .ok (.iload_n 1, 1) := by decide +kernel
theorem dX0_keepsRoyalsSafe_2 : decode cX0_keepsRoyalsSafe 2 = .ok (.invokevirtual 29, 3) := by decide +kernel
theorem dX0_keepsRoyalsSafe_5 : decode cX0_keepsRoyalsSafe 5 = .ok (.iconst 2, 1) := by decide +kernel
theorem dX0_keepsRoyalsSafe_6 : decode cX0_keepsRoyalsSafe 6 = .ok (.irem, 1) := by decide +kernel
theorem dX0_keepsRoyalsSafe_7 : decode cX0_keepsRoyalsSafe 7 = .ok (.istore_n 3, 1) := by decide +kernel
theorem dX0_keepsRoyalsSafe_8 : decode cX0_keepsRoyalsSafe 8 = .ok (.aload_n 0, 1) := by decide +kernel
theorem dX0_keepsRoyalsSafe_9 : decode cX0_keepsRoyalsSafe 9 = .ok (.iload_n 1, 1) := by decide +kernel
theorem dX0_keepsRoyalsSafe_10 : decode cX0_keepsRoyalsSafe 10 = .ok (.iload_n 2, 1) := by decide +kernel
theorem dX0_keepsRoyalsSafe_11 : decode cX0_keepsRoyalsSafe 11 = .ok (.invokevirtual 61, 3) := by decide +kernel
theorem dX0_keepsRoyalsSafe_14 : decode cX0_keepsRoyalsSafe 14 = .ok (.istore 4, 2) := by decide +kernel
theorem dX0_keepsRoyalsSafe_16 : decode cX0_keepsRoyalsSafe 16 = .ok (.aload_n 0, 1) := by decide +kernel
theorem dX0_keepsRoyalsSafe_17 : decode cX0_keepsRoyalsSafe 17 = .ok (.iload_n 3, 1) := by decide +kernel
theorem dX0_keepsRoyalsSafe_18 : decode cX0_keepsRoyalsSafe 18 = .ok (.invokevirtual 65, 3) := by decide +kernel
theorem dX0_keepsRoyalsSafe_21 : decode cX0_keepsRoyalsSafe 21 = .ok (.ifCond .ne 7, 3) := by decide +kernel
theorem dX0_keepsRoyalsSafe_24 : decode cX0_keepsRoyalsSafe 24 = .ok (.iconst 1, 1) := by decide +kernel
theorem dX0_keepsRoyalsSafe_25 : decode cX0_keepsRoyalsSafe 25 = .ok (.goto 4, 3) := by decide +kernel
theorem dX0_keepsRoyalsSafe_28 : decode cX0_keepsRoyalsSafe 28 = .ok (.iconst 0, 1) := by decide +kernel
theorem dX0_keepsRoyalsSafe_29 : decode cX0_keepsRoyalsSafe 29 = .ok (.istore 5, 2) := by decide +kernel
theorem dX0_keepsRoyalsSafe_31 : decode cX0_keepsRoyalsSafe 31 = .ok (.aload_n 0, 1) := by decide +kernel
theorem dX0_keepsRoyalsSafe_32 : decode cX0_keepsRoyalsSafe 32 = .ok (.iload_n 1, 1) := by decide +kernel
theorem dX0_keepsRoyalsSafe_33 : decode cX0_keepsRoyalsSafe 33 = .ok (.iload_n 2, 1) := by decide +kernel
theorem dX0_keepsRoyalsSafe_34 : decode cX0_keepsRoyalsSafe 34 = .ok (.iload 4, 2) := by decide +kernel
theorem dX0_keepsRoyalsSafe_36 : decode cX0_keepsRoyalsSafe 36 = .ok (.invokevirtual 68, 3) := by decide +kernel
theorem dX0_keepsRoyalsSafe_39 : decode cX0_keepsRoyalsSafe 39 = .ok (.iload 5, 2) := by decide +kernel
theorem dX0_keepsRoyalsSafe_41 : decode cX0_keepsRoyalsSafe 41 = .ok (.ireturn, 1) := by decide +kernel
set_option maxRecDepth 20000 in
theorem ggX0_countLegalMoves_X0_reachedFrom : GoodIn wsX0_countLegalMoves wsX0_reachedFrom := goodIn_r _ [6, 1, 7, 35, 36, 37, 38, 39, 40, 41, 42] (by decide +kernel) (by decide +kernel)
set_option maxRecDepth 20000 in
theorem gX0_countLegalMoves_X0_reachedFrom : GoodIn wsX0_countLegalMoves (wsV RX0 36 RX0 yX0_reachedFrom wsX0_reachedFrom) := goodIn_app (goodIn_of _ (by decide +kernel)) ggX0_countLegalMoves_X0_reachedFrom
set_option maxRecDepth 20000 in
theorem ggX0_countLegalMoves_X0_keepsRoyalsSafe : GoodIn wsX0_countLegalMoves wsX0_keepsRoyalsSafe := goodIn_r _ [11, 12, 13, 14, 5, 15, 1, 16, 17, 18, 19, 20, 21, 22, 23, 24, 25, 26, 27, 28, 29, 30, 2, 3, 4, 6, 7, 31, 32, 33, 34, 35, 36, 37, 38, 39, 40, 41, 42] (by decide +kernel) (by decide +kernel)
set_option maxRecDepth 20000 in
theorem gX0_countLegalMoves_X0_keepsRoyalsSafe : GoodIn wsX0_countLegalMoves (wsV RX0 72 RX0 yX0_keepsRoyalsSafe wsX0_keepsRoyalsSafe) := goodIn_app (goodIn_of _ (by decide +kernel)) ggX0_countLegalMoves_X0_keepsRoyalsSafe
theorem dX0_countLegalMoves_0 : decode cX0_countLegalMoves 0 = .ok (.iconst 0, 1) := by decide +kernel
theorem dX0_countLegalMoves_1 : decode cX0_countLegalMoves 1 = .ok (.istore_n 3, 1) := by decide +kernel
theorem dX0_countLegalMoves_2 : decode cX0_countLegalMoves 2 = .ok (.iconst 0, 1) := by decide +kernel
theorem dX0_countLegalMoves_3 : decode cX0_countLegalMoves 3 = .ok (.istore 4, 2) := by decide +kernel
theorem dX0_countLegalMoves_5 : decode cX0_countLegalMoves 5 = .ok (.iload 4, 2) := by decide +kernel
theorem dX0_countLegalMoves_7 : decode cX0_countLegalMoves 7 = .ok (.bipush 64, 2) := by decide +kernel
theorem dX0_countLegalMoves_9 : decode cX0_countLegalMoves 9 = .ok (.if_icmp .ge 107, 3) := by decide +kernel
theorem dX0_countLegalMoves_12 : decode cX0_countLegalMoves 12 = .ok (.iload_n 3, 1) := by decide +kernel
theorem dX0_countLegalMoves_13 : decode cX0_countLegalMoves 13 = .ok (.iload_n 2, 1) := by decide +kernel
theorem dX0_countLegalMoves_14 : decode cX0_countLegalMoves 14 = .ok (.if_icmp .ge 102, 3) := by decide +kernel
theorem dX0_countLegalMoves_17 : decode cX0_countLegalMoves 17 = .ok (.aload_n 0, 1) := by decide +kernel
theorem dX0_countLegalMoves_18 : decode cX0_countLegalMoves 18 = .ok (.getfield 9, 3) := by decide +kernel
theorem dX0_countLegalMoves_21 : decode cX0_countLegalMoves 21 = .ok (.iload 4, 2) := by decide +kernel
theorem dX0_countLegalMoves_23 : decode cX0_countLegalMoves 23 = .ok (.iaload, 1) := by decide +kernel
theorem dX0_countLegalMoves_24 : decode cX0_countLegalMoves 24 = .ok (.iconst (-1), 1) := by decide +kernel
theorem dX0_countLegalMoves_25 : decode cX0_countLegalMoves 25 = .ok (.if_icmp .eq 25, 3) := by decide +kernel
theorem dX0_countLegalMoves_28 : decode cX0_countLegalMoves 28 = .ok (.aload_n 0, 1) := by decide +kernel
theorem dX0_countLegalMoves_29 : decode cX0_countLegalMoves 29 = .ok (.getfield 9, 3) := by decide +kernel
theorem dX0_countLegalMoves_32 : decode cX0_countLegalMoves 32 = .ok (.iload 4, 2) := by decide +kernel
theorem dX0_countLegalMoves_34 : decode cX0_countLegalMoves 34 = .ok (.iaload, 1) := by decide +kernel
theorem dX0_countLegalMoves_35 : decode cX0_countLegalMoves 35 = .ok (.iconst 2, 1) := by decide +kernel
theorem dX0_countLegalMoves_36 : decode cX0_countLegalMoves 36 = .ok (.irem, 1) := by decide +kernel
theorem dX0_countLegalMoves_37 : decode cX0_countLegalMoves 37 = .ok (.iload_n 1, 1) := by decide +kernel
theorem dX0_countLegalMoves_38 : decode cX0_countLegalMoves 38 = .ok (.if_icmp .ne 12, 3) := by decide +kernel
theorem dX0_countLegalMoves_41 : decode cX0_countLegalMoves 41 = .ok (.aload_n 0, 1) := by decide +kernel
theorem dX0_countLegalMoves_42 : decode cX0_countLegalMoves 42 = .ok (.iload 4, 2) := by decide +kernel
theorem dX0_countLegalMoves_44 : decode cX0_countLegalMoves 44 = .ok (.invokevirtual 36, 3) := by decide +kernel
theorem dX0_countLegalMoves_47 : decode cX0_countLegalMoves 47 = .ok (.goto 4, 3) := by decide +kernel
theorem dX0_countLegalMoves_50 : decode cX0_countLegalMoves 50 = .ok (.lconst 0, 1) := by decide +kernel
theorem dX0_countLegalMoves_51 : decode cX0_countLegalMoves 51 = .ok (.lstore 5, 2) := by decide +kernel
theorem dX0_countLegalMoves_53 : decode cX0_countLegalMoves 53 = .ok (.iconst 0, 1) := by decide +kernel
theorem dX0_countLegalMoves_54 : decode cX0_countLegalMoves 54 = .ok (.istore 7, 2) := by decide +kernel
theorem dX0_countLegalMoves_56 : decode cX0_countLegalMoves 56 = .ok (.iload 7, 2) := by decide +kernel
theorem dX0_countLegalMoves_58 : decode cX0_countLegalMoves 58 = .ok (.bipush 64, 2) := by decide +kernel
theorem dX0_countLegalMoves_60 : decode cX0_countLegalMoves 60 = .ok (.if_icmp .ge 50, 3) := by decide +kernel
theorem dX0_countLegalMoves_63 : decode cX0_countLegalMoves 63 = .ok (.lload 5, 2) := by decide +kernel
theorem dX0_countLegalMoves_65 : decode cX0_countLegalMoves 65 = .ok (.iload 7, 2) := by decide +kernel
theorem dX0_countLegalMoves_67 : decode cX0_countLegalMoves 67 = .ok (.lushr, 1) := by decide +kernel
theorem dX0_countLegalMoves_68 : decode cX0_countLegalMoves 68 = .ok (.lconst 0, 1) := by decide +kernel
theorem dX0_countLegalMoves_69 : decode cX0_countLegalMoves 69 = .ok (.lcmp, 1) := by decide +kernel
theorem dX0_countLegalMoves_70 : decode cX0_countLegalMoves 70 = .ok (.ifCond .eq 40, 3) := by decide +kernel
theorem dX0_countLegalMoves_73 : decode cX0_countLegalMoves 73 = .ok (.iload_n 3, 1) := by decide +kernel
theorem dX0_countLegalMoves_74 : decode cX0_countLegalMoves 74 = .ok (.iload_n 2, 1) := by decide +kernel
theorem dX0_countLegalMoves_75 : decode cX0_countLegalMoves 75 = .ok (.if_icmp .ge 35, 3) := by decide +kernel
theorem dX0_countLegalMoves_78 : decode cX0_countLegalMoves 78 = .ok (.lload 5, 2) := by decide +kernel
theorem dX0_countLegalMoves_80 : decode cX0_countLegalMoves 80 = .ok (.iload 7, 2) := by decide +kernel
theorem dX0_countLegalMoves_82 : decode cX0_countLegalMoves 82 = .ok (.lushr, 1) := by decide +kernel
theorem dX0_countLegalMoves_83 : decode cX0_countLegalMoves 83 = .ok (.lconst 1, 1) := by decide +kernel
theorem dX0_countLegalMoves_84 : decode cX0_countLegalMoves 84 = .ok (.land, 1) := by decide +kernel
theorem dX0_countLegalMoves_85 : decode cX0_countLegalMoves 85 = .ok (.lconst 0, 1) := by decide +kernel
theorem dX0_countLegalMoves_86 : decode cX0_countLegalMoves 86 = .ok (.lcmp, 1) := by decide +kernel
theorem dX0_countLegalMoves_87 : decode cX0_countLegalMoves 87 = .ok (.ifCond .eq 17, 3) := by decide +kernel
theorem dX0_countLegalMoves_90 : decode cX0_countLegalMoves 90 = .ok (.aload_n 0, 1) := by decide +kernel
theorem dX0_countLegalMoves_91 : decode cX0_countLegalMoves 91 = .ok (.iload 4, 2) := by decide +kernel
theorem dX0_countLegalMoves_93 : decode cX0_countLegalMoves 93 = .ok (.iload 7, 2) := by decide +kernel
theorem dX0_countLegalMoves_95 : decode cX0_countLegalMoves 95 = .ok (.invokevirtual 72, 3) := by decide +kernel
theorem dX0_countLegalMoves_98 : decode cX0_countLegalMoves 98 = .ok (.ifCond .eq 6, 3) := by decide +kernel
theorem dX0_countLegalMoves_101 : decode cX0_countLegalMoves 101 = .ok (.iinc 3 1, 3) := by decide +kernel
theorem dX0_countLegalMoves_104 : decode cX0_countLegalMoves 104 = .ok (.iinc 7 1, 3) := by decide +kernel
theorem dX0_countLegalMoves_107 : decode cX0_countLegalMoves 107 = .ok (.goto (-51), 3) := by decide +kernel
theorem dX0_countLegalMoves_110 : decode cX0_countLegalMoves 110 = .ok (.iinc 4 1, 3) := by decide +kernel
theorem dX0_countLegalMoves_113 : decode cX0_countLegalMoves 113 = .ok (.goto (-108), 3) := by decide +kernel
theorem dX0_countLegalMoves_116 : decode cX0_countLegalMoves 116 = .ok (.iload_n 3, 1) := by decide +kernel
theorem dX0_countLegalMoves_117 : decode cX0_countLegalMoves 117 = .ok (.ireturn, 1) := by decide +kernel
set_option maxRecDepth 20000 in
theorem ggX0_signBehind_X0_pieceOn : GoodIn wsX0_signBehind wsX0_pieceOn := goodIn_r _ [5, 6, 7, 8, 9, 39, 40] (by decide +kernel) (by decide +kernel)
set_option maxRecDepth 20000 in
theorem gX0_signBehind_X0_pieceOn : GoodIn wsX0_signBehind (wsV RX0 29 RX0 yX0_pieceOn wsX0_pieceOn) := goodIn_app (goodIn_of _ (by decide +kernel)) ggX0_signBehind_X0_pieceOn
set_option maxRecDepth 20000 in
theorem ggX0_signBehind_X0_move : GoodIn wsX0_signBehind wsX0_move := goodIn_r _ [13, 6, 7, 8, 9, 39, 40] (by decide +kernel) (by decide +kernel)
set_option maxRecDepth 20000 in
theorem gX0_signBehind_X0_move : GoodIn wsX0_signBehind (wsV RX0 61 RX0 yX0_move wsX0_move) := goodIn_app (goodIn_of _ (by decide +kernel)) ggX0_signBehind_X0_move
set_option maxRecDepth 20000 in
theorem ggX0_signBehind_X0_inCheck : GoodIn wsX0_signBehind wsX0_inCheck := goodIn_r _ [17, 6, 18, 19, 20, 4, 21, 22, 23, 24, 25, 26, 39, 40, 41, 42, 43, 44, 45, 46] (by decide +kernel) (by decide +kernel)
set_option maxRecDepth 20000 in
theorem gX0_signBehind_X0_inCheck : GoodIn wsX0_signBehind (wsV RX0 65 RX0 yX0_inCheck wsX0_inCheck) := goodIn_app (goodIn_of _ (by decide +kernel)) ggX0_signBehind_X0_inCheck
set_option maxRecDepth 20000 in
theorem ggX0_signBehind_X0_countLegalMoves : GoodIn wsX0_signBehind wsX0_countLegalMoves := goodIn_r _ [30, 6, 22, 23, 24, 4, 25, 26, 31, 32, 33, 34, 1, 2, 3, 5, 7, 8, 9, 10, 11, 12, 13, 14, 15, 16, 17, 18, 19, 20, 21, 35, 36, 37, 38, 39, 40, 41, 42, 43, 44, 45, 46] (by decide +kernel) (by decide +kernel)
set_option maxRecDepth 20000 in
theorem gX0_signBehind_X0_countLegalMoves : GoodIn wsX0_signBehind (wsV RX0 76 RX0 yX0_countLegalMoves wsX0_countLegalMoves) := goodIn_app (goodIn_of _ (by decide +kernel)) ggX0_signBehind_X0_countLegalMoves
set_option maxRecDepth 20000 in
theorem ggX0_signBehind_X0_takeBack : GoodIn wsX0_signBehind wsX0_takeBack := goodIn_r _ [38, 6, 7, 8, 9, 39, 40] (by decide +kernel) (by decide +kernel)
set_option maxRecDepth 20000 in
theorem gX0_signBehind_X0_takeBack : GoodIn wsX0_signBehind (wsV RX0 68 RX0 yX0_takeBack wsX0_takeBack) := goodIn_app (goodIn_of _ (by decide +kernel)) ggX0_signBehind_X0_takeBack
theorem dX0_signBehind_0 : decode cX0_signBehind 0 = .ok (.iconst 1, 1) := by decide +kernel
theorem dX0_signBehind_1 : decode cX0_signBehind 1 = .ok (.aload_n 0, 1) := by decide +kernel
theorem dX0_signBehind_2 : decode cX0_signBehind 2 = .ok (.iload_n 1, 1) := by decide +kernel
theorem dX0_signBehind_3 : decode cX0_signBehind 3 = .ok (.invokevirtual 29, 3) := by decide +kernel
theorem dX0_signBehind_6 : decode cX0_signBehind 6 = .ok (.iconst 2, 1) := by decide +kernel
theorem dX0_signBehind_7 : decode cX0_signBehind 7 = .ok (.irem, 1) := by decide +kernel
theorem dX0_signBehind_8 : decode cX0_signBehind 8 = .ok (.isub, 1) := by decide +kernel
theorem dX0_signBehind_9 : decode cX0_signBehind 9 = .ok (.istore_n 3, 1) := by decide +kernel
theorem dX0_signBehind_10 : decode cX0_signBehind 10 = .ok (.aload_n 0, 1) := by decide +kernel
theorem dX0_signBehind_11 : decode cX0_signBehind 11 = .ok (.iload_n 1, 1) := by decide +kernel
theorem dX0_signBehind_12 : decode cX0_signBehind 12 = .ok (.iload_n 2, 1) := by decide +kernel
theorem dX0_signBehind_13 : decode cX0_signBehind 13 = .ok (.invokevirtual 61, 3) := by decide +kernel
theorem dX0_signBehind_16 : decode cX0_signBehind 16 = .ok (.istore 4, 2) := by decide +kernel
theorem dX0_signBehind_18 : decode cX0_signBehind 18 = .ok (.iconst (-1), 1) := by decide +kernel
theorem dX0_signBehind_19 : decode cX0_signBehind 19 = .ok (.istore 5, 2) := by decide +kernel
theorem dX0_signBehind_21 : decode cX0_signBehind 21 = .ok (.aload_n 0, 1) := by decide +kernel
theorem dX0_signBehind_22 : decode cX0_signBehind 22 = .ok (.iload_n 3, 1) := by decide +kernel
theorem dX0_signBehind_23 : decode cX0_signBehind 23 = .ok (.invokevirtual 65, 3) := by decide +kernel
theorem dX0_signBehind_26 : decode cX0_signBehind 26 = .ok (.ifCond .eq 21, 3) := by decide +kernel
theorem dX0_signBehind_29 : decode cX0_signBehind 29 = .ok (.aload_n 0, 1) := by decide +kernel
theorem dX0_signBehind_30 : decode cX0_signBehind 30 = .ok (.iload_n 3, 1) := by decide +kernel
theorem dX0_signBehind_31 : decode cX0_signBehind 31 = .ok (.iconst 1, 1) := by decide +kernel
theorem dX0_signBehind_32 : decode cX0_signBehind 32 = .ok (.invokevirtual 76, 3) := by decide +kernel
theorem dX0_signBehind_35 : decode cX0_signBehind 35 = .ok (.ifCond .le 8, 3) := by decide +kernel
theorem dX0_signBehind_38 : decode cX0_signBehind 38 = .ok (.bipush 43, 2) := by decide +kernel
theorem dX0_signBehind_40 : decode cX0_signBehind 40 = .ok (.goto 5, 3) := by decide +kernel
theorem dX0_signBehind_43 : decode cX0_signBehind 43 = .ok (.bipush 35, 2) := by decide +kernel
theorem dX0_signBehind_45 : decode cX0_signBehind 45 = .ok (.istore 5, 2) := by decide +kernel
theorem dX0_signBehind_47 : decode cX0_signBehind 47 = .ok (.aload_n 0, 1) := by decide +kernel
theorem dX0_signBehind_48 : decode cX0_signBehind 48 = .ok (.iload_n 1, 1) := by decide +kernel
theorem dX0_signBehind_49 : decode cX0_signBehind 49 = .ok (.iload_n 2, 1) := by decide +kernel
theorem dX0_signBehind_50 : decode cX0_signBehind 50 = .ok (.iload 4, 2) := by decide +kernel
theorem dX0_signBehind_52 : decode cX0_signBehind 52 = .ok (.invokevirtual 68, 3) := by decide +kernel
theorem dX0_signBehind_55 : decode cX0_signBehind 55 = .ok (.iload 5, 2) := by decide +kernel
theorem dX0_signBehind_57 : decode cX0_signBehind 57 = .ok (.ireturn, 1) := by decide +kernel
theorem dX1_init_0 : decode cX1_init 0 = .ok (.aload_n 0, 1) := by decide +kernel
theorem dX1_init_1 : decode cX1_init 1 = .ok (.invokespecial 3, 3) := by decide +kernel
theorem dX1_init_4 : decode cX1_init 4 = .ok (.aload_n 0, 1) := by decide +kernel
theorem dX1_init_5 : decode cX1_init 5 = .ok (.bipush 6, 2) := by decide +kernel
theorem dX1_init_7 : decode cX1_init 7 = .ok (.newarray .int, 2) := by decide +kernel
theorem dX1_init_9 : decode cX1_init 9 = .ok (.putfield 9, 3) := by decide +kernel
theorem dX1_init_12 : decode cX1_init 12 = .ok (.aload_n 0, 1) := by decide +kernel
theorem dX1_init_13 : decode cX1_init 13 = .ok (.bipush 6, 2) := by decide +kernel
theorem dX1_init_15 : decode cX1_init 15 = .ok (.newarray .int, 2) := by decide +kernel
theorem dX1_init_17 : decode cX1_init 17 = .ok (.putfield 15, 3) := by decide +kernel
theorem dX1_init_20 : decode cX1_init 20 = .ok (.aload_n 0, 1) := by decide +kernel
theorem dX1_init_21 : decode cX1_init 21 = .ok (.bipush 48, 2) := by decide +kernel
theorem dX1_init_23 : decode cX1_init 23 = .ok (.newarray .int, 2) := by decide +kernel
theorem dX1_init_25 : decode cX1_init 25 = .ok (.putfield 18, 3) := by decide +kernel
theorem dX1_init_28 : decode cX1_init 28 = .ok (.aload_n 0, 1) := by decide +kernel
theorem dX1_init_29 : decode cX1_init 29 = .ok (.bipush 48, 2) := by decide +kernel
theorem dX1_init_31 : decode cX1_init 31 = .ok (.newarray .int, 2) := by decide +kernel
theorem dX1_init_33 : decode cX1_init 33 = .ok (.putfield 21, 3) := by decide +kernel
theorem dX1_init_36 : decode cX1_init 36 = .ok (.aload_n 0, 1) := by decide +kernel
theorem dX1_init_37 : decode cX1_init 37 = .ok (.bipush 48, 2) := by decide +kernel
theorem dX1_init_39 : decode cX1_init 39 = .ok (.newarray .int, 2) := by decide +kernel
theorem dX1_init_41 : decode cX1_init 41 = .ok (.putfield 24, 3) := by decide +kernel
theorem dX1_init_44 : decode cX1_init 44 = .ok (.aload_n 0, 1) := by decide +kernel
theorem dX1_init_45 : decode cX1_init 45 = .ok (.iconst 0, 1) := by decide +kernel
theorem dX1_init_46 : decode cX1_init 46 = .ok (.putfield 27, 3) := by decide +kernel
theorem dX1_init_49 : decode cX1_init 49 = .ok (.return_, 1) := by decide +kernel
theorem dX1_size_0 : decode cX1_size 0 = .ok (.aload_n 0, 1) := by decide +kernel
theorem dX1_size_1 : decode cX1_size 1 = .ok (.getfield 27, 3) := by decide +kernel
theorem dX1_size_4 : decode cX1_size 4 = .ok (.ireturn, 1) := by decide +kernel
theorem dX1_has_0 : decode cX1_has 0 = .ok (.iload_n 1, 1) := by decide +kernel
theorem dX1_has_1 : decode cX1_has 1 = .ok (.ifCond .lt 15, 3) := by decide +kernel
theorem dX1_has_4 : decode cX1_has 4 = .ok (.iload_n 1, 1) := by decide +kernel
theorem dX1_has_5 : decode cX1_has 5 = .ok (.aload_n 0, 1) := by decide +kernel
theorem dX1_has_6 : decode cX1_has 6 = .ok (.getfield 27, 3) := by decide +kernel
theorem dX1_has_9 : decode cX1_has 9 = .ok (.if_icmp .ge 7, 3) := by decide +kernel
theorem dX1_has_12 : decode cX1_has 12 = .ok (.iconst 1, 1) := by decide +kernel
theorem dX1_has_13 : decode cX1_has 13 = .ok (.goto 4, 3) := by decide +kernel
theorem dX1_has_16 : decode cX1_has 16 = .ok (.iconst 0, 1) := by decide +kernel
theorem dX1_has_17 : decode cX1_has 17 = .ok (.ireturn, 1) := by decide +kernel
set_option maxRecDepth 20000 in
theorem ggX1_letter_X1_has : GoodIn wsX1_letter wsX1_has := goodIn_r _ [6, 7, 8, 9, 10, 11, 12, 13] (by decide +kernel) (by decide +kernel)
set_option maxRecDepth 20000 in
theorem gX1_letter_X1_has : GoodIn wsX1_letter (wsV RX1 31 RX1 yX1_has wsX1_has) := goodIn_app (goodIn_of _ (by decide +kernel)) ggX1_letter_X1_has
theorem dX1_letter_0 : decode cX1_letter 0 = .ok (.aload_n 0, 1) := by decide +kernel
theorem dX1_letter_1 : decode cX1_letter 1 = .ok (.iload_n 1, 1) := by decide +kernel
theorem dX1_letter_2 : decode cX1_letter 2 = .ok (.invokevirtual 31, 3) := by decide +kernel
theorem dX1_letter_5 : decode cX1_letter 5 = .ok (.ifCond .eq 12, 3) := by decide +kernel
theorem dX1_letter_8 : decode cX1_letter 8 = .ok (.aload_n 0, 1) := by decide +kernel
theorem dX1_letter_9 : decode cX1_letter 9 = .ok (.getfield 9, 3) := by decide +kernel
theorem dX1_letter_12 : decode cX1_letter 12 = .ok (.iload_n 1, 1) := by decide +kernel
theorem dX1_letter_13 : decode cX1_letter 13 = .ok (.iaload, 1) := by decide +kernel
theorem dX1_letter_14 : decode cX1_letter 14 = .ok (.goto 4, 3) := by decide +kernel
theorem dX1_letter_17 : decode cX1_letter 17 = .ok (.iconst (-1), 1) := by decide +kernel
theorem dX1_letter_18 : decode cX1_letter 18 = .ok (.ireturn, 1) := by decide +kernel
set_option maxRecDepth 20000 in
theorem ggX1_stepCount_X1_has : GoodIn wsX1_stepCount wsX1_has := goodIn_r _ [6, 7, 8, 9, 10, 11, 12, 13] (by decide +kernel) (by decide +kernel)
set_option maxRecDepth 20000 in
theorem gX1_stepCount_X1_has : GoodIn wsX1_stepCount (wsV RX1 31 RX1 yX1_has wsX1_has) := goodIn_app (goodIn_of _ (by decide +kernel)) ggX1_stepCount_X1_has
theorem dX1_stepCount_0 : decode cX1_stepCount 0 = .ok (.aload_n 0, 1) := by decide +kernel
theorem dX1_stepCount_1 : decode cX1_stepCount 1 = .ok (.iload_n 1, 1) := by decide +kernel
theorem dX1_stepCount_2 : decode cX1_stepCount 2 = .ok (.invokevirtual 31, 3) := by decide +kernel
theorem dX1_stepCount_5 : decode cX1_stepCount 5 = .ok (.ifCond .eq 12, 3) := by decide +kernel
theorem dX1_stepCount_8 : decode cX1_stepCount 8 = .ok (.aload_n 0, 1) := by decide +kernel
theorem dX1_stepCount_9 : decode cX1_stepCount 9 = .ok (.getfield 15, 3) := by decide +kernel
theorem dX1_stepCount_12 : decode cX1_stepCount 12 = .ok (.iload_n 1, 1) := by decide +kernel
theorem dX1_stepCount_13 : decode cX1_stepCount 13 = .ok (.iaload, 1) := by decide +kernel
theorem dX1_stepCount_14 : decode cX1_stepCount 14 = .ok (.goto 4, 3) := by decide +kernel
theorem dX1_stepCount_17 : decode cX1_stepCount 17 = .ok (.iconst 0, 1) := by decide +kernel
theorem dX1_stepCount_18 : decode cX1_stepCount 18 = .ok (.ireturn, 1) := by decide +kernel
theorem dX1_withLetter_0 : decode cX1_withLetter 0 = .ok (.iconst 0, 1) := by decide +kernel
theorem dX1_withLetter_1 : decode cX1_withLetter 1 = .ok (.istore_n 2, 1) := by decide +kernel
theorem dX1_withLetter_2 : decode cX1_withLetter 2 = .ok (.iload_n 2, 1) := by decide +kernel
theorem dX1_withLetter_3 : decode cX1_withLetter 3 = .ok (.aload_n 0, 1) := by decide +kernel
theorem dX1_withLetter_4 : decode cX1_withLetter 4 = .ok (.getfield 27, 3) := by decide +kernel
theorem dX1_withLetter_7 : decode cX1_withLetter 7 = .ok (.if_icmp .ge 21, 3) := by decide +kernel
theorem dX1_withLetter_10 : decode cX1_withLetter 10 = .ok (.aload_n 0, 1) := by decide +kernel
theorem dX1_withLetter_11 : decode cX1_withLetter 11 = .ok (.getfield 9, 3) := by decide +kernel
theorem dX1_withLetter_14 : decode cX1_withLetter 14 = .ok (.iload_n 2, 1) := by decide +kernel
theorem dX1_withLetter_15 : decode cX1_withLetter 15 = .ok (.iaload, 1) := by decide +kernel
theorem dX1_withLetter_16 : decode cX1_withLetter 16 = .ok (.iload_n 1, 1) := by decide +kernel
theorem dX1_withLetter_17 : decode cX1_withLetter 17 = .ok (.if_icmp .ne 5, 3) := by decide +kernel
theorem dX1_withLetter_20 : decode cX1_withLetter 20 = .ok (.iload_n 2, 1) := by decide +kernel
theorem dX1_withLetter_21 : decode cX1_withLetter 21 = .ok (.ireturn, 1) := by decide +kernel
theorem dX1_withLetter_22 : decode cX1_withLetter 22 = .ok (.iinc 2 1, 3) := by decide +kernel
theorem dX1_withLetter_25 : decode cX1_withLetter 25 = .ok (.goto (-23), 3) := by decide +kernel
theorem dX1_withLetter_28 : decode cX1_withLetter 28 = .ok (.iconst (-1), 1) := by decide +kernel
theorem dX1_withLetter_29 : decode cX1_withLetter 29 = .ok (.ireturn, 1) := by decide +kernel
theorem dX1_include_0 : decode cX1_include 0 = .ok (.aload_n 0, 1) := by decide +kernel
theorem dX1_include_1 : decode cX1_include 1 = .ok (.getfield 27, 3) := by decide +kernel
theorem dX1_include_4 : decode cX1_include 4 = .ok (.aload_n 0, 1) := by decide +kernel
theorem dX1_include_5 : decode cX1_include 5 = .ok (.getfield 9, 3) := by decide +kernel
theorem dX1_include_8 : decode cX1_include 8 = .ok (.arraylength, 1) := by decide +kernel
theorem dX1_include_9 : decode cX1_include 9 = .ok (.if_icmp .lt 5, 3) := by decide +kernel
theorem dX1_include_12 : decode cX1_include 12 = .ok (.iconst (-1), 1) := by decide +kernel
theorem dX1_include_13 : decode cX1_include 13 = .ok (.ireturn, 1) := by decide +kernel
theorem dX1_include_14 : decode cX1_include 14 = .ok (.aload_n 0, 1) := by decide +kernel
theorem dX1_include_15 : decode cX1_include 15 = .ok (.getfield 9, 3) := by decide +kernel
theorem dX1_include_18 : decode cX1_include 18 = .ok (.aload_n 0, 1) := by decide +kernel
theorem dX1_include_19 : decode cX1_include 19 = .ok (.getfield 27, 3) := by decide +kernel
theorem dX1_include_22 : decode cX1_include 22 = .ok (.iload_n 1, 1) := by decide +kernel
theorem dX1_include_23 : decode cX1_include 23 = .ok (.iastore, 1) := by decide +kernel
theorem dX1_include_24 : decode cX1_include 24 = .ok (.aload_n 0, 1) := by decide +kernel
theorem dX1_include_25 : decode cX1_include 25 = .ok (.dup, 1) := by decide +kernel
theorem dX1_include_26 : decode cX1_include 26 = .ok (.getfield 27, 3) := by decide +kernel
theorem dX1_include_29 : decode cX1_include 29 = .ok (.iconst 1, 1) := by decide +kernel
theorem dX1_include_30 : decode cX1_include 30 = .ok (.iadd, 1) := by decide +kernel
theorem dX1_include_31 : decode cX1_include 31 = .ok (.putfield 27, 3) := by decide +kernel
theorem dX1_include_34 : decode cX1_include 34 = .ok (.aload_n 0, 1) := by decide +kernel
theorem dX1_include_35 : decode cX1_include 35 = .ok (.getfield 27, 3) := by decide +kernel
theorem dX1_include_38 : decode cX1_include 38 = .ok (.iconst 1, 1) := by decide +kernel
theorem dX1_include_39 : decode cX1_include 39 = .ok (.isub, 1) := by decide +kernel
theorem dX1_include_40 : decode cX1_include 40 = .ok (.ireturn, 1) := by decide +kernel
set_option maxRecDepth 20000 in
theorem ggX1_includeStep_X1_has : GoodIn wsX1_includeStep wsX1_has := goodIn_r _ [9, 10, 11, 12, 13, 14, 15, 16] (by decide +kernel) (by decide +kernel)
set_option maxRecDepth 20000 in
theorem gX1_includeStep_X1_has : GoodIn wsX1_includeStep (wsV RX1 31 RX1 yX1_has wsX1_has) := goodIn_app (goodIn_of _ (by decide +kernel)) ggX1_includeStep_X1_has
theorem dX1_includeStep_0 : decode cX1_includeStep 0 = .ok (.aload_n 0, 1) := by decide +kernel
theorem dX1_includeStep_1 : decode cX1_includeStep 1 = .ok (.iload_n 1, 1) := by decide +kernel
theorem dX1_includeStep_2 : decode cX1_includeStep 2 = .ok (.invokevirtual 31, 3) := by decide +kernel
theorem dX1_includeStep_5 : decode cX1_includeStep 5 = .ok (.ifCond .eq 14, 3) := by decide +kernel
theorem dX1_includeStep_8 : decode cX1_includeStep 8 = .ok (.aload_n 0, 1) := by decide +kernel
theorem dX1_includeStep_9 : decode cX1_includeStep 9 = .ok (.getfield 15, 3) := by decide +kernel
theorem dX1_includeStep_12 : decode cX1_includeStep 12 = .ok (.iload_n 1, 1) := by decide +kernel
theorem dX1_includeStep_13 : decode cX1_includeStep 13 = .ok (.iaload, 1) := by decide +kernel
theorem dX1_includeStep_14 : decode cX1_includeStep 14 = .ok (.bipush 8, 2) := by decide +kernel
theorem dX1_includeStep_16 : decode cX1_includeStep 16 = .ok (.if_icmp .lt 5, 3) := by decide +kernel
theorem dX1_includeStep_19 : decode cX1_includeStep 19 = .ok (.iconst (-1), 1) := by decide +kernel
theorem dX1_includeStep_20 : decode cX1_includeStep 20 = .ok (.ireturn, 1) := by decide +kernel
theorem dX1_includeStep_21 : decode cX1_includeStep 21 = .ok (.iload_n 1, 1) := by decide +kernel
theorem dX1_includeStep_22 : decode cX1_includeStep 22 = .ok (.bipush 8, 2) := by decide +kernel
theorem dX1_includeStep_24 : decode cX1_includeStep 24 = .ok (.imul, 1) := by decide +kernel
theorem dX1_includeStep_25 : decode cX1_includeStep 25 = .ok (.aload_n 0, 1) := by decide +kernel
theorem dX1_includeStep_26 : decode cX1_includeStep 26 = .ok (.getfield 15, 3) := by decide +kernel
theorem dX1_includeStep_29 : decode cX1_includeStep 29 = .ok (.iload_n 1, 1) := by decide +kernel
theorem dX1_includeStep_30 : decode cX1_includeStep 30 = .ok (.iaload, 1) := by decide +kernel
theorem dX1_includeStep_31 : decode cX1_includeStep 31 = .ok (.iadd, 1) := by decide +kernel
theorem dX1_includeStep_32 : decode cX1_includeStep 32 = .ok (.istore 5, 2) := by decide +kernel
theorem dX1_includeStep_34 : decode cX1_includeStep 34 = .ok (.aload_n 0, 1) := by decide +kernel
theorem dX1_includeStep_35 : decode cX1_includeStep 35 = .ok (.getfield 18, 3) := by decide +kernel
theorem dX1_includeStep_38 : decode cX1_includeStep 38 = .ok (.iload 5, 2) := by decide +kernel
theorem dX1_includeStep_40 : decode cX1_includeStep 40 = .ok (.iload_n 2, 1) := by decide +kernel
theorem dX1_includeStep_41 : decode cX1_includeStep 41 = .ok (.iastore, 1) := by decide +kernel
theorem dX1_includeStep_42 : decode cX1_includeStep 42 = .ok (.aload_n 0, 1) := by decide +kernel
theorem dX1_includeStep_43 : decode cX1_includeStep 43 = .ok (.getfield 21, 3) := by decide +kernel
theorem dX1_includeStep_46 : decode cX1_includeStep 46 = .ok (.iload 5, 2) := by decide +kernel
theorem dX1_includeStep_48 : decode cX1_includeStep 48 = .ok (.iload_n 3, 1) := by decide +kernel
theorem dX1_includeStep_49 : decode cX1_includeStep 49 = .ok (.iastore, 1) := by decide +kernel
theorem dX1_includeStep_50 : decode cX1_includeStep 50 = .ok (.aload_n 0, 1) := by decide +kernel
theorem dX1_includeStep_51 : decode cX1_includeStep 51 = .ok (.getfield 24, 3) := by decide +kernel
theorem dX1_includeStep_54 : decode cX1_includeStep 54 = .ok (.iload 5, 2) := by decide +kernel
theorem dX1_includeStep_56 : decode cX1_includeStep 56 = .ok (.iload 4, 2) := by decide +kernel
theorem dX1_includeStep_58 : decode cX1_includeStep 58 = .ok (.iastore, 1) := by decide +kernel
theorem dX1_includeStep_59 : decode cX1_includeStep 59 = .ok (.aload_n 0, 1) := by decide +kernel
theorem dX1_includeStep_60 : decode cX1_includeStep 60 = .ok (.getfield 15, 3) := by decide +kernel
theorem dX1_includeStep_63 : decode cX1_includeStep 63 = .ok (.iload_n 1, 1) := by decide +kernel
theorem dX1_includeStep_64 : decode cX1_includeStep 64 = .ok (.dup2, 1) := by decide +kernel
theorem dX1_includeStep_65 : decode cX1_includeStep 65 = .ok (.iaload, 1) := by decide +kernel
theorem dX1_includeStep_66 : decode cX1_includeStep 66 = .ok (.iconst 1, 1) := by decide +kernel
theorem dX1_includeStep_67 : decode cX1_includeStep 67 = .ok (.iadd, 1) := by decide +kernel
theorem dX1_includeStep_68 : decode cX1_includeStep 68 = .ok (.iastore, 1) := by decide +kernel
theorem dX1_includeStep_69 : decode cX1_includeStep 69 = .ok (.aload_n 0, 1) := by decide +kernel
theorem dX1_includeStep_70 : decode cX1_includeStep 70 = .ok (.getfield 15, 3) := by decide +kernel
theorem dX1_includeStep_73 : decode cX1_includeStep 73 = .ok (.iload_n 1, 1) := by decide +kernel
theorem dX1_includeStep_74 : decode cX1_includeStep 74 = .ok (.iaload, 1) := by decide +kernel
theorem dX1_includeStep_75 : decode cX1_includeStep 75 = .ok (.ireturn, 1) := by decide +kernel
theorem dX2_init_0 : decode cX2_init 0 = .ok (.aload_n 0, 1) := by decide +kernel
theorem dX2_init_1 : decode cX2_init 1 = .ok (.invokespecial 3, 3) := by decide +kernel
theorem dX2_init_4 : decode cX2_init 4 = .ok (.aload_n 0, 1) := by decide +kernel
theorem dX2_init_5 : decode cX2_init 5 = .ok (.iconst (-1), 1) := by decide +kernel
theorem dX2_init_6 : decode cX2_init 6 = .ok (.putfield 9, 3) := by decide +kernel
theorem dX2_init_9 : decode cX2_init 9 = .ok (.aload_n 0, 1) := by decide +kernel
theorem dX2_init_10 : decode cX2_init 10 = .ok (.iconst (-1), 1) := by decide +kernel
theorem dX2_init_11 : decode cX2_init 11 = .ok (.putfield 15, 3) := by decide +kernel
theorem dX2_init_14 : decode cX2_init 14 = .ok (.aload_n 0, 1) := by decide +kernel
theorem dX2_init_15 : decode cX2_init 15 = .ok (.iconst (-1), 1) := by decide +kernel
theorem dX2_init_16 : decode cX2_init 16 = .ok (.putfield 18, 3) := by decide +kernel
theorem dX2_init_19 : decode cX2_init 19 = .ok (.aload_n 0, 1) := by decide +kernel
theorem dX2_init_20 : decode cX2_init 20 = .ok (.iconst (-1), 1) := by decide +kernel
theorem dX2_init_21 : decode cX2_init 21 = .ok (.putfield 21, 3) := by decide +kernel
theorem dX2_init_24 : decode cX2_init 24 = .ok (.aload_n 0, 1) := by decide +kernel
theorem dX2_init_25 : decode cX2_init 25 = .ok (.iconst (-1), 1) := by decide +kernel
theorem dX2_init_26 : decode cX2_init 26 = .ok (.putfield 24, 3) := by decide +kernel
theorem dX2_init_29 : decode cX2_init 29 = .ok (.aload_n 0, 1) := by decide +kernel
theorem dX2_init_30 : decode cX2_init 30 = .ok (.iconst (-1), 1) := by decide +kernel
theorem dX2_init_31 : decode cX2_init 31 = .ok (.putfield 27, 3) := by decide +kernel
theorem dX2_init_34 : decode cX2_init 34 = .ok (.aload_n 0, 1) := by decide +kernel
theorem dX2_init_35 : decode cX2_init 35 = .ok (.iconst (-1), 1) := by decide +kernel
theorem dX2_init_36 : decode cX2_init 36 = .ok (.putfield 30, 3) := by decide +kernel
theorem dX2_init_39 : decode cX2_init 39 = .ok (.aload_n 0, 1) := by decide +kernel
theorem dX2_init_40 : decode cX2_init 40 = .ok (.iconst 0, 1) := by decide +kernel
theorem dX2_init_41 : decode cX2_init 41 = .ok (.putfield 33, 3) := by decide +kernel
theorem dX2_init_44 : decode cX2_init 44 = .ok (.return_, 1) := by decide +kernel
theorem dX2_misfit_0 : decode cX2_misfit 0 = .ok (.aload_n 0, 1) := by decide +kernel
theorem dX2_misfit_1 : decode cX2_misfit 1 = .ok (.getfield 9, 3) := by decide +kernel
theorem dX2_misfit_4 : decode cX2_misfit 4 = .ok (.ireturn, 1) := by decide +kernel
theorem dX2_letter_0 : decode cX2_letter 0 = .ok (.aload_n 0, 1) := by decide +kernel
theorem dX2_letter_1 : decode cX2_letter 1 = .ok (.getfield 15, 3) := by decide +kernel
theorem dX2_letter_4 : decode cX2_letter 4 = .ok (.ireturn, 1) := by decide +kernel
theorem dX2_to_0 : decode cX2_to 0 = .ok (.aload_n 0, 1) := by decide +kernel
theorem dX2_to_1 : decode cX2_to 1 = .ok (.getfield 27, 3) := by decide +kernel
theorem dX2_to_4 : decode cX2_to 4 = .ok (.bipush 8, 2) := by decide +kernel
theorem dX2_to_6 : decode cX2_to 6 = .ok (.imul, 1) := by decide +kernel
theorem dX2_to_7 : decode cX2_to 7 = .ok (.aload_n 0, 1) := by decide +kernel
theorem dX2_to_8 : decode cX2_to 8 = .ok (.getfield 24, 3) := by decide +kernel
theorem dX2_to_11 : decode cX2_to 11 = .ok (.iadd, 1) := by decide +kernel
theorem dX2_to_12 : decode cX2_to 12 = .ok (.ireturn, 1) := by decide +kernel
theorem dX2_sign_0 : decode cX2_sign 0 = .ok (.aload_n 0, 1) := by decide +kernel
theorem dX2_sign_1 : decode cX2_sign 1 = .ok (.getfield 30, 3) := by decide +kernel
theorem dX2_sign_4 : decode cX2_sign 4 = .ok (.ireturn, 1) := by decide +kernel
theorem dX2_captures_0 : decode cX2_captures 0 = .ok (.aload_n 0, 1) := by decide +kernel
theorem dX2_captures_1 : decode cX2_captures 1 = .ok (.getfield 33, 3) := by decide +kernel
theorem dX2_captures_4 : decode cX2_captures 4 = .ok (.ireturn, 1) := by decide +kernel
theorem dX2_allowsFrom_0 : decode cX2_allowsFrom 0 = .ok (.aload_n 0, 1) := by decide +kernel
theorem dX2_allowsFrom_1 : decode cX2_allowsFrom 1 = .ok (.getfield 18, 3) := by decide +kernel
theorem dX2_allowsFrom_4 : decode cX2_allowsFrom 4 = .ok (.iconst (-1), 1) := by decide +kernel
theorem dX2_allowsFrom_5 : decode cX2_allowsFrom 5 = .ok (.if_icmp .eq 14, 3) := by decide +kernel
theorem dX2_allowsFrom_8 : decode cX2_allowsFrom 8 = .ok (.aload_n 0, 1) := by decide +kernel
theorem dX2_allowsFrom_9 : decode cX2_allowsFrom 9 = .ok (.getfield 18, 3) := by decide +kernel
theorem dX2_allowsFrom_12 : decode cX2_allowsFrom 12 = .ok (.iload_n 1, 1) := by decide +kernel
theorem dX2_allowsFrom_13 : decode cX2_allowsFrom 13 = .ok (.bipush 8, 2) := by decide +kernel
theorem dX2_allowsFrom_15 : decode cX2_allowsFrom 15 = .ok (.irem, 1) := by decide +kernel
theorem dX2_allowsFrom_16 : decode cX2_allowsFrom 16 = .ok (.if_icmp .ne 26, 3) := by decide +kernel
theorem dX2_allowsFrom_19 : decode cX2_allowsFrom 19 = .ok (.aload_n 0, 1) := by decide +kernel
theorem dX2_allowsFrom_20 : decode cX2_allowsFrom 20 = .ok (.getfield 21, 3) := by decide +kernel
theorem dX2_allowsFrom_23 : decode cX2_allowsFrom 23 = .ok (.iconst (-1), 1) := by decide +kernel
theorem dX2_allowsFrom_24 : decode cX2_allowsFrom 24 = .ok (.if_icmp .eq 14, 3) := by decide +kernel
theorem dX2_allowsFrom_27 : decode cX2_allowsFrom 27 = .ok (.aload_n 0, 1) := by decide +kernel
theorem dX2_allowsFrom_28 : decode cX2_allowsFrom 28 = .ok (.getfield 21, 3) := by decide +kernel
theorem dX2_allowsFrom_31 : decode cX2_allowsFrom 31 = .ok (.iload_n 1, 1) := by decide +kernel
theorem dX2_allowsFrom_32 : decode cX2_allowsFrom 32 = .ok (.bipush 8, 2) := by decide +kernel
theorem dX2_allowsFrom_34 : decode cX2_allowsFrom 34 = .ok (.idiv, 1) := by decide +kernel
theorem dX2_allowsFrom_35 : decode cX2_allowsFrom 35 = .ok (.if_icmp .ne 7, 3) := by decide +kernel
theorem dX2_allowsFrom_38 : decode cX2_allowsFrom 38 = .ok (.iconst 1, 1) := by decide +kernel
theorem dX2_allowsFrom_39 : decode cX2_allowsFrom 39 = .ok (.goto 4, 3) := by decide +kernel
theorem dX2_allowsFrom_42 : decode cX2_allowsFrom 42 = .ok (.iconst 0, 1) := by decide +kernel
theorem dX2_allowsFrom_43 : decode cX2_allowsFrom 43 = .ok (.ireturn, 1) := by decide +kernel
set_option maxRecDepth 20000 in
theorem ggX2_fits_X2_forget : GoodIn wsX2_fits wsX2_forget := goodIn_r _ [6, 1, 7, 8, 9, 10, 11, 12, 13, 40, 41, 42, 43, 44, 45, 46, 47] (by decide +kernel) (by decide +kernel)
set_option maxRecDepth 20000 in
theorem gX2_fits_X2_forget : GoodIn wsX2_fits (wsV RX2 37 RX2 yX2_forget wsX2_forget) := goodIn_app (goodIn_of _ (by decide +kernel)) ggX2_fits_X2_forget
set_option maxRecDepth 20000 in
theorem ggX2_fits_X3_get : GoodIn wsX2_fits wsX3_get := goodIn_r _ [18, 19, 20, 48, 49, 50] (by decide +kernel) (by decide +kernel)
set_option maxRecDepth 20000 in
theorem gX2_fits_X3_get : GoodIn wsX2_fits (wsV RX2 40 RX3 yX3_get wsX3_get) := goodIn_app (goodIn_of _ (by decide +kernel)) ggX2_fits_X3_get
set_option maxRecDepth 20000 in
theorem ggX2_fits_X2_stateBehind : GoodIn wsX2_fits wsX2_stateBehind := goodIn_r _ [23, 24, 25, 5, 26, 27, 28, 29, 30, 31, 32, 33, 34, 35] (by decide +kernel) (by decide +kernel)
set_option maxRecDepth 20000 in
theorem gX2_fits_X2_stateBehind : GoodIn wsX2_fits (va_wsS RX2 46 yX2_stateBehind wsX2_stateBehind) := goodIn_app (goodIn_of _ (by decide +kernel)) ggX2_fits_X2_stateBehind
set_option maxRecDepth 20000 in
theorem ggX2_fits_X2_keep : GoodIn wsX2_fits wsX2_keep := goodIn_r _ [39, 10, 8, 11, 9, 12, 13, 7, 24, 25, 5, 26, 27, 28, 29, 33, 34, 35, 40, 41, 42, 43, 44, 45, 46, 47] (by decide +kernel) (by decide +kernel)
set_option maxRecDepth 20000 in
theorem gX2_fits_X2_keep : GoodIn wsX2_fits (wsV RX2 50 RX2 yX2_keep wsX2_keep) := goodIn_app (goodIn_of _ (by decide +kernel)) ggX2_fits_X2_keep
theorem dX2_fits_0 : decode cX2_fits 0 = .ok (.aload_n 0, 1) := by decide +kernel
theorem dX2_fits_1 : decode cX2_fits 1 = .ok (.invokevirtual 37, 3) := by decide +kernel
theorem dX2_fits_4 : decode cX2_fits 4 = .ok (.iconst 0, 1) := by decide +kernel
theorem dX2_fits_5 : decode cX2_fits 5 = .ok (.istore 4, 2) := by decide +kernel
theorem dX2_fits_7 : decode cX2_fits 7 = .ok (.iload_n 2, 1) := by decide +kernel
theorem dX2_fits_8 : decode cX2_fits 8 = .ok (.istore 5, 2) := by decide +kernel
theorem dX2_fits_10 : decode cX2_fits 10 = .ok (.iload 5, 2) := by decide +kernel
theorem dX2_fits_12 : decode cX2_fits 12 = .ok (.iload_n 3, 1) := by decide +kernel
theorem dX2_fits_13 : decode cX2_fits 13 = .ok (.if_icmp .ge 55, 3) := by decide +kernel
theorem dX2_fits_16 : decode cX2_fits 16 = .ok (.aload_n 0, 1) := by decide +kernel
theorem dX2_fits_17 : decode cX2_fits 17 = .ok (.getfield 9, 3) := by decide +kernel
theorem dX2_fits_20 : decode cX2_fits 20 = .ok (.iconst (-1), 1) := by decide +kernel
theorem dX2_fits_21 : decode cX2_fits 21 = .ok (.if_icmp .ne 47, 3) := by decide +kernel
theorem dX2_fits_24 : decode cX2_fits 24 = .ok (.iload 4, 2) := by decide +kernel
theorem dX2_fits_26 : decode cX2_fits 26 = .ok (.aload_n 1, 1) := by decide +kernel
theorem dX2_fits_27 : decode cX2_fits 27 = .ok (.iload 5, 2) := by decide +kernel
theorem dX2_fits_29 : decode cX2_fits 29 = .ok (.invokevirtual 40, 3) := by decide +kernel
theorem dX2_fits_32 : decode cX2_fits 32 = .ok (.invokestatic 46, 3) := by decide +kernel
theorem dX2_fits_35 : decode cX2_fits 35 = .ok (.istore 4, 2) := by decide +kernel
theorem dX2_fits_37 : decode cX2_fits 37 = .ok (.iload 4, 2) := by decide +kernel
theorem dX2_fits_39 : decode cX2_fits 39 = .ok (.iconst (-1), 1) := by decide +kernel
theorem dX2_fits_40 : decode cX2_fits 40 = .ok (.if_icmp .ne 12, 3) := by decide +kernel
theorem dX2_fits_43 : decode cX2_fits 43 = .ok (.aload_n 0, 1) := by decide +kernel
theorem dX2_fits_44 : decode cX2_fits 44 = .ok (.iload 5, 2) := by decide +kernel
theorem dX2_fits_46 : decode cX2_fits 46 = .ok (.putfield 9, 3) := by decide +kernel
theorem dX2_fits_49 : decode cX2_fits 49 = .ok (.goto 13, 3) := by decide +kernel
theorem dX2_fits_52 : decode cX2_fits 52 = .ok (.aload_n 0, 1) := by decide +kernel
theorem dX2_fits_53 : decode cX2_fits 53 = .ok (.aload_n 1, 1) := by decide +kernel
theorem dX2_fits_54 : decode cX2_fits 54 = .ok (.iload 5, 2) := by decide +kernel
theorem dX2_fits_56 : decode cX2_fits 56 = .ok (.invokevirtual 40, 3) := by decide +kernel
theorem dX2_fits_59 : decode cX2_fits 59 = .ok (.invokevirtual 50, 3) := by decide +kernel
theorem dX2_fits_62 : decode cX2_fits 62 = .ok (.iinc 5 1, 3) := by decide +kernel
theorem dX2_fits_65 : decode cX2_fits 65 = .ok (.goto (-55), 3) := by decide +kernel
theorem dX2_fits_68 : decode cX2_fits 68 = .ok (.aload_n 0, 1) := by decide +kernel
theorem dX2_fits_69 : decode cX2_fits 69 = .ok (.getfield 9, 3) := by decide +kernel
theorem dX2_fits_72 : decode cX2_fits 72 = .ok (.iconst (-1), 1) := by decide +kernel
theorem dX2_fits_73 : decode cX2_fits 73 = .ok (.if_icmp .ne 28, 3) := by decide +kernel
theorem dX2_fits_76 : decode cX2_fits 76 = .ok (.iload 4, 2) := by decide +kernel
theorem dX2_fits_78 : decode cX2_fits 78 = .ok (.iconst 4, 1) := by decide +kernel
theorem dX2_fits_79 : decode cX2_fits 79 = .ok (.if_icmp .eq 22, 3) := by decide +kernel
theorem dX2_fits_82 : decode cX2_fits 82 = .ok (.iload 4, 2) := by decide +kernel
theorem dX2_fits_84 : decode cX2_fits 84 = .ok (.bipush 7, 2) := by decide +kernel
theorem dX2_fits_86 : decode cX2_fits 86 = .ok (.if_icmp .eq 15, 3) := by decide +kernel
theorem dX2_fits_89 : decode cX2_fits 89 = .ok (.iload 4, 2) := by decide +kernel
theorem dX2_fits_91 : decode cX2_fits 91 = .ok (.bipush 8, 2) := by decide +kernel
theorem dX2_fits_93 : decode cX2_fits 93 = .ok (.if_icmp .eq 8, 3) := by decide +kernel
theorem dX2_fits_96 : decode cX2_fits 96 = .ok (.aload_n 0, 1) := by decide +kernel
theorem dX2_fits_97 : decode cX2_fits 97 = .ok (.iload_n 3, 1) := by decide +kernel
theorem dX2_fits_98 : decode cX2_fits 98 = .ok (.putfield 9, 3) := by decide +kernel
theorem dX2_fits_101 : decode cX2_fits 101 = .ok (.aload_n 0, 1) := by decide +kernel
theorem dX2_fits_102 : decode cX2_fits 102 = .ok (.getfield 9, 3) := by decide +kernel
theorem dX2_fits_105 : decode cX2_fits 105 = .ok (.iconst (-1), 1) := by decide +kernel
theorem dX2_fits_106 : decode cX2_fits 106 = .ok (.if_icmp .ne 7, 3) := by decide +kernel
theorem dX2_fits_109 : decode cX2_fits 109 = .ok (.iconst 1, 1) := by decide +kernel
theorem dX2_fits_110 : decode cX2_fits 110 = .ok (.goto 4, 3) := by decide +kernel
theorem dX2_fits_113 : decode cX2_fits 113 = .ok (.iconst 0, 1) := by decide +kernel
theorem dX2_fits_114 : decode cX2_fits 114 = .ok (.ireturn, 1) := by decide +kernel
theorem dX2_forget_0 : decode cX2_forget 0 = .ok (.aload_n 0, 1) := by decide +kernel
theorem dX2_forget_1 : decode cX2_forget 1 = .ok (.iconst (-1), 1) := by decide +kernel
theorem dX2_forget_2 : decode cX2_forget 2 = .ok (.putfield 9, 3) := by decide +kernel
theorem dX2_forget_5 : decode cX2_forget 5 = .ok (.aload_n 0, 1) := by decide +kernel
theorem dX2_forget_6 : decode cX2_forget 6 = .ok (.iconst (-1), 1) := by decide +kernel
theorem dX2_forget_7 : decode cX2_forget 7 = .ok (.putfield 15, 3) := by decide +kernel
theorem dX2_forget_10 : decode cX2_forget 10 = .ok (.aload_n 0, 1) := by decide +kernel
theorem dX2_forget_11 : decode cX2_forget 11 = .ok (.iconst (-1), 1) := by decide +kernel
theorem dX2_forget_12 : decode cX2_forget 12 = .ok (.putfield 18, 3) := by decide +kernel
theorem dX2_forget_15 : decode cX2_forget 15 = .ok (.aload_n 0, 1) := by decide +kernel
theorem dX2_forget_16 : decode cX2_forget 16 = .ok (.iconst (-1), 1) := by decide +kernel
theorem dX2_forget_17 : decode cX2_forget 17 = .ok (.putfield 21, 3) := by decide +kernel
theorem dX2_forget_20 : decode cX2_forget 20 = .ok (.aload_n 0, 1) := by decide +kernel
theorem dX2_forget_21 : decode cX2_forget 21 = .ok (.iconst (-1), 1) := by decide +kernel
theorem dX2_forget_22 : decode cX2_forget 22 = .ok (.putfield 24, 3) := by decide +kernel
theorem dX2_forget_25 : decode cX2_forget 25 = .ok (.aload_n 0, 1) := by decide +kernel
theorem dX2_forget_26 : decode cX2_forget 26 = .ok (.iconst (-1), 1) := by decide +kernel
theorem dX2_forget_27 : decode cX2_forget 27 = .ok (.putfield 27, 3) := by decide +kernel
theorem dX2_forget_30 : decode cX2_forget 30 = .ok (.aload_n 0, 1) := by decide +kernel
theorem dX2_forget_31 : decode cX2_forget 31 = .ok (.iconst (-1), 1) := by decide +kernel
theorem dX2_forget_32 : decode cX2_forget 32 = .ok (.putfield 30, 3) := by decide +kernel
theorem dX2_forget_35 : decode cX2_forget 35 = .ok (.aload_n 0, 1) := by decide +kernel
theorem dX2_forget_36 : decode cX2_forget 36 = .ok (.iconst 0, 1) := by decide +kernel
theorem dX2_forget_37 : decode cX2_forget 37 = .ok (.putfield 33, 3) := by decide +kernel
theorem dX2_forget_40 : decode cX2_forget 40 = .ok (.return_, 1) := by decide +kernel
set_option maxRecDepth 20000 in
theorem ggX2_keep_X2_isFile : GoodIn wsX2_keep wsX2_isFile := goodIn_r _ [11] (by decide +kernel) (by decide +kernel)
set_option maxRecDepth 20000 in
theorem gX2_keep_X2_isFile : GoodIn wsX2_keep (va_wsS RX2 54 yX2_isFile wsX2_isFile) := goodIn_app (goodIn_of _ (by decide +kernel)) ggX2_keep_X2_isFile
set_option maxRecDepth 20000 in
theorem ggX2_keep_X2_isRank : GoodIn wsX2_keep wsX2_isRank := goodIn_r _ [14] (by decide +kernel) (by decide +kernel)
set_option maxRecDepth 20000 in
theorem gX2_keep_X2_isRank : GoodIn wsX2_keep (va_wsS RX2 58 yX2_isRank wsX2_isRank) := goodIn_app (goodIn_of _ (by decide +kernel)) ggX2_keep_X2_isRank
set_option maxRecDepth 20000 in
theorem ggX2_keep_X2_isSign : GoodIn wsX2_keep wsX2_isSign := goodIn_r _ [17] (by decide +kernel) (by decide +kernel)
set_option maxRecDepth 20000 in
theorem gX2_keep_X2_isSign : GoodIn wsX2_keep (va_wsS RX2 61 yX2_isSign wsX2_isSign) := goodIn_app (goodIn_of _ (by decide +kernel)) ggX2_keep_X2_isSign
theorem dX2_keep_0 : decode cX2_keep 0 = .ok (.iload_n 1, 1) := by decide +kernel
theorem dX2_keep_1 : decode cX2_keep 1 = .ok (.invokestatic 54, 3) := by decide +kernel
theorem dX2_keep_4 : decode cX2_keep 4 = .ok (.ifCond .eq 22, 3) := by decide +kernel
theorem dX2_keep_7 : decode cX2_keep 7 = .ok (.aload_n 0, 1) := by decide +kernel
theorem dX2_keep_8 : decode cX2_keep 8 = .ok (.aload_n 0, 1) := by decide +kernel
theorem dX2_keep_9 : decode cX2_keep 9 = .ok (.getfield 24, 3) := by decide +kernel
theorem dX2_keep_12 : decode cX2_keep 12 = .ok (.putfield 18, 3) := by decide +kernel
theorem dX2_keep_15 : decode cX2_keep 15 = .ok (.aload_n 0, 1) := by decide +kernel
theorem dX2_keep_16 : decode cX2_keep 16 = .ok (.iload_n 1, 1) := by decide +kernel
theorem dX2_keep_17 : decode cX2_keep 17 = .ok (.bipush 97, 2) := by decide +kernel
theorem dX2_keep_19 : decode cX2_keep 19 = .ok (.isub, 1) := by decide +kernel
theorem dX2_keep_20 : decode cX2_keep 20 = .ok (.putfield 24, 3) := by decide +kernel
theorem dX2_keep_23 : decode cX2_keep 23 = .ok (.goto 63, 3) := by decide +kernel
theorem dX2_keep_26 : decode cX2_keep 26 = .ok (.iload_n 1, 1) := by decide +kernel
theorem dX2_keep_27 : decode cX2_keep 27 = .ok (.invokestatic 58, 3) := by decide +kernel
theorem dX2_keep_30 : decode cX2_keep 30 = .ok (.ifCond .eq 22, 3) := by decide +kernel
theorem dX2_keep_33 : decode cX2_keep 33 = .ok (.aload_n 0, 1) := by decide +kernel
theorem dX2_keep_34 : decode cX2_keep 34 = .ok (.aload_n 0, 1) := by decide +kernel
theorem dX2_keep_35 : decode cX2_keep 35 = .ok (.getfield 27, 3) := by decide +kernel
theorem dX2_keep_38 : decode cX2_keep 38 = .ok (.putfield 21, 3) := by decide +kernel
theorem dX2_keep_41 : decode cX2_keep 41 = .ok (.aload_n 0, 1) := by decide +kernel
theorem dX2_keep_42 : decode cX2_keep 42 = .ok (.iload_n 1, 1) := by decide +kernel
theorem dX2_keep_43 : decode cX2_keep 43 = .ok (.bipush 49, 2) := by decide +kernel
theorem dX2_keep_45 : decode cX2_keep 45 = .ok (.isub, 1) := by decide +kernel
theorem dX2_keep_46 : decode cX2_keep 46 = .ok (.putfield 27, 3) := by decide +kernel
theorem dX2_keep_49 : decode cX2_keep 49 = .ok (.goto 37, 3) := by decide +kernel
theorem dX2_keep_52 : decode cX2_keep 52 = .ok (.iload_n 1, 1) := by decide +kernel
theorem dX2_keep_53 : decode cX2_keep 53 = .ok (.invokestatic 61, 3) := by decide +kernel
theorem dX2_keep_56 : decode cX2_keep 56 = .ok (.ifCond .eq 11, 3) := by decide +kernel
theorem dX2_keep_59 : decode cX2_keep 59 = .ok (.aload_n 0, 1) := by decide +kernel
theorem dX2_keep_60 : decode cX2_keep 60 = .ok (.iload_n 1, 1) := by decide +kernel
theorem dX2_keep_61 : decode cX2_keep 61 = .ok (.putfield 30, 3) := by decide +kernel
theorem dX2_keep_64 : decode cX2_keep 64 = .ok (.goto 22, 3) := by decide +kernel
theorem dX2_keep_67 : decode cX2_keep 67 = .ok (.iload_n 1, 1) := by decide +kernel
theorem dX2_keep_68 : decode cX2_keep 68 = .ok (.bipush 120, 2) := by decide +kernel
theorem dX2_keep_70 : decode cX2_keep 70 = .ok (.if_icmp .ne 11, 3) := by decide +kernel
theorem dX2_keep_73 : decode cX2_keep 73 = .ok (.aload_n 0, 1) := by decide +kernel
theorem dX2_keep_74 : decode cX2_keep 74 = .ok (.iconst 1, 1) := by decide +kernel
theorem dX2_keep_75 : decode cX2_keep 75 = .ok (.putfield 33, 3) := by decide +kernel
theorem dX2_keep_78 : decode cX2_keep 78 = .ok (.goto 8, 3) := by decide +kernel
theorem dX2_keep_81 : decode cX2_keep 81 = .ok (.aload_n 0, 1) := by decide +kernel
theorem dX2_keep_82 : decode cX2_keep 82 = .ok (.iload_n 1, 1) := by decide +kernel
theorem dX2_keep_83 : decode cX2_keep 83 = .ok (.putfield 15, 3) := by decide +kernel
theorem dX2_keep_86 : decode cX2_keep 86 = .ok (.return_, 1) := by decide +kernel
set_option maxRecDepth 20000 in
theorem ggX2_stateBehind_X2_isFile : GoodIn wsX2_stateBehind wsX2_isFile := goodIn_r _ [4] (by decide +kernel) (by decide +kernel)
set_option maxRecDepth 20000 in
theorem gX2_stateBehind_X2_isFile : GoodIn wsX2_stateBehind (va_wsS RX2 54 yX2_isFile wsX2_isFile) := goodIn_app (goodIn_of _ (by decide +kernel)) ggX2_stateBehind_X2_isFile
set_option maxRecDepth 20000 in
theorem ggX2_stateBehind_X2_isRank : GoodIn wsX2_stateBehind wsX2_isRank := goodIn_r _ [7] (by decide +kernel) (by decide +kernel)
set_option maxRecDepth 20000 in
theorem gX2_stateBehind_X2_isRank : GoodIn wsX2_stateBehind (va_wsS RX2 58 yX2_isRank wsX2_isRank) := goodIn_app (goodIn_of _ (by decide +kernel)) ggX2_stateBehind_X2_isRank
set_option maxRecDepth 20000 in
theorem ggX2_stateBehind_X2_stateBehindOrigin : GoodIn wsX2_stateBehind wsX2_stateBehindOrigin := goodIn_r _ [10, 1, 2, 3, 4] (by decide +kernel) (by decide +kernel)
set_option maxRecDepth 20000 in
theorem gX2_stateBehind_X2_stateBehindOrigin : GoodIn wsX2_stateBehind (va_wsS RX2 64 yX2_stateBehindOrigin wsX2_stateBehindOrigin) := goodIn_app (goodIn_of _ (by decide +kernel)) ggX2_stateBehind_X2_stateBehindOrigin
set_option maxRecDepth 20000 in
theorem ggX2_stateBehind_X2_isSign : GoodIn wsX2_stateBehind wsX2_isSign := goodIn_r _ [13] (by decide +kernel) (by decide +kernel)
set_option maxRecDepth 20000 in
theorem gX2_stateBehind_X2_isSign : GoodIn wsX2_stateBehind (va_wsS RX2 61 yX2_isSign wsX2_isSign) := goodIn_app (goodIn_of _ (by decide +kernel)) ggX2_stateBehind_X2_isSign
theorem dX2_stateBehind_0 : decode cX2_stateBehind 0 = .ok (.iload_n 0, 1) := by decide +kernel
theorem dX2_stateBehind_1 : decode cX2_stateBehind 1 = .ok (.tableswitch 179 0 7 #[47, 65, 99, 115, 120, 137, 151, 165], 47) := by decide +kernel
theorem dX2_stateBehind_48 : decode cX2_stateBehind 48 = .ok (.iload_n 1, 1) := by decide +kernel
theorem dX2_stateBehind_49 : decode cX2_stateBehind 49 = .ok (.bipush 65, 2) := by decide +kernel
theorem dX2_stateBehind_51 : decode cX2_stateBehind 51 = .ok (.if_icmp .lt 13, 3) := by decide +kernel
theorem dX2_stateBehind_54 : decode cX2_stateBehind 54 = .ok (.iload_n 1, 1) := by decide +kernel
theorem dX2_stateBehind_55 : decode cX2_stateBehind 55 = .ok (.bipush 90, 2) := by decide +kernel
theorem dX2_stateBehind_57 : decode cX2_stateBehind 57 = .ok (.if_icmp .gt 7, 3) := by decide +kernel
theorem dX2_stateBehind_60 : decode cX2_stateBehind 60 = .ok (.iconst 1, 1) := by decide +kernel
theorem dX2_stateBehind_61 : decode cX2_stateBehind 61 = .ok (.goto 4, 3) := by decide +kernel
theorem dX2_stateBehind_64 : decode cX2_stateBehind 64 = .ok (.iconst (-1), 1) := by decide +kernel
theorem dX2_stateBehind_65 : decode cX2_stateBehind 65 = .ok (.ireturn, 1) := by decide +kernel
theorem dX2_stateBehind_66 : decode cX2_stateBehind 66 = .ok (.iload_n 1, 1) := by decide +kernel
theorem dX2_stateBehind_67 : decode cX2_stateBehind 67 = .ok (.invokestatic 54, 3) := by decide +kernel
theorem dX2_stateBehind_70 : decode cX2_stateBehind 70 = .ok (.ifCond .eq 7, 3) := by decide +kernel
theorem dX2_stateBehind_73 : decode cX2_stateBehind 73 = .ok (.iconst 2, 1) := by decide +kernel
theorem dX2_stateBehind_74 : decode cX2_stateBehind 74 = .ok (.goto 25, 3) := by decide +kernel
theorem dX2_stateBehind_77 : decode cX2_stateBehind 77 = .ok (.iload_n 1, 1) := by decide +kernel
theorem dX2_stateBehind_78 : decode cX2_stateBehind 78 = .ok (.invokestatic 58, 3) := by decide +kernel
theorem dX2_stateBehind_81 : decode cX2_stateBehind 81 = .ok (.ifCond .eq 7, 3) := by decide +kernel
theorem dX2_stateBehind_84 : decode cX2_stateBehind 84 = .ok (.iconst 3, 1) := by decide +kernel
theorem dX2_stateBehind_85 : decode cX2_stateBehind 85 = .ok (.goto 14, 3) := by decide +kernel
theorem dX2_stateBehind_88 : decode cX2_stateBehind 88 = .ok (.iload_n 1, 1) := by decide +kernel
theorem dX2_stateBehind_89 : decode cX2_stateBehind 89 = .ok (.bipush 120, 2) := by decide +kernel
theorem dX2_stateBehind_91 : decode cX2_stateBehind 91 = .ok (.if_icmp .ne 7, 3) := by decide +kernel
theorem dX2_stateBehind_94 : decode cX2_stateBehind 94 = .ok (.iconst 5, 1) := by decide +kernel
theorem dX2_stateBehind_95 : decode cX2_stateBehind 95 = .ok (.goto 4, 3) := by decide +kernel
theorem dX2_stateBehind_98 : decode cX2_stateBehind 98 = .ok (.iconst (-1), 1) := by decide +kernel
theorem dX2_stateBehind_99 : decode cX2_stateBehind 99 = .ok (.ireturn, 1) := by decide +kernel
theorem dX2_stateBehind_100 : decode cX2_stateBehind 100 = .ok (.iload_n 1, 1) := by decide +kernel
theorem dX2_stateBehind_101 : decode cX2_stateBehind 101 = .ok (.invokestatic 58, 3) := by decide +kernel
theorem dX2_stateBehind_104 : decode cX2_stateBehind 104 = .ok (.ifCond .eq 7, 3) := by decide +kernel
theorem dX2_stateBehind_107 : decode cX2_stateBehind 107 = .ok (.iconst 4, 1) := by decide +kernel
theorem dX2_stateBehind_108 : decode cX2_stateBehind 108 = .ok (.goto 7, 3) := by decide +kernel
theorem dX2_stateBehind_111 : decode cX2_stateBehind 111 = .ok (.iload_n 1, 1) := by decide +kernel
theorem dX2_stateBehind_112 : decode cX2_stateBehind 112 = .ok (.invokestatic 64, 3) := by decide +kernel
theorem dX2_stateBehind_115 : decode cX2_stateBehind 115 = .ok (.ireturn, 1) := by decide +kernel
theorem dX2_stateBehind_116 : decode cX2_stateBehind 116 = .ok (.iload_n 1, 1) := by decide +kernel
theorem dX2_stateBehind_117 : decode cX2_stateBehind 117 = .ok (.invokestatic 64, 3) := by decide +kernel
theorem dX2_stateBehind_120 : decode cX2_stateBehind 120 = .ok (.ireturn, 1) := by decide +kernel
theorem dX2_stateBehind_121 : decode cX2_stateBehind 121 = .ok (.iload_n 1, 1) := by decide +kernel
theorem dX2_stateBehind_122 : decode cX2_stateBehind 122 = .ok (.invokestatic 61, 3) := by decide +kernel
theorem dX2_stateBehind_125 : decode cX2_stateBehind 125 = .ok (.ifCond .eq 8, 3) := by decide +kernel
theorem dX2_stateBehind_128 : decode cX2_stateBehind 128 = .ok (.bipush 8, 2) := by decide +kernel
theorem dX2_stateBehind_130 : decode cX2_stateBehind 130 = .ok (.goto 7, 3) := by decide +kernel
theorem dX2_stateBehind_133 : decode cX2_stateBehind 133 = .ok (.iload_n 1, 1) := by decide +kernel
theorem dX2_stateBehind_134 : decode cX2_stateBehind 134 = .ok (.invokestatic 64, 3) := by decide +kernel
theorem dX2_stateBehind_137 : decode cX2_stateBehind 137 = .ok (.ireturn, 1) := by decide +kernel
theorem dX2_stateBehind_138 : decode cX2_stateBehind 138 = .ok (.iload_n 1, 1) := by decide +kernel
theorem dX2_stateBehind_139 : decode cX2_stateBehind 139 = .ok (.invokestatic 54, 3) := by decide +kernel
theorem dX2_stateBehind_142 : decode cX2_stateBehind 142 = .ok (.ifCond .eq 8, 3) := by decide +kernel
theorem dX2_stateBehind_145 : decode cX2_stateBehind 145 = .ok (.bipush 6, 2) := by decide +kernel
theorem dX2_stateBehind_147 : decode cX2_stateBehind 147 = .ok (.goto 4, 3) := by decide +kernel
theorem dX2_stateBehind_150 : decode cX2_stateBehind 150 = .ok (.iconst (-1), 1) := by decide +kernel
theorem dX2_stateBehind_151 : decode cX2_stateBehind 151 = .ok (.ireturn, 1) := by decide +kernel
theorem dX2_stateBehind_152 : decode cX2_stateBehind 152 = .ok (.iload_n 1, 1) := by decide +kernel
theorem dX2_stateBehind_153 : decode cX2_stateBehind 153 = .ok (.invokestatic 58, 3) := by decide +kernel
theorem dX2_stateBehind_156 : decode cX2_stateBehind 156 = .ok (.ifCond .eq 8, 3) := by decide +kernel
theorem dX2_stateBehind_159 : decode cX2_stateBehind 159 = .ok (.bipush 7, 2) := by decide +kernel
theorem dX2_stateBehind_161 : decode cX2_stateBehind 161 = .ok (.goto 4, 3) := by decide +kernel
theorem dX2_stateBehind_164 : decode cX2_stateBehind 164 = .ok (.iconst (-1), 1) := by decide +kernel
theorem dX2_stateBehind_165 : decode cX2_stateBehind 165 = .ok (.ireturn, 1) := by decide +kernel
theorem dX2_stateBehind_166 : decode cX2_stateBehind 166 = .ok (.iload_n 1, 1) := by decide +kernel
theorem dX2_stateBehind_167 : decode cX2_stateBehind 167 = .ok (.invokestatic 61, 3) := by decide +kernel
theorem dX2_stateBehind_170 : decode cX2_stateBehind 170 = .ok (.ifCond .eq 8, 3) := by decide +kernel
theorem dX2_stateBehind_173 : decode cX2_stateBehind 173 = .ok (.bipush 8, 2) := by decide +kernel
theorem dX2_stateBehind_175 : decode cX2_stateBehind 175 = .ok (.goto 4, 3) := by decide +kernel
theorem dX2_stateBehind_178 : decode cX2_stateBehind 178 = .ok (.iconst (-1), 1) := by decide +kernel
theorem dX2_stateBehind_179 : decode cX2_stateBehind 179 = .ok (.ireturn, 1) := by decide +kernel
theorem dX2_stateBehind_180 : decode cX2_stateBehind 180 = .ok (.iconst (-1), 1) := by decide +kernel
theorem dX2_stateBehind_181 : decode cX2_stateBehind 181 = .ok (.ireturn, 1) := by decide +kernel
set_option maxRecDepth 20000 in
theorem ggX2_stateBehindOrigin_X2_isFile : GoodIn wsX2_stateBehindOrigin wsX2_isFile := goodIn_r _ [4] (by decide +kernel) (by decide +kernel)
set_option maxRecDepth 20000 in
theorem gX2_stateBehindOrigin_X2_isFile : GoodIn wsX2_stateBehindOrigin (va_wsS RX2 54 yX2_isFile wsX2_isFile) := goodIn_app (goodIn_of _ (by decide +kernel)) ggX2_stateBehindOrigin_X2_isFile
theorem dX2_stateBehindOrigin_0 : decode cX2_stateBehindOrigin 0 = .ok (.iload_n 0, 1) := by decide +kernel
theorem dX2_stateBehindOrigin_1 : decode cX2_stateBehindOrigin 1 = .ok (.invokestatic 54, 3) := by decide +kernel
theorem dX2_stateBehindOrigin_4 : decode cX2_stateBehindOrigin 4 = .ok (.ifCond .eq 8, 3) := by decide +kernel
theorem dX2_stateBehindOrigin_7 : decode cX2_stateBehindOrigin 7 = .ok (.bipush 6, 2) := by decide +kernel
theorem dX2_stateBehindOrigin_9 : decode cX2_stateBehindOrigin 9 = .ok (.goto 14, 3) := by decide +kernel
theorem dX2_stateBehindOrigin_12 : decode cX2_stateBehindOrigin 12 = .ok (.iload_n 0, 1) := by decide +kernel
theorem dX2_stateBehindOrigin_13 : decode cX2_stateBehindOrigin 13 = .ok (.bipush 120, 2) := by decide +kernel
theorem dX2_stateBehindOrigin_15 : decode cX2_stateBehindOrigin 15 = .ok (.if_icmp .ne 7, 3) := by decide +kernel
theorem dX2_stateBehindOrigin_18 : decode cX2_stateBehindOrigin 18 = .ok (.iconst 5, 1) := by decide +kernel
theorem dX2_stateBehindOrigin_19 : decode cX2_stateBehindOrigin 19 = .ok (.goto 4, 3) := by decide +kernel
theorem dX2_stateBehindOrigin_22 : decode cX2_stateBehindOrigin 22 = .ok (.iconst (-1), 1) := by decide +kernel
theorem dX2_stateBehindOrigin_23 : decode cX2_stateBehindOrigin 23 = .ok (.ireturn, 1) := by decide +kernel
theorem dX2_isFile_0 : decode cX2_isFile 0 = .ok (.iload_n 0, 1) := by decide +kernel
theorem dX2_isFile_1 : decode cX2_isFile 1 = .ok (.bipush 97, 2) := by decide +kernel
theorem dX2_isFile_3 : decode cX2_isFile 3 = .ok (.if_icmp .lt 13, 3) := by decide +kernel
theorem dX2_isFile_6 : decode cX2_isFile 6 = .ok (.iload_n 0, 1) := by decide +kernel
theorem dX2_isFile_7 : decode cX2_isFile 7 = .ok (.bipush 105, 2) := by decide +kernel
theorem dX2_isFile_9 : decode cX2_isFile 9 = .ok (.if_icmp .ge 7, 3) := by decide +kernel
theorem dX2_isFile_12 : decode cX2_isFile 12 = .ok (.iconst 1, 1) := by decide +kernel
theorem dX2_isFile_13 : decode cX2_isFile 13 = .ok (.goto 4, 3) := by decide +kernel
theorem dX2_isFile_16 : decode cX2_isFile 16 = .ok (.iconst 0, 1) := by decide +kernel
theorem dX2_isFile_17 : decode cX2_isFile 17 = .ok (.ireturn, 1) := by decide +kernel
theorem dX2_isRank_0 : decode cX2_isRank 0 = .ok (.iload_n 0, 1) := by decide +kernel
theorem dX2_isRank_1 : decode cX2_isRank 1 = .ok (.bipush 49, 2) := by decide +kernel
theorem dX2_isRank_3 : decode cX2_isRank 3 = .ok (.if_icmp .lt 13, 3) := by decide +kernel
theorem dX2_isRank_6 : decode cX2_isRank 6 = .ok (.iload_n 0, 1) := by decide +kernel
theorem dX2_isRank_7 : decode cX2_isRank 7 = .ok (.bipush 57, 2) := by decide +kernel
theorem dX2_isRank_9 : decode cX2_isRank 9 = .ok (.if_icmp .ge 7, 3) := by decide +kernel
theorem dX2_isRank_12 : decode cX2_isRank 12 = .ok (.iconst 1, 1) := by decide +kernel
theorem dX2_isRank_13 : decode cX2_isRank 13 = .ok (.goto 4, 3) := by decide +kernel
theorem dX2_isRank_16 : decode cX2_isRank 16 = .ok (.iconst 0, 1) := by decide +kernel
theorem dX2_isRank_17 : decode cX2_isRank 17 = .ok (.ireturn, 1) := by decide +kernel
theorem dX2_isSign_0 : decode cX2_isSign 0 = .ok (.iload_n 0, 1) := by decide +kernel
theorem dX2_isSign_1 : decode cX2_isSign 1 = .ok (.bipush 43, 2) := by decide +kernel
theorem dX2_isSign_3 : decode cX2_isSign 3 = .ok (.if_icmp .eq 9, 3) := by decide +kernel
theorem dX2_isSign_6 : decode cX2_isSign 6 = .ok (.iload_n 0, 1) := by decide +kernel
theorem dX2_isSign_7 : decode cX2_isSign 7 = .ok (.bipush 35, 2) := by decide +kernel
theorem dX2_isSign_9 : decode cX2_isSign 9 = .ok (.if_icmp .ne 7, 3) := by decide +kernel
theorem dX2_isSign_12 : decode cX2_isSign 12 = .ok (.iconst 1, 1) := by decide +kernel
theorem dX2_isSign_13 : decode cX2_isSign 13 = .ok (.goto 4, 3) := by decide +kernel
theorem dX2_isSign_16 : decode cX2_isSign 16 = .ok (.iconst 0, 1) := by decide +kernel
theorem dX2_isSign_17 : decode cX2_isSign 17 = .ok (.ireturn, 1) := by decide +kernel
theorem dX3_init_0 : decode cX3_init 0 = .ok (.aload_n 0, 1) := by decide +kernel
theorem dX3_init_1 : decode cX3_init 1 = .ok (.invokespecial 3, 3) := by decide +kernel
theorem dX3_init_4 : decode cX3_init 4 = .ok (.aload_n 0, 1) := by decide +kernel
theorem dX3_init_5 : decode cX3_init 5 = .ok (.sipush 2000, 3) := by decide +kernel
theorem dX3_init_8 : decode cX3_init 8 = .ok (.newarray .int, 2) := by decide +kernel
theorem dX3_init_10 : decode cX3_init 10 = .ok (.putfield 9, 3) := by decide +kernel
theorem dX3_init_13 : decode cX3_init 13 = .ok (.aload_n 0, 1) := by decide +kernel
theorem dX3_init_14 : decode cX3_init 14 = .ok (.iconst 0, 1) := by decide +kernel
theorem dX3_init_15 : decode cX3_init 15 = .ok (.putfield 15, 3) := by decide +kernel
theorem dX3_init_18 : decode cX3_init 18 = .ok (.aload_n 0, 1) := by decide +kernel
theorem dX3_init_19 : decode cX3_init 19 = .ok (.iconst 0, 1) := by decide +kernel
theorem dX3_init_20 : decode cX3_init 20 = .ok (.putfield 19, 3) := by decide +kernel
theorem dX3_init_23 : decode cX3_init 23 = .ok (.return_, 1) := by decide +kernel
theorem dX3_size_0 : decode cX3_size 0 = .ok (.aload_n 0, 1) := by decide +kernel
theorem dX3_size_1 : decode cX3_size 1 = .ok (.getfield 15, 3) := by decide +kernel
theorem dX3_size_4 : decode cX3_size 4 = .ok (.ireturn, 1) := by decide +kernel
theorem dX3_hasSpilled_0 : decode cX3_hasSpilled 0 = .ok (.aload_n 0, 1) := by decide +kernel
theorem dX3_hasSpilled_1 : decode cX3_hasSpilled 1 = .ok (.getfield 19, 3) := by decide +kernel
theorem dX3_hasSpilled_4 : decode cX3_hasSpilled 4 = .ok (.ireturn, 1) := by decide +kernel
theorem dX3_get_0 : decode cX3_get 0 = .ok (.iload_n 1, 1) := by decide +kernel
theorem dX3_get_1 : decode cX3_get 1 = .ok (.ifCond .lt 20, 3) := by decide +kernel
theorem dX3_get_4 : decode cX3_get 4 = .ok (.iload_n 1, 1) := by decide +kernel
theorem dX3_get_5 : decode cX3_get 5 = .ok (.aload_n 0, 1) := by decide +kernel
theorem dX3_get_6 : decode cX3_get 6 = .ok (.getfield 15, 3) := by decide +kernel
theorem dX3_get_9 : decode cX3_get 9 = .ok (.if_icmp .ge 12, 3) := by decide +kernel
theorem dX3_get_12 : decode cX3_get 12 = .ok (.aload_n 0, 1) := by decide +kernel
theorem dX3_get_13 : decode cX3_get 13 = .ok (.getfield 9, 3) := by decide +kernel
theorem dX3_get_16 : decode cX3_get 16 = .ok (.iload_n 1, 1) := by decide +kernel
theorem dX3_get_17 : decode cX3_get 17 = .ok (.iaload, 1) := by decide +kernel
theorem dX3_get_18 : decode cX3_get 18 = .ok (.goto 4, 3) := by decide +kernel
theorem dX3_get_21 : decode cX3_get 21 = .ok (.iconst (-1), 1) := by decide +kernel
theorem dX3_get_22 : decode cX3_get 22 = .ok (.ireturn, 1) := by decide +kernel
theorem dX3_wipe_0 : decode cX3_wipe 0 = .ok (.aload_n 0, 1) := by decide +kernel
theorem dX3_wipe_1 : decode cX3_wipe 1 = .ok (.iconst 0, 1) := by decide +kernel
theorem dX3_wipe_2 : decode cX3_wipe 2 = .ok (.putfield 15, 3) := by decide +kernel
theorem dX3_wipe_5 : decode cX3_wipe 5 = .ok (.aload_n 0, 1) := by decide +kernel
theorem dX3_wipe_6 : decode cX3_wipe 6 = .ok (.iconst 0, 1) := by decide +kernel
theorem dX3_wipe_7 : decode cX3_wipe 7 = .ok (.putfield 19, 3) := by decide +kernel
theorem dX3_wipe_10 : decode cX3_wipe 10 = .ok (.return_, 1) := by decide +kernel
theorem dX3_append_0 : decode cX3_append 0 = .ok (.aload_n 0, 1) := by decide +kernel
theorem dX3_append_1 : decode cX3_append 1 = .ok (.getfield 15, 3) := by decide +kernel
theorem dX3_append_4 : decode cX3_append 4 = .ok (.aload_n 0, 1) := by decide +kernel
theorem dX3_append_5 : decode cX3_append 5 = .ok (.getfield 9, 3) := by decide +kernel
theorem dX3_append_8 : decode cX3_append 8 = .ok (.arraylength, 1) := by decide +kernel
theorem dX3_append_9 : decode cX3_append 9 = .ok (.if_icmp .ge 26, 3) := by decide +kernel
theorem dX3_append_12 : decode cX3_append 12 = .ok (.aload_n 0, 1) := by decide +kernel
theorem dX3_append_13 : decode cX3_append 13 = .ok (.getfield 9, 3) := by decide +kernel
theorem dX3_append_16 : decode cX3_append 16 = .ok (.aload_n 0, 1) := by decide +kernel
theorem dX3_append_17 : decode cX3_append 17 = .ok (.getfield 15, 3) := by decide +kernel
theorem dX3_append_20 : decode cX3_append 20 = .ok (.iload_n 1, 1) := by decide +kernel
theorem dX3_append_21 : decode cX3_append 21 = .ok (.iastore, 1) := by decide +kernel
theorem dX3_append_22 : decode cX3_append 22 = .ok (.aload_n 0, 1) := by decide +kernel
theorem dX3_append_23 : decode cX3_append 23 = .ok (.dup, 1) := by decide +kernel
theorem dX3_append_24 : decode cX3_append 24 = .ok (.getfield 15, 3) := by decide +kernel
theorem dX3_append_27 : decode cX3_append 27 = .ok (.iconst 1, 1) := by decide +kernel
theorem dX3_append_28 : decode cX3_append 28 = .ok (.iadd, 1) := by decide +kernel
theorem dX3_append_29 : decode cX3_append 29 = .ok (.putfield 15, 3) := by decide +kernel
theorem dX3_append_32 : decode cX3_append 32 = .ok (.goto 8, 3) := by decide +kernel
theorem dX3_append_35 : decode cX3_append 35 = .ok (.aload_n 0, 1) := by decide +kernel
theorem dX3_append_36 : decode cX3_append 36 = .ok (.iconst 1, 1) := by decide +kernel
theorem dX3_append_37 : decode cX3_append 37 = .ok (.putfield 19, 3) := by decide +kernel
theorem dX3_append_40 : decode cX3_append 40 = .ok (.return_, 1) := by decide +kernel
set_option maxRecDepth 20000 in
theorem ggX3_separate_X3_get : GoodIn wsX3_separate wsX3_get := goodIn_r _ [6, 1, 7, 13, 14, 15] (by decide +kernel) (by decide +kernel)
set_option maxRecDepth 20000 in
theorem gX3_separate_X3_get : GoodIn wsX3_separate (wsV RX3 23 RX3 yX3_get wsX3_get) := goodIn_app (goodIn_of _ (by decide +kernel)) ggX3_separate_X3_get
set_option maxRecDepth 20000 in
theorem ggX3_separate_X3_append : GoodIn wsX3_separate wsX3_append := goodIn_r _ [11, 1, 7, 12, 13, 14, 15] (by decide +kernel) (by decide +kernel)
set_option maxRecDepth 20000 in
theorem gX3_separate_X3_append : GoodIn wsX3_separate (wsV RX3 27 RX3 yX3_append wsX3_append) := goodIn_app (goodIn_of _ (by decide +kernel)) ggX3_separate_X3_append
theorem dX3_separate_0 : decode cX3_separate 0 = .ok (.aload_n 0, 1) := by decide +kernel
theorem dX3_separate_1 : decode cX3_separate 1 = .ok (.getfield 15, 3) := by decide +kernel
theorem dX3_separate_4 : decode cX3_separate 4 = .ok (.ifCond .le 24, 3) := by decide +kernel
theorem dX3_separate_7 : decode cX3_separate 7 = .ok (.aload_n 0, 1) := by decide +kernel
theorem dX3_separate_8 : decode cX3_separate 8 = .ok (.aload_n 0, 1) := by decide +kernel
theorem dX3_separate_9 : decode cX3_separate 9 = .ok (.getfield 15, 3) := by decide +kernel
theorem dX3_separate_12 : decode cX3_separate 12 = .ok (.iconst 1, 1) := by decide +kernel
theorem dX3_separate_13 : decode cX3_separate 13 = .ok (.isub, 1) := by decide +kernel
theorem dX3_separate_14 : decode cX3_separate 14 = .ok (.invokevirtual 23, 3) := by decide +kernel
theorem dX3_separate_17 : decode cX3_separate 17 = .ok (.bipush 40, 2) := by decide +kernel
theorem dX3_separate_19 : decode cX3_separate 19 = .ok (.if_icmp .eq 9, 3) := by decide +kernel
theorem dX3_separate_22 : decode cX3_separate 22 = .ok (.aload_n 0, 1) := by decide +kernel
theorem dX3_separate_23 : decode cX3_separate 23 = .ok (.bipush 32, 2) := by decide +kernel
theorem dX3_separate_25 : decode cX3_separate 25 = .ok (.invokevirtual 27, 3) := by decide +kernel
theorem dX3_separate_28 : decode cX3_separate 28 = .ok (.return_, 1) := by decide +kernel
set_option maxRecDepth 20000 in
theorem ggX3_isOfWord_X3_get : GoodIn wsX3_isOfWord wsX3_get := goodIn_r _ [5, 6, 7, 8, 9, 10] (by decide +kernel) (by decide +kernel)
set_option maxRecDepth 20000 in
theorem gX3_isOfWord_X3_get : GoodIn wsX3_isOfWord (wsV RX3 23 RX3 yX3_get wsX3_get) := goodIn_app (goodIn_of _ (by decide +kernel)) ggX3_isOfWord_X3_get
theorem dX3_isOfWord_0 : decode cX3_isOfWord 0 = .ok (.aload_n 0, 1) := by decide +kernel
theorem dX3_isOfWord_1 : decode cX3_isOfWord 1 = .ok (.iload_n 1, 1) := by decide +kernel
theorem dX3_isOfWord_2 : decode cX3_isOfWord 2 = .ok (.invokevirtual 23, 3) := by decide +kernel
theorem dX3_isOfWord_5 : decode cX3_isOfWord 5 = .ok (.istore_n 2, 1) := by decide +kernel
theorem dX3_isOfWord_6 : decode cX3_isOfWord 6 = .ok (.iload_n 2, 1) := by decide +kernel
theorem dX3_isOfWord_7 : decode cX3_isOfWord 7 = .ok (.iconst (-1), 1) := by decide +kernel
theorem dX3_isOfWord_8 : decode cX3_isOfWord 8 = .ok (.if_icmp .eq 25, 3) := by decide +kernel
theorem dX3_isOfWord_11 : decode cX3_isOfWord 11 = .ok (.iload_n 2, 1) := by decide +kernel
theorem dX3_isOfWord_12 : decode cX3_isOfWord 12 = .ok (.bipush 32, 2) := by decide +kernel
theorem dX3_isOfWord_14 : decode cX3_isOfWord 14 = .ok (.if_icmp .eq 19, 3) := by decide +kernel
theorem dX3_isOfWord_17 : decode cX3_isOfWord 17 = .ok (.iload_n 2, 1) := by decide +kernel
theorem dX3_isOfWord_18 : decode cX3_isOfWord 18 = .ok (.bipush 40, 2) := by decide +kernel
theorem dX3_isOfWord_20 : decode cX3_isOfWord 20 = .ok (.if_icmp .eq 13, 3) := by decide +kernel
theorem dX3_isOfWord_23 : decode cX3_isOfWord 23 = .ok (.iload_n 2, 1) := by decide +kernel
theorem dX3_isOfWord_24 : decode cX3_isOfWord 24 = .ok (.bipush 41, 2) := by decide +kernel
theorem dX3_isOfWord_26 : decode cX3_isOfWord 26 = .ok (.if_icmp .eq 7, 3) := by decide +kernel
theorem dX3_isOfWord_29 : decode cX3_isOfWord 29 = .ok (.iconst 1, 1) := by decide +kernel
theorem dX3_isOfWord_30 : decode cX3_isOfWord 30 = .ok (.goto 4, 3) := by decide +kernel
theorem dX3_isOfWord_33 : decode cX3_isOfWord 33 = .ok (.iconst 0, 1) := by decide +kernel
theorem dX3_isOfWord_34 : decode cX3_isOfWord 34 = .ok (.ireturn, 1) := by decide +kernel
set_option maxRecDepth 20000 in
theorem ggX3_isWordStart_X3_isOfWord : GoodIn wsX3_isWordStart wsX3_isOfWord := goodIn_r _ [5, 6, 7, 8, 4, 9, 10, 11, 12, 13, 14] (by decide +kernel) (by decide +kernel)
set_option maxRecDepth 20000 in
theorem gX3_isWordStart_X3_isOfWord : GoodIn wsX3_isWordStart (wsV RX3 31 RX3 yX3_isOfWord wsX3_isOfWord) := goodIn_app (goodIn_of _ (by decide +kernel)) ggX3_isWordStart_X3_isOfWord
theorem dX3_isWordStart_0 : decode cX3_isWordStart 0 = .ok (.aload_n 0, 1) := by decide +kernel
theorem dX3_isWordStart_1 : decode cX3_isWordStart 1 = .ok (.iload_n 1, 1) := by decide +kernel
theorem dX3_isWordStart_2 : decode cX3_isWordStart 2 = .ok (.invokevirtual 31, 3) := by decide +kernel
theorem dX3_isWordStart_5 : decode cX3_isWordStart 5 = .ok (.ifCond .eq 17, 3) := by decide +kernel
theorem dX3_isWordStart_8 : decode cX3_isWordStart 8 = .ok (.aload_n 0, 1) := by decide +kernel
theorem dX3_isWordStart_9 : decode cX3_isWordStart 9 = .ok (.iload_n 1, 1) := by decide +kernel
theorem dX3_isWordStart_10 : decode cX3_isWordStart 10 = .ok (.iconst 1, 1) := by decide +kernel
theorem dX3_isWordStart_11 : decode cX3_isWordStart 11 = .ok (.isub, 1) := by decide +kernel
theorem dX3_isWordStart_12 : decode cX3_isWordStart 12 = .ok (.invokevirtual 31, 3) := by decide +kernel
theorem dX3_isWordStart_15 : decode cX3_isWordStart 15 = .ok (.ifCond .ne 7, 3) := by decide +kernel
theorem dX3_isWordStart_18 : decode cX3_isWordStart 18 = .ok (.iconst 1, 1) := by decide +kernel
theorem dX3_isWordStart_19 : decode cX3_isWordStart 19 = .ok (.goto 4, 3) := by decide +kernel
theorem dX3_isWordStart_22 : decode cX3_isWordStart 22 = .ok (.iconst 0, 1) := by decide +kernel
theorem dX3_isWordStart_23 : decode cX3_isWordStart 23 = .ok (.ireturn, 1) := by decide +kernel
set_option maxRecDepth 20000 in
theorem ggX3_wordEnd_X3_isOfWord : GoodIn wsX3_wordEnd wsX3_isOfWord := goodIn_r _ [6, 7, 8, 9, 5, 10, 1, 11, 12, 13, 14] (by decide +kernel) (by decide +kernel)
set_option maxRecDepth 20000 in
theorem gX3_wordEnd_X3_isOfWord : GoodIn wsX3_wordEnd (wsV RX3 31 RX3 yX3_isOfWord wsX3_isOfWord) := goodIn_app (goodIn_of _ (by decide +kernel)) ggX3_wordEnd_X3_isOfWord
theorem dX3_wordEnd_0 : decode cX3_wordEnd 0 = .ok (.iload_n 1, 1) := by decide +kernel
theorem dX3_wordEnd_1 : decode cX3_wordEnd 1 = .ok (.istore_n 2, 1) := by decide +kernel
theorem dX3_wordEnd_2 : decode cX3_wordEnd 2 = .ok (.iload_n 2, 1) := by decide +kernel
theorem dX3_wordEnd_3 : decode cX3_wordEnd 3 = .ok (.aload_n 0, 1) := by decide +kernel
theorem dX3_wordEnd_4 : decode cX3_wordEnd 4 = .ok (.getfield 15, 3) := by decide +kernel
theorem dX3_wordEnd_7 : decode cX3_wordEnd 7 = .ok (.if_icmp .ge 17, 3) := by decide +kernel
theorem dX3_wordEnd_10 : decode cX3_wordEnd 10 = .ok (.aload_n 0, 1) := by decide +kernel
theorem dX3_wordEnd_11 : decode cX3_wordEnd 11 = .ok (.iload_n 2, 1) := by decide +kernel
theorem dX3_wordEnd_12 : decode cX3_wordEnd 12 = .ok (.invokevirtual 31, 3) := by decide +kernel
theorem dX3_wordEnd_15 : decode cX3_wordEnd 15 = .ok (.ifCond .eq 9, 3) := by decide +kernel
theorem dX3_wordEnd_18 : decode cX3_wordEnd 18 = .ok (.iinc 2 1, 3) := by decide +kernel
theorem dX3_wordEnd_21 : decode cX3_wordEnd 21 = .ok (.goto (-19), 3) := by decide +kernel
theorem dX3_wordEnd_24 : decode cX3_wordEnd 24 = .ok (.iload_n 2, 1) := by decide +kernel
theorem dX3_wordEnd_25 : decode cX3_wordEnd 25 = .ok (.ireturn, 1) := by decide +kernel
set_option maxRecDepth 20000 in
theorem ggX4_init_X4_occupy : GoodIn wsX4_init wsX4_occupy := goodIn_r _ [18, 13, 5, 6, 7, 8, 9, 10, 11, 12, 19, 20, 21, 22, 23, 24, 25, 26, 27] (by decide +kernel) (by decide +kernel)
set_option maxRecDepth 20000 in
theorem gX4_init_X4_occupy : GoodIn wsX4_init (wsV RX4 40 RX4 yX4_occupy wsX4_occupy) := goodIn_app (goodIn_of _ (by decide +kernel)) ggX4_init_X4_occupy
theorem dX4_init_0 : decode cX4_init 0 = .ok (.aload_n 0, 1) := by decide +kernel
theorem dX4_init_1 : decode cX4_init 1 = .ok (.invokespecial 3, 3) := by decide +kernel
theorem dX4_init_4 : decode cX4_init 4 = .ok (.aload_n 0, 1) := by decide +kernel
theorem dX4_init_5 : decode cX4_init 5 = .ok (.sipush 200, 3) := by decide +kernel
theorem dX4_init_8 : decode cX4_init 8 = .ok (.newarray .int, 2) := by decide +kernel
theorem dX4_init_10 : decode cX4_init 10 = .ok (.putfield 9, 3) := by decide +kernel
theorem dX4_init_13 : decode cX4_init 13 = .ok (.aload_n 0, 1) := by decide +kernel
theorem dX4_init_14 : decode cX4_init 14 = .ok (.sipush 200, 3) := by decide +kernel
theorem dX4_init_17 : decode cX4_init 17 = .ok (.newarray .int, 2) := by decide +kernel
theorem dX4_init_19 : decode cX4_init 19 = .ok (.putfield 15, 3) := by decide +kernel
theorem dX4_init_22 : decode cX4_init 22 = .ok (.aload_n 0, 1) := by decide +kernel
theorem dX4_init_23 : decode cX4_init 23 = .ok (.sipush 200, 3) := by decide +kernel
theorem dX4_init_26 : decode cX4_init 26 = .ok (.newarray .int, 2) := by decide +kernel
theorem dX4_init_28 : decode cX4_init 28 = .ok (.putfield 18, 3) := by decide +kernel
theorem dX4_init_31 : decode cX4_init 31 = .ok (.aload_n 0, 1) := by decide +kernel
theorem dX4_init_32 : decode cX4_init 32 = .ok (.sipush 200, 3) := by decide +kernel
theorem dX4_init_35 : decode cX4_init 35 = .ok (.newarray .int, 2) := by decide +kernel
theorem dX4_init_37 : decode cX4_init 37 = .ok (.putfield 21, 3) := by decide +kernel
theorem dX4_init_40 : decode cX4_init 40 = .ok (.aload_n 0, 1) := by decide +kernel
theorem dX4_init_41 : decode cX4_init 41 = .ok (.sipush 200, 3) := by decide +kernel
theorem dX4_init_44 : decode cX4_init 44 = .ok (.newarray .int, 2) := by decide +kernel
theorem dX4_init_46 : decode cX4_init 46 = .ok (.putfield 24, 3) := by decide +kernel
theorem dX4_init_49 : decode cX4_init 49 = .ok (.aload_n 0, 1) := by decide +kernel
theorem dX4_init_50 : decode cX4_init 50 = .ok (.sipush 200, 3) := by decide +kernel
theorem dX4_init_53 : decode cX4_init 53 = .ok (.newarray .int, 2) := by decide +kernel
theorem dX4_init_55 : decode cX4_init 55 = .ok (.putfield 27, 3) := by decide +kernel
theorem dX4_init_58 : decode cX4_init 58 = .ok (.aload_n 0, 1) := by decide +kernel
theorem dX4_init_59 : decode cX4_init 59 = .ok (.sipush 200, 3) := by decide +kernel
theorem dX4_init_62 : decode cX4_init 62 = .ok (.newarray .int, 2) := by decide +kernel
theorem dX4_init_64 : decode cX4_init 64 = .ok (.putfield 30, 3) := by decide +kernel
theorem dX4_init_67 : decode cX4_init 67 = .ok (.aload_n 0, 1) := by decide +kernel
theorem dX4_init_68 : decode cX4_init 68 = .ok (.sipush 200, 3) := by decide +kernel
theorem dX4_init_71 : decode cX4_init 71 = .ok (.newarray .int, 2) := by decide +kernel
theorem dX4_init_73 : decode cX4_init 73 = .ok (.putfield 33, 3) := by decide +kernel
theorem dX4_init_76 : decode cX4_init 76 = .ok (.aload_n 0, 1) := by decide +kernel
theorem dX4_init_77 : decode cX4_init 77 = .ok (.iconst 0, 1) := by decide +kernel
theorem dX4_init_78 : decode cX4_init 78 = .ok (.putfield 36, 3) := by decide +kernel
theorem dX4_init_81 : decode cX4_init 81 = .ok (.aload_n 0, 1) := by decide +kernel
theorem dX4_init_82 : decode cX4_init 82 = .ok (.iconst (-1), 1) := by decide +kernel
theorem dX4_init_83 : decode cX4_init 83 = .ok (.iconst (-1), 1) := by decide +kernel
theorem dX4_init_84 : decode cX4_init 84 = .ok (.iconst (-1), 1) := by decide +kernel
theorem dX4_init_85 : decode cX4_init 85 = .ok (.iconst 0, 1) := by decide +kernel
theorem dX4_init_86 : decode cX4_init 86 = .ok (.invokevirtual 40, 3) := by decide +kernel
theorem dX4_init_89 : decode cX4_init 89 = .ok (.pop, 1) := by decide +kernel
theorem dX4_init_90 : decode cX4_init 90 = .ok (.return_, 1) := by decide +kernel
theorem dX4_occupy_0 : decode cX4_occupy 0 = .ok (.aload_n 0, 1) := by decide +kernel
theorem dX4_occupy_1 : decode cX4_occupy 1 = .ok (.getfield 36, 3) := by decide +kernel
theorem dX4_occupy_4 : decode cX4_occupy 4 = .ok (.sipush 200, 3) := by decide +kernel
theorem dX4_occupy_7 : decode cX4_occupy 7 = .ok (.if_icmp .lt 5, 3) := by decide +kernel
theorem dX4_occupy_10 : decode cX4_occupy 10 = .ok (.iconst (-1), 1) := by decide +kernel
theorem dX4_occupy_11 : decode cX4_occupy 11 = .ok (.ireturn, 1) := by decide +kernel
theorem dX4_occupy_12 : decode cX4_occupy 12 = .ok (.aload_n 0, 1) := by decide +kernel
theorem dX4_occupy_13 : decode cX4_occupy 13 = .ok (.getfield 9, 3) := by decide +kernel
theorem dX4_occupy_16 : decode cX4_occupy 16 = .ok (.aload_n 0, 1) := by decide +kernel
theorem dX4_occupy_17 : decode cX4_occupy 17 = .ok (.getfield 36, 3) := by decide +kernel
theorem dX4_occupy_20 : decode cX4_occupy 20 = .ok (.iload_n 1, 1) := by decide +kernel
theorem dX4_occupy_21 : decode cX4_occupy 21 = .ok (.iastore, 1) := by decide +kernel
theorem dX4_occupy_22 : decode cX4_occupy 22 = .ok (.aload_n 0, 1) := by decide +kernel
theorem dX4_occupy_23 : decode cX4_occupy 23 = .ok (.getfield 15, 3) := by decide +kernel
theorem dX4_occupy_26 : decode cX4_occupy 26 = .ok (.aload_n 0, 1) := by decide +kernel
theorem dX4_occupy_27 : decode cX4_occupy 27 = .ok (.getfield 36, 3) := by decide +kernel
theorem dX4_occupy_30 : decode cX4_occupy 30 = .ok (.iload_n 2, 1) := by decide +kernel
theorem dX4_occupy_31 : decode cX4_occupy 31 = .ok (.iastore, 1) := by decide +kernel
theorem dX4_occupy_32 : decode cX4_occupy 32 = .ok (.aload_n 0, 1) := by decide +kernel
theorem dX4_occupy_33 : decode cX4_occupy 33 = .ok (.getfield 18, 3) := by decide +kernel
theorem dX4_occupy_36 : decode cX4_occupy 36 = .ok (.aload_n 0, 1) := by decide +kernel
theorem dX4_occupy_37 : decode cX4_occupy 37 = .ok (.getfield 36, 3) := by decide +kernel
theorem dX4_occupy_40 : decode cX4_occupy 40 = .ok (.iload_n 3, 1) := by decide +kernel
theorem dX4_occupy_41 : decode cX4_occupy 41 = .ok (.iastore, 1) := by decide +kernel
theorem dX4_occupy_42 : decode cX4_occupy 42 = .ok (.aload_n 0, 1) := by decide +kernel
theorem dX4_occupy_43 : decode cX4_occupy 43 = .ok (.getfield 21, 3) := by decide +kernel
theorem dX4_occupy_46 : decode cX4_occupy 46 = .ok (.aload_n 0, 1) := by decide +kernel
theorem dX4_occupy_47 : decode cX4_occupy 47 = .ok (.getfield 36, 3) := by decide +kernel
theorem dX4_occupy_50 : decode cX4_occupy 50 = .ok (.iconst (-1), 1) := by decide +kernel
theorem dX4_occupy_51 : decode cX4_occupy 51 = .ok (.iastore, 1) := by decide +kernel
theorem dX4_occupy_52 : decode cX4_occupy 52 = .ok (.aload_n 0, 1) := by decide +kernel
theorem dX4_occupy_53 : decode cX4_occupy 53 = .ok (.getfield 24, 3) := by decide +kernel
theorem dX4_occupy_56 : decode cX4_occupy 56 = .ok (.aload_n 0, 1) := by decide +kernel
theorem dX4_occupy_57 : decode cX4_occupy 57 = .ok (.getfield 36, 3) := by decide +kernel
theorem dX4_occupy_60 : decode cX4_occupy 60 = .ok (.iload 4, 2) := by decide +kernel
theorem dX4_occupy_62 : decode cX4_occupy 62 = .ok (.iastore, 1) := by decide +kernel
theorem dX4_occupy_63 : decode cX4_occupy 63 = .ok (.aload_n 0, 1) := by decide +kernel
theorem dX4_occupy_64 : decode cX4_occupy 64 = .ok (.getfield 27, 3) := by decide +kernel
theorem dX4_occupy_67 : decode cX4_occupy 67 = .ok (.aload_n 0, 1) := by decide +kernel
theorem dX4_occupy_68 : decode cX4_occupy 68 = .ok (.getfield 36, 3) := by decide +kernel
theorem dX4_occupy_71 : decode cX4_occupy 71 = .ok (.iconst 0, 1) := by decide +kernel
theorem dX4_occupy_72 : decode cX4_occupy 72 = .ok (.iastore, 1) := by decide +kernel
theorem dX4_occupy_73 : decode cX4_occupy 73 = .ok (.aload_n 0, 1) := by decide +kernel
theorem dX4_occupy_74 : decode cX4_occupy 74 = .ok (.getfield 30, 3) := by decide +kernel
theorem dX4_occupy_77 : decode cX4_occupy 77 = .ok (.aload_n 0, 1) := by decide +kernel
theorem dX4_occupy_78 : decode cX4_occupy 78 = .ok (.getfield 36, 3) := by decide +kernel
theorem dX4_occupy_81 : decode cX4_occupy 81 = .ok (.iconst (-1), 1) := by decide +kernel
theorem dX4_occupy_82 : decode cX4_occupy 82 = .ok (.iastore, 1) := by decide +kernel
theorem dX4_occupy_83 : decode cX4_occupy 83 = .ok (.aload_n 0, 1) := by decide +kernel
theorem dX4_occupy_84 : decode cX4_occupy 84 = .ok (.getfield 33, 3) := by decide +kernel
theorem dX4_occupy_87 : decode cX4_occupy 87 = .ok (.aload_n 0, 1) := by decide +kernel
theorem dX4_occupy_88 : decode cX4_occupy 88 = .ok (.getfield 36, 3) := by decide +kernel
theorem dX4_occupy_91 : decode cX4_occupy 91 = .ok (.iconst (-1), 1) := by decide +kernel
theorem dX4_occupy_92 : decode cX4_occupy 92 = .ok (.iastore, 1) := by decide +kernel
theorem dX4_occupy_93 : decode cX4_occupy 93 = .ok (.aload_n 0, 1) := by decide +kernel
theorem dX4_occupy_94 : decode cX4_occupy 94 = .ok (.dup, 1) := by decide +kernel
theorem dX4_occupy_95 : decode cX4_occupy 95 = .ok (.getfield 36, 3) := by decide +kernel
theorem dX4_occupy_98 : decode cX4_occupy 98 = .ok (.iconst 1, 1) := by decide +kernel
theorem dX4_occupy_99 : decode cX4_occupy 99 = .ok (.iadd, 1) := by decide +kernel
theorem dX4_occupy_100 : decode cX4_occupy 100 = .ok (.putfield 36, 3) := by decide +kernel
theorem dX4_occupy_103 : decode cX4_occupy 103 = .ok (.aload_n 0, 1) := by decide +kernel
theorem dX4_occupy_104 : decode cX4_occupy 104 = .ok (.getfield 36, 3) := by decide +kernel
theorem dX4_occupy_107 : decode cX4_occupy 107 = .ok (.iconst 1, 1) := by decide +kernel
theorem dX4_occupy_108 : decode cX4_occupy 108 = .ok (.isub, 1) := by decide +kernel
theorem dX4_occupy_109 : decode cX4_occupy 109 = .ok (.ireturn, 1) := by decide +kernel
theorem dX4_size_0 : decode cX4_size 0 = .ok (.aload_n 0, 1) := by decide +kernel
theorem dX4_size_1 : decode cX4_size 1 = .ok (.getfield 36, 3) := by decide +kernel
theorem dX4_size_4 : decode cX4_size 4 = .ok (.ireturn, 1) := by decide +kernel
theorem dX4_has_0 : decode cX4_has 0 = .ok (.iload_n 1, 1) := by decide +kernel
theorem dX4_has_1 : decode cX4_has 1 = .ok (.ifCond .lt 15, 3) := by decide +kernel
theorem dX4_has_4 : decode cX4_has 4 = .ok (.iload_n 1, 1) := by decide +kernel
theorem dX4_has_5 : decode cX4_has 5 = .ok (.aload_n 0, 1) := by decide +kernel
theorem dX4_has_6 : decode cX4_has 6 = .ok (.getfield 36, 3) := by decide +kernel
theorem dX4_has_9 : decode cX4_has 9 = .ok (.if_icmp .ge 7, 3) := by decide +kernel
theorem dX4_has_12 : decode cX4_has 12 = .ok (.iconst 1, 1) := by decide +kernel
theorem dX4_has_13 : decode cX4_has 13 = .ok (.goto 4, 3) := by decide +kernel
theorem dX4_has_16 : decode cX4_has 16 = .ok (.iconst 0, 1) := by decide +kernel
theorem dX4_has_17 : decode cX4_has 17 = .ok (.ireturn, 1) := by decide +kernel
set_option maxRecDepth 20000 in
theorem ggX4_above_X4_has : GoodIn wsX4_above wsX4_has := goodIn_r _ [6, 7, 8, 9, 10, 11, 12, 13, 14, 15, 16] (by decide +kernel) (by decide +kernel)
set_option maxRecDepth 20000 in
theorem gX4_above_X4_has : GoodIn wsX4_above (wsV RX4 44 RX4 yX4_has wsX4_has) := goodIn_app (goodIn_of _ (by decide +kernel)) ggX4_above_X4_has
theorem dX4_above_0 : decode cX4_above 0 = .ok (.aload_n 0, 1) := by decide +kernel
theorem dX4_above_1 : decode cX4_above 1 = .ok (.iload_n 1, 1) := by decide +kernel
theorem dX4_above_2 : decode cX4_above 2 = .ok (.invokevirtual 44, 3) := by decide +kernel
theorem dX4_above_5 : decode cX4_above 5 = .ok (.ifCond .eq 12, 3) := by decide +kernel
theorem dX4_above_8 : decode cX4_above 8 = .ok (.aload_n 0, 1) := by decide +kernel
theorem dX4_above_9 : decode cX4_above 9 = .ok (.getfield 9, 3) := by decide +kernel
theorem dX4_above_12 : decode cX4_above 12 = .ok (.iload_n 1, 1) := by decide +kernel
theorem dX4_above_13 : decode cX4_above 13 = .ok (.iaload, 1) := by decide +kernel
theorem dX4_above_14 : decode cX4_above 14 = .ok (.goto 4, 3) := by decide +kernel
theorem dX4_above_17 : decode cX4_above 17 = .ok (.iconst (-1), 1) := by decide +kernel
theorem dX4_above_18 : decode cX4_above 18 = .ok (.ireturn, 1) := by decide +kernel
set_option maxRecDepth 20000 in
theorem ggX4_from_X4_has : GoodIn wsX4_from wsX4_has := goodIn_r _ [6, 7, 8, 9, 10, 11, 12, 13, 14, 15, 16] (by decide +kernel) (by decide +kernel)
set_option maxRecDepth 20000 in
theorem gX4_from_X4_has : GoodIn wsX4_from (wsV RX4 44 RX4 yX4_has wsX4_has) := goodIn_app (goodIn_of _ (by decide +kernel)) ggX4_from_X4_has
theorem dX4_from_0 : decode cX4_from 0 = .ok (.aload_n 0, 1) := by decide +kernel
theorem dX4_from_1 : decode cX4_from 1 = .ok (.iload_n 1, 1) := by decide +kernel
theorem dX4_from_2 : decode cX4_from 2 = .ok (.invokevirtual 44, 3) := by decide +kernel
theorem dX4_from_5 : decode cX4_from 5 = .ok (.ifCond .eq 12, 3) := by decide +kernel
theorem dX4_from_8 : decode cX4_from 8 = .ok (.aload_n 0, 1) := by decide +kernel
theorem dX4_from_9 : decode cX4_from 9 = .ok (.getfield 15, 3) := by decide +kernel
theorem dX4_from_12 : decode cX4_from 12 = .ok (.iload_n 1, 1) := by decide +kernel
theorem dX4_from_13 : decode cX4_from 13 = .ok (.iaload, 1) := by decide +kernel
theorem dX4_from_14 : decode cX4_from 14 = .ok (.goto 4, 3) := by decide +kernel
theorem dX4_from_17 : decode cX4_from 17 = .ok (.iconst (-1), 1) := by decide +kernel
theorem dX4_from_18 : decode cX4_from 18 = .ok (.ireturn, 1) := by decide +kernel
set_option maxRecDepth 20000 in
theorem ggX4_to_X4_has : GoodIn wsX4_to wsX4_has := goodIn_r _ [6, 7, 8, 9, 10, 11, 12, 13, 14, 15, 16] (by decide +kernel) (by decide +kernel)
set_option maxRecDepth 20000 in
theorem gX4_to_X4_has : GoodIn wsX4_to (wsV RX4 44 RX4 yX4_has wsX4_has) := goodIn_app (goodIn_of _ (by decide +kernel)) ggX4_to_X4_has
theorem dX4_to_0 : decode cX4_to 0 = .ok (.aload_n 0, 1) := by decide +kernel
theorem dX4_to_1 : decode cX4_to 1 = .ok (.iload_n 1, 1) := by decide +kernel
theorem dX4_to_2 : decode cX4_to 2 = .ok (.invokevirtual 44, 3) := by decide +kernel
theorem dX4_to_5 : decode cX4_to 5 = .ok (.ifCond .eq 12, 3) := by decide +kernel
theorem dX4_to_8 : decode cX4_to 8 = .ok (.aload_n 0, 1) := by decide +kernel
theorem dX4_to_9 : decode cX4_to 9 = .ok (.getfield 18, 3) := by decide +kernel
theorem dX4_to_12 : decode cX4_to 12 = .ok (.iload_n 1, 1) := by decide +kernel
theorem dX4_to_13 : decode cX4_to 13 = .ok (.iaload, 1) := by decide +kernel
theorem dX4_to_14 : decode cX4_to 14 = .ok (.goto 4, 3) := by decide +kernel
theorem dX4_to_17 : decode cX4_to 17 = .ok (.iconst (-1), 1) := by decide +kernel
theorem dX4_to_18 : decode cX4_to 18 = .ok (.ireturn, 1) := by decide +kernel
set_option maxRecDepth 20000 in
theorem ggX4_taken_X4_has : GoodIn wsX4_taken wsX4_has := goodIn_r _ [6, 7, 8, 9, 10, 11, 12, 13, 14, 15, 16] (by decide +kernel) (by decide +kernel)
set_option maxRecDepth 20000 in
theorem gX4_taken_X4_has : GoodIn wsX4_taken (wsV RX4 44 RX4 yX4_has wsX4_has) := goodIn_app (goodIn_of _ (by decide +kernel)) ggX4_taken_X4_has
theorem dX4_taken_0 : decode cX4_taken 0 = .ok (.aload_n 0, 1) := by decide +kernel
theorem dX4_taken_1 : decode cX4_taken 1 = .ok (.iload_n 1, 1) := by decide +kernel
theorem dX4_taken_2 : decode cX4_taken 2 = .ok (.invokevirtual 44, 3) := by decide +kernel
theorem dX4_taken_5 : decode cX4_taken 5 = .ok (.ifCond .eq 12, 3) := by decide +kernel
theorem dX4_taken_8 : decode cX4_taken 8 = .ok (.aload_n 0, 1) := by decide +kernel
theorem dX4_taken_9 : decode cX4_taken 9 = .ok (.getfield 21, 3) := by decide +kernel
theorem dX4_taken_12 : decode cX4_taken 12 = .ok (.iload_n 1, 1) := by decide +kernel
theorem dX4_taken_13 : decode cX4_taken 13 = .ok (.iaload, 1) := by decide +kernel
theorem dX4_taken_14 : decode cX4_taken 14 = .ok (.goto 4, 3) := by decide +kernel
theorem dX4_taken_17 : decode cX4_taken 17 = .ok (.iconst (-1), 1) := by decide +kernel
theorem dX4_taken_18 : decode cX4_taken 18 = .ok (.ireturn, 1) := by decide +kernel
set_option maxRecDepth 20000 in
theorem ggX4_depth_X4_has : GoodIn wsX4_depth wsX4_has := goodIn_r _ [6, 7, 8, 9, 10, 11, 12, 13, 14, 15, 16] (by decide +kernel) (by decide +kernel)
set_option maxRecDepth 20000 in
theorem gX4_depth_X4_has : GoodIn wsX4_depth (wsV RX4 44 RX4 yX4_has wsX4_has) := goodIn_app (goodIn_of _ (by decide +kernel)) ggX4_depth_X4_has
theorem dX4_depth_0 : decode cX4_depth 0 = .ok (.aload_n 0, 1) := by decide +kernel
theorem dX4_depth_1 : decode cX4_depth 1 = .ok (.iload_n 1, 1) := by decide +kernel
theorem dX4_depth_2 : decode cX4_depth 2 = .ok (.invokevirtual 44, 3) := by decide +kernel
theorem dX4_depth_5 : decode cX4_depth 5 = .ok (.ifCond .eq 12, 3) := by decide +kernel
theorem dX4_depth_8 : decode cX4_depth 8 = .ok (.aload_n 0, 1) := by decide +kernel
theorem dX4_depth_9 : decode cX4_depth 9 = .ok (.getfield 24, 3) := by decide +kernel
theorem dX4_depth_12 : decode cX4_depth 12 = .ok (.iload_n 1, 1) := by decide +kernel
theorem dX4_depth_13 : decode cX4_depth 13 = .ok (.iaload, 1) := by decide +kernel
theorem dX4_depth_14 : decode cX4_depth 14 = .ok (.goto 4, 3) := by decide +kernel
theorem dX4_depth_17 : decode cX4_depth 17 = .ok (.iconst 0, 1) := by decide +kernel
theorem dX4_depth_18 : decode cX4_depth 18 = .ok (.ireturn, 1) := by decide +kernel
set_option maxRecDepth 20000 in
theorem ggX4_childCount_X4_has : GoodIn wsX4_childCount wsX4_has := goodIn_r _ [6, 7, 8, 9, 10, 11, 12, 13, 14, 15, 16] (by decide +kernel) (by decide +kernel)
set_option maxRecDepth 20000 in
theorem gX4_childCount_X4_has : GoodIn wsX4_childCount (wsV RX4 44 RX4 yX4_has wsX4_has) := goodIn_app (goodIn_of _ (by decide +kernel)) ggX4_childCount_X4_has
theorem dX4_childCount_0 : decode cX4_childCount 0 = .ok (.aload_n 0, 1) := by decide +kernel
theorem dX4_childCount_1 : decode cX4_childCount 1 = .ok (.iload_n 1, 1) := by decide +kernel
theorem dX4_childCount_2 : decode cX4_childCount 2 = .ok (.invokevirtual 44, 3) := by decide +kernel
theorem dX4_childCount_5 : decode cX4_childCount 5 = .ok (.ifCond .eq 12, 3) := by decide +kernel
theorem dX4_childCount_8 : decode cX4_childCount 8 = .ok (.aload_n 0, 1) := by decide +kernel
theorem dX4_childCount_9 : decode cX4_childCount 9 = .ok (.getfield 27, 3) := by decide +kernel
theorem dX4_childCount_12 : decode cX4_childCount 12 = .ok (.iload_n 1, 1) := by decide +kernel
theorem dX4_childCount_13 : decode cX4_childCount 13 = .ok (.iaload, 1) := by decide +kernel
theorem dX4_childCount_14 : decode cX4_childCount 14 = .ok (.goto 4, 3) := by decide +kernel
theorem dX4_childCount_17 : decode cX4_childCount 17 = .ok (.iconst 0, 1) := by decide +kernel
theorem dX4_childCount_18 : decode cX4_childCount 18 = .ok (.ireturn, 1) := by decide +kernel
set_option maxRecDepth 20000 in
theorem ggX4_keepTaken_X4_has : GoodIn wsX4_keepTaken wsX4_has := goodIn_r _ [6, 7, 8, 9, 10, 11, 12, 13, 14, 15, 16] (by decide +kernel) (by decide +kernel)
set_option maxRecDepth 20000 in
theorem gX4_keepTaken_X4_has : GoodIn wsX4_keepTaken (wsV RX4 44 RX4 yX4_has wsX4_has) := goodIn_app (goodIn_of _ (by decide +kernel)) ggX4_keepTaken_X4_has
theorem dX4_keepTaken_0 : decode cX4_keepTaken 0 = .ok (.aload_n 0, 1) := by decide +kernel
theorem dX4_keepTaken_1 : decode cX4_keepTaken 1 = .ok (.iload_n 1, 1) := by decide +kernel
theorem dX4_keepTaken_2 : decode cX4_keepTaken 2 = .ok (.invokevirtual 44, 3) := by decide +kernel
theorem dX4_keepTaken_5 : decode cX4_keepTaken 5 = .ok (.ifCond .eq 10, 3) := by decide +kernel
theorem dX4_keepTaken_8 : decode cX4_keepTaken 8 = .ok (.aload_n 0, 1) := by decide +kernel
theorem dX4_keepTaken_9 : decode cX4_keepTaken 9 = .ok (.getfield 21, 3) := by decide +kernel
theorem dX4_keepTaken_12 : decode cX4_keepTaken 12 = .ok (.iload_n 1, 1) := by decide +kernel
theorem dX4_keepTaken_13 : decode cX4_keepTaken 13 = .ok (.iload_n 2, 1) := by decide +kernel
theorem dX4_keepTaken_14 : decode cX4_keepTaken 14 = .ok (.iastore, 1) := by decide +kernel
theorem dX4_keepTaken_15 : decode cX4_keepTaken 15 = .ok (.return_, 1) := by decide +kernel
set_option maxRecDepth 20000 in
theorem ggX4_fact_X4_above : GoodIn wsX4_fact wsX4_above := goodIn_r _ [5, 6, 7, 8, 9, 4, 10, 11, 32, 33, 34, 35, 36, 37, 38, 39, 40] (by decide +kernel) (by decide +kernel)
set_option maxRecDepth 20000 in
theorem gX4_fact_X4_above : GoodIn wsX4_fact (wsV RX4 48 RX4 yX4_above wsX4_above) := goodIn_app (goodIn_of _ (by decide +kernel)) ggX4_fact_X4_above
set_option maxRecDepth 20000 in
theorem ggX4_fact_X4_from : GoodIn wsX4_fact wsX4_from := goodIn_r _ [15, 16, 7, 8, 9, 4, 10, 11, 32, 33, 34, 35, 36, 37, 38, 39, 40] (by decide +kernel) (by decide +kernel)
set_option maxRecDepth 20000 in
theorem gX4_fact_X4_from : GoodIn wsX4_fact (wsV RX4 51 RX4 yX4_from wsX4_from) := goodIn_app (goodIn_of _ (by decide +kernel)) ggX4_fact_X4_from
set_option maxRecDepth 20000 in
theorem ggX4_fact_X4_to : GoodIn wsX4_fact wsX4_to := goodIn_r _ [20, 21, 7, 8, 9, 4, 10, 11, 32, 33, 34, 35, 36, 37, 38, 39, 40] (by decide +kernel) (by decide +kernel)
set_option maxRecDepth 20000 in
theorem gX4_fact_X4_to : GoodIn wsX4_fact (wsV RX4 53 RX4 yX4_to wsX4_to) := goodIn_app (goodIn_of _ (by decide +kernel)) ggX4_fact_X4_to
set_option maxRecDepth 20000 in
theorem ggX4_fact_X4_depth : GoodIn wsX4_fact wsX4_depth := goodIn_r _ [25, 26, 7, 8, 9, 4, 10, 11, 32, 33, 34, 35, 36, 37, 38, 39, 40] (by decide +kernel) (by decide +kernel)
set_option maxRecDepth 20000 in
theorem gX4_fact_X4_depth : GoodIn wsX4_fact (wsV RX4 55 RX4 yX4_depth wsX4_depth) := goodIn_app (goodIn_of _ (by decide +kernel)) ggX4_fact_X4_depth
set_option maxRecDepth 20000 in
theorem ggX4_fact_X4_childCount : GoodIn wsX4_fact wsX4_childCount := goodIn_r _ [30, 31, 7, 8, 9, 4, 10, 11, 32, 33, 34, 35, 36, 37, 38, 39, 40] (by decide +kernel) (by decide +kernel)
set_option maxRecDepth 20000 in
theorem gX4_fact_X4_childCount : GoodIn wsX4_fact (wsV RX4 57 RX4 yX4_childCount wsX4_childCount) := goodIn_app (goodIn_of _ (by decide +kernel)) ggX4_fact_X4_childCount
theorem dX4_fact_0 : decode cX4_fact 0 = .ok (.iload_n 2, 1) := by decide +kernel
theorem dX4_fact_1 : decode cX4_fact 1 = .ok (.tableswitch 55 0 3 #[31, 37, 43, 49], 31) := by decide +kernel
theorem dX4_fact_32 : decode cX4_fact 32 = .ok (.aload_n 0, 1) := by decide +kernel
theorem dX4_fact_33 : decode cX4_fact 33 = .ok (.iload_n 1, 1) := by decide +kernel
theorem dX4_fact_34 : decode cX4_fact 34 = .ok (.invokevirtual 48, 3) := by decide +kernel
theorem dX4_fact_37 : decode cX4_fact 37 = .ok (.ireturn, 1) := by decide +kernel
theorem dX4_fact_38 : decode cX4_fact 38 = .ok (.aload_n 0, 1) := by decide +kernel
theorem dX4_fact_39 : decode cX4_fact 39 = .ok (.iload_n 1, 1) := by decide +kernel
theorem dX4_fact_40 : decode cX4_fact 40 = .ok (.invokevirtual 51, 3) := by decide +kernel
theorem dX4_fact_43 : decode cX4_fact 43 = .ok (.ireturn, 1) := by decide +kernel
theorem dX4_fact_44 : decode cX4_fact 44 = .ok (.aload_n 0, 1) := by decide +kernel
theorem dX4_fact_45 : decode cX4_fact 45 = .ok (.iload_n 1, 1) := by decide +kernel
theorem dX4_fact_46 : decode cX4_fact 46 = .ok (.invokevirtual 53, 3) := by decide +kernel
theorem dX4_fact_49 : decode cX4_fact 49 = .ok (.ireturn, 1) := by decide +kernel
theorem dX4_fact_50 : decode cX4_fact 50 = .ok (.aload_n 0, 1) := by decide +kernel
theorem dX4_fact_51 : decode cX4_fact 51 = .ok (.iload_n 1, 1) := by decide +kernel
theorem dX4_fact_52 : decode cX4_fact 52 = .ok (.invokevirtual 55, 3) := by decide +kernel
theorem dX4_fact_55 : decode cX4_fact 55 = .ok (.ireturn, 1) := by decide +kernel
theorem dX4_fact_56 : decode cX4_fact 56 = .ok (.aload_n 0, 1) := by decide +kernel
theorem dX4_fact_57 : decode cX4_fact 57 = .ok (.iload_n 1, 1) := by decide +kernel
theorem dX4_fact_58 : decode cX4_fact 58 = .ok (.invokevirtual 57, 3) := by decide +kernel
theorem dX4_fact_61 : decode cX4_fact 61 = .ok (.ireturn, 1) := by decide +kernel
set_option maxRecDepth 20000 in
theorem ggX4_child_X4_has : GoodIn wsX4_child wsX4_has := goodIn_r _ [8, 9, 10, 11, 12, 13, 14, 15, 16, 17, 18] (by decide +kernel) (by decide +kernel)
set_option maxRecDepth 20000 in
theorem gX4_child_X4_has : GoodIn wsX4_child (wsV RX4 44 RX4 yX4_has wsX4_has) := goodIn_app (goodIn_of _ (by decide +kernel)) ggX4_child_X4_has
theorem dX4_child_0 : decode cX4_child 0 = .ok (.aload_n 0, 1) := by decide +kernel
theorem dX4_child_1 : decode cX4_child 1 = .ok (.iload_n 1, 1) := by decide +kernel
theorem dX4_child_2 : decode cX4_child 2 = .ok (.invokevirtual 44, 3) := by decide +kernel
theorem dX4_child_5 : decode cX4_child 5 = .ok (.ifCond .eq 17, 3) := by decide +kernel
theorem dX4_child_8 : decode cX4_child 8 = .ok (.iload_n 2, 1) := by decide +kernel
theorem dX4_child_9 : decode cX4_child 9 = .ok (.ifCond .lt 13, 3) := by decide +kernel
theorem dX4_child_12 : decode cX4_child 12 = .ok (.iload_n 2, 1) := by decide +kernel
theorem dX4_child_13 : decode cX4_child 13 = .ok (.aload_n 0, 1) := by decide +kernel
theorem dX4_child_14 : decode cX4_child 14 = .ok (.getfield 27, 3) := by decide +kernel
theorem dX4_child_17 : decode cX4_child 17 = .ok (.iload_n 1, 1) := by decide +kernel
theorem dX4_child_18 : decode cX4_child 18 = .ok (.iaload, 1) := by decide +kernel
theorem dX4_child_19 : decode cX4_child 19 = .ok (.if_icmp .lt 5, 3) := by decide +kernel
theorem dX4_child_22 : decode cX4_child 22 = .ok (.iconst (-1), 1) := by decide +kernel
theorem dX4_child_23 : decode cX4_child 23 = .ok (.ireturn, 1) := by decide +kernel
theorem dX4_child_24 : decode cX4_child 24 = .ok (.aload_n 0, 1) := by decide +kernel
theorem dX4_child_25 : decode cX4_child 25 = .ok (.getfield 30, 3) := by decide +kernel
theorem dX4_child_28 : decode cX4_child 28 = .ok (.iload_n 1, 1) := by decide +kernel
theorem dX4_child_29 : decode cX4_child 29 = .ok (.iaload, 1) := by decide +kernel
theorem dX4_child_30 : decode cX4_child 30 = .ok (.istore_n 3, 1) := by decide +kernel
theorem dX4_child_31 : decode cX4_child 31 = .ok (.iconst 0, 1) := by decide +kernel
theorem dX4_child_32 : decode cX4_child 32 = .ok (.istore 4, 2) := by decide +kernel
theorem dX4_child_34 : decode cX4_child 34 = .ok (.iload 4, 2) := by decide +kernel
theorem dX4_child_36 : decode cX4_child 36 = .ok (.iload_n 2, 1) := by decide +kernel
theorem dX4_child_37 : decode cX4_child 37 = .ok (.if_icmp .ge 24, 3) := by decide +kernel
theorem dX4_child_40 : decode cX4_child 40 = .ok (.aload_n 0, 1) := by decide +kernel
theorem dX4_child_41 : decode cX4_child 41 = .ok (.iload_n 3, 1) := by decide +kernel
theorem dX4_child_42 : decode cX4_child 42 = .ok (.invokevirtual 44, 3) := by decide +kernel
theorem dX4_child_45 : decode cX4_child 45 = .ok (.ifCond .eq 16, 3) := by decide +kernel
theorem dX4_child_48 : decode cX4_child 48 = .ok (.aload_n 0, 1) := by decide +kernel
theorem dX4_child_49 : decode cX4_child 49 = .ok (.getfield 33, 3) := by decide +kernel
theorem dX4_child_52 : decode cX4_child 52 = .ok (.iload_n 3, 1) := by decide +kernel
theorem dX4_child_53 : decode cX4_child 53 = .ok (.iaload, 1) := by decide +kernel
theorem dX4_child_54 : decode cX4_child 54 = .ok (.istore_n 3, 1) := by decide +kernel
theorem dX4_child_55 : decode cX4_child 55 = .ok (.iinc 4 1, 3) := by decide +kernel
theorem dX4_child_58 : decode cX4_child 58 = .ok (.goto (-24), 3) := by decide +kernel
theorem dX4_child_61 : decode cX4_child 61 = .ok (.iload_n 3, 1) := by decide +kernel
theorem dX4_child_62 : decode cX4_child 62 = .ok (.ireturn, 1) := by decide +kernel
set_option maxRecDepth 20000 in
theorem ggX4_childOfMove_X4_child : GoodIn wsX4_childOfMove wsX4_child := goodIn_r _ [8, 9, 10, 3, 11, 12, 13, 7, 14, 15, 20, 21, 22, 23, 24, 25, 26, 27, 28] (by decide +kernel) (by decide +kernel)
set_option maxRecDepth 20000 in
theorem gX4_childOfMove_X4_child : GoodIn wsX4_childOfMove (wsV RX4 59 RX4 yX4_child wsX4_child) := goodIn_app (goodIn_of _ (by decide +kernel)) ggX4_childOfMove_X4_child
set_option maxRecDepth 20000 in
theorem ggX4_childOfMove_X4_childCount : GoodIn wsX4_childOfMove wsX4_childCount := goodIn_r _ [19, 9, 11, 12, 13, 7, 14, 15, 20, 21, 22, 23, 24, 25, 26, 27, 28] (by decide +kernel) (by decide +kernel)
set_option maxRecDepth 20000 in
theorem gX4_childOfMove_X4_childCount : GoodIn wsX4_childOfMove (wsV RX4 57 RX4 yX4_childCount wsX4_childCount) := goodIn_app (goodIn_of _ (by decide +kernel)) ggX4_childOfMove_X4_childCount
set_option maxRecDepth 20000 in
theorem ggX4_childOfMove_X4_has : GoodIn wsX4_childOfMove wsX4_has := goodIn_r _ [14, 15, 20, 21, 22, 23, 24, 25, 26, 27, 28] (by decide +kernel) (by decide +kernel)
set_option maxRecDepth 20000 in
theorem gX4_childOfMove_X4_has : GoodIn wsX4_childOfMove (wsV RX4 44 RX4 yX4_has wsX4_has) := goodIn_app (goodIn_of _ (by decide +kernel)) ggX4_childOfMove_X4_has
theorem dX4_childOfMove_0 : decode cX4_childOfMove 0 = .ok (.aload_n 0, 1) := by decide +kernel
theorem dX4_childOfMove_1 : decode cX4_childOfMove 1 = .ok (.iload_n 1, 1) := by decide +kernel
theorem dX4_childOfMove_2 : decode cX4_childOfMove 2 = .ok (.iconst 0, 1) := by decide +kernel
theorem dX4_childOfMove_3 : decode cX4_childOfMove 3 = .ok (.invokevirtual 59, 3) := by decide +kernel
theorem dX4_childOfMove_6 : decode cX4_childOfMove 6 = .ok (.istore 4, 2) := by decide +kernel
theorem dX4_childOfMove_8 : decode cX4_childOfMove 8 = .ok (.iconst 0, 1) := by decide +kernel
theorem dX4_childOfMove_9 : decode cX4_childOfMove 9 = .ok (.istore 5, 2) := by decide +kernel
theorem dX4_childOfMove_11 : decode cX4_childOfMove 11 = .ok (.iload 5, 2) := by decide +kernel
theorem dX4_childOfMove_13 : decode cX4_childOfMove 13 = .ok (.aload_n 0, 1) := by decide +kernel
theorem dX4_childOfMove_14 : decode cX4_childOfMove 14 = .ok (.iload_n 1, 1) := by decide +kernel
theorem dX4_childOfMove_15 : decode cX4_childOfMove 15 = .ok (.invokevirtual 57, 3) := by decide +kernel
theorem dX4_childOfMove_18 : decode cX4_childOfMove 18 = .ok (.if_icmp .ge 52, 3) := by decide +kernel
theorem dX4_childOfMove_21 : decode cX4_childOfMove 21 = .ok (.aload_n 0, 1) := by decide +kernel
theorem dX4_childOfMove_22 : decode cX4_childOfMove 22 = .ok (.iload 4, 2) := by decide +kernel
theorem dX4_childOfMove_24 : decode cX4_childOfMove 24 = .ok (.invokevirtual 44, 3) := by decide +kernel
theorem dX4_childOfMove_27 : decode cX4_childOfMove 27 = .ok (.ifCond .eq 43, 3) := by decide +kernel
theorem dX4_childOfMove_30 : decode cX4_childOfMove 30 = .ok (.aload_n 0, 1) := by decide +kernel
theorem dX4_childOfMove_31 : decode cX4_childOfMove 31 = .ok (.getfield 15, 3) := by decide +kernel
theorem dX4_childOfMove_34 : decode cX4_childOfMove 34 = .ok (.iload 4, 2) := by decide +kernel
theorem dX4_childOfMove_36 : decode cX4_childOfMove 36 = .ok (.iaload, 1) := by decide +kernel
theorem dX4_childOfMove_37 : decode cX4_childOfMove 37 = .ok (.iload_n 2, 1) := by decide +kernel
theorem dX4_childOfMove_38 : decode cX4_childOfMove 38 = .ok (.if_icmp .ne 17, 3) := by decide +kernel
theorem dX4_childOfMove_41 : decode cX4_childOfMove 41 = .ok (.aload_n 0, 1) := by decide +kernel
theorem dX4_childOfMove_42 : decode cX4_childOfMove 42 = .ok (.getfield 18, 3) := by decide +kernel
theorem dX4_childOfMove_45 : decode cX4_childOfMove 45 = .ok (.iload 4, 2) := by decide +kernel
theorem dX4_childOfMove_47 : decode cX4_childOfMove 47 = .ok (.iaload, 1) := by decide +kernel
theorem dX4_childOfMove_48 : decode cX4_childOfMove 48 = .ok (.iload_n 3, 1) := by decide +kernel
theorem dX4_childOfMove_49 : decode cX4_childOfMove 49 = .ok (.if_icmp .ne 6, 3) := by decide +kernel
theorem dX4_childOfMove_52 : decode cX4_childOfMove 52 = .ok (.iload 4, 2) := by decide +kernel
theorem dX4_childOfMove_54 : decode cX4_childOfMove 54 = .ok (.ireturn, 1) := by decide +kernel
theorem dX4_childOfMove_55 : decode cX4_childOfMove 55 = .ok (.aload_n 0, 1) := by decide +kernel
theorem dX4_childOfMove_56 : decode cX4_childOfMove 56 = .ok (.getfield 33, 3) := by decide +kernel
theorem dX4_childOfMove_59 : decode cX4_childOfMove 59 = .ok (.iload 4, 2) := by decide +kernel
theorem dX4_childOfMove_61 : decode cX4_childOfMove 61 = .ok (.iaload, 1) := by decide +kernel
theorem dX4_childOfMove_62 : decode cX4_childOfMove 62 = .ok (.istore 4, 2) := by decide +kernel
theorem dX4_childOfMove_64 : decode cX4_childOfMove 64 = .ok (.iinc 5 1, 3) := by decide +kernel
theorem dX4_childOfMove_67 : decode cX4_childOfMove 67 = .ok (.goto (-56), 3) := by decide +kernel
theorem dX4_childOfMove_70 : decode cX4_childOfMove 70 = .ok (.iconst (-1), 1) := by decide +kernel
theorem dX4_childOfMove_71 : decode cX4_childOfMove 71 = .ok (.ireturn, 1) := by decide +kernel
set_option maxRecDepth 20000 in
theorem ggX4_grow_X4_childCount : GoodIn wsX4_grow wsX4_childCount := goodIn_r _ [9, 4, 10, 11, 12, 8, 13, 14, 27, 28, 29, 30, 31, 32, 33, 34, 35] (by decide +kernel) (by decide +kernel)
set_option maxRecDepth 20000 in
theorem gX4_grow_X4_childCount : GoodIn wsX4_grow (wsV RX4 57 RX4 yX4_childCount wsX4_childCount) := goodIn_app (goodIn_of _ (by decide +kernel)) ggX4_grow_X4_childCount
set_option maxRecDepth 20000 in
theorem ggX4_grow_X4_child : GoodIn wsX4_grow wsX4_child := goodIn_r _ [18, 4, 3, 2, 10, 11, 12, 8, 13, 14, 27, 28, 29, 30, 31, 32, 33, 34, 35] (by decide +kernel) (by decide +kernel)
set_option maxRecDepth 20000 in
theorem gX4_grow_X4_child : GoodIn wsX4_grow (wsV RX4 59 RX4 yX4_child wsX4_child) := goodIn_app (goodIn_of _ (by decide +kernel)) ggX4_grow_X4_child
set_option maxRecDepth 20000 in
theorem ggX4_grow_X4_has : GoodIn wsX4_grow wsX4_has := goodIn_r _ [13, 14, 27, 28, 29, 30, 31, 32, 33, 34, 35] (by decide +kernel) (by decide +kernel)
set_option maxRecDepth 20000 in
theorem gX4_grow_X4_has : GoodIn wsX4_grow (wsV RX4 44 RX4 yX4_has wsX4_has) := goodIn_app (goodIn_of _ (by decide +kernel)) ggX4_grow_X4_has
set_option maxRecDepth 20000 in
theorem ggX4_grow_X4_occupy : GoodIn wsX4_grow wsX4_occupy := goodIn_r _ [22, 14, 23, 24, 25, 26, 1, 4, 3, 2, 27, 28, 29, 30, 31, 32, 33, 34, 35] (by decide +kernel) (by decide +kernel)
set_option maxRecDepth 20000 in
theorem gX4_grow_X4_occupy : GoodIn wsX4_grow (wsV RX4 40 RX4 yX4_occupy wsX4_occupy) := goodIn_app (goodIn_of _ (by decide +kernel)) ggX4_grow_X4_occupy
theorem dX4_grow_0 : decode cX4_grow 0 = .ok (.aload_n 0, 1) := by decide +kernel
theorem dX4_grow_1 : decode cX4_grow 1 = .ok (.iload_n 1, 1) := by decide +kernel
theorem dX4_grow_2 : decode cX4_grow 2 = .ok (.aload_n 0, 1) := by decide +kernel
theorem dX4_grow_3 : decode cX4_grow 3 = .ok (.iload_n 1, 1) := by decide +kernel
theorem dX4_grow_4 : decode cX4_grow 4 = .ok (.invokevirtual 57, 3) := by decide +kernel
theorem dX4_grow_7 : decode cX4_grow 7 = .ok (.iconst 1, 1) := by decide +kernel
theorem dX4_grow_8 : decode cX4_grow 8 = .ok (.isub, 1) := by decide +kernel
theorem dX4_grow_9 : decode cX4_grow 9 = .ok (.invokevirtual 59, 3) := by decide +kernel
theorem dX4_grow_12 : decode cX4_grow 12 = .ok (.istore 4, 2) := by decide +kernel
theorem dX4_grow_14 : decode cX4_grow 14 = .ok (.aload_n 0, 1) := by decide +kernel
theorem dX4_grow_15 : decode cX4_grow 15 = .ok (.iload_n 1, 1) := by decide +kernel
theorem dX4_grow_16 : decode cX4_grow 16 = .ok (.invokevirtual 44, 3) := by decide +kernel
theorem dX4_grow_19 : decode cX4_grow 19 = .ok (.ifCond .eq 21, 3) := by decide +kernel
theorem dX4_grow_22 : decode cX4_grow 22 = .ok (.aload_n 0, 1) := by decide +kernel
theorem dX4_grow_23 : decode cX4_grow 23 = .ok (.iload_n 1, 1) := by decide +kernel
theorem dX4_grow_24 : decode cX4_grow 24 = .ok (.iload_n 2, 1) := by decide +kernel
theorem dX4_grow_25 : decode cX4_grow 25 = .ok (.iload_n 3, 1) := by decide +kernel
theorem dX4_grow_26 : decode cX4_grow 26 = .ok (.aload_n 0, 1) := by decide +kernel
theorem dX4_grow_27 : decode cX4_grow 27 = .ok (.getfield 24, 3) := by decide +kernel
theorem dX4_grow_30 : decode cX4_grow 30 = .ok (.iload_n 1, 1) := by decide +kernel
theorem dX4_grow_31 : decode cX4_grow 31 = .ok (.iaload, 1) := by decide +kernel
theorem dX4_grow_32 : decode cX4_grow 32 = .ok (.iconst 1, 1) := by decide +kernel
theorem dX4_grow_33 : decode cX4_grow 33 = .ok (.iadd, 1) := by decide +kernel
theorem dX4_grow_34 : decode cX4_grow 34 = .ok (.invokevirtual 40, 3) := by decide +kernel
theorem dX4_grow_37 : decode cX4_grow 37 = .ok (.goto 4, 3) := by decide +kernel
theorem dX4_grow_40 : decode cX4_grow 40 = .ok (.iconst (-1), 1) := by decide +kernel
theorem dX4_grow_41 : decode cX4_grow 41 = .ok (.istore 5, 2) := by decide +kernel
theorem dX4_grow_43 : decode cX4_grow 43 = .ok (.iload 5, 2) := by decide +kernel
theorem dX4_grow_45 : decode cX4_grow 45 = .ok (.iconst (-1), 1) := by decide +kernel
theorem dX4_grow_46 : decode cX4_grow 46 = .ok (.if_icmp .ne 5, 3) := by decide +kernel
theorem dX4_grow_49 : decode cX4_grow 49 = .ok (.iconst (-1), 1) := by decide +kernel
theorem dX4_grow_50 : decode cX4_grow 50 = .ok (.ireturn, 1) := by decide +kernel
theorem dX4_grow_51 : decode cX4_grow 51 = .ok (.aload_n 0, 1) := by decide +kernel
theorem dX4_grow_52 : decode cX4_grow 52 = .ok (.iload 4, 2) := by decide +kernel
theorem dX4_grow_54 : decode cX4_grow 54 = .ok (.invokevirtual 44, 3) := by decide +kernel
theorem dX4_grow_57 : decode cX4_grow 57 = .ok (.ifCond .eq 15, 3) := by decide +kernel
theorem dX4_grow_60 : decode cX4_grow 60 = .ok (.aload_n 0, 1) := by decide +kernel
theorem dX4_grow_61 : decode cX4_grow 61 = .ok (.getfield 33, 3) := by decide +kernel
theorem dX4_grow_64 : decode cX4_grow 64 = .ok (.iload 4, 2) := by decide +kernel
theorem dX4_grow_66 : decode cX4_grow 66 = .ok (.iload 5, 2) := by decide +kernel
theorem dX4_grow_68 : decode cX4_grow 68 = .ok (.iastore, 1) := by decide +kernel
theorem dX4_grow_69 : decode cX4_grow 69 = .ok (.goto 11, 3) := by decide +kernel
theorem dX4_grow_72 : decode cX4_grow 72 = .ok (.aload_n 0, 1) := by decide +kernel
theorem dX4_grow_73 : decode cX4_grow 73 = .ok (.getfield 30, 3) := by decide +kernel
theorem dX4_grow_76 : decode cX4_grow 76 = .ok (.iload_n 1, 1) := by decide +kernel
theorem dX4_grow_77 : decode cX4_grow 77 = .ok (.iload 5, 2) := by decide +kernel
theorem dX4_grow_79 : decode cX4_grow 79 = .ok (.iastore, 1) := by decide +kernel
theorem dX4_grow_80 : decode cX4_grow 80 = .ok (.aload_n 0, 1) := by decide +kernel
theorem dX4_grow_81 : decode cX4_grow 81 = .ok (.getfield 27, 3) := by decide +kernel
theorem dX4_grow_84 : decode cX4_grow 84 = .ok (.iload_n 1, 1) := by decide +kernel
theorem dX4_grow_85 : decode cX4_grow 85 = .ok (.dup2, 1) := by decide +kernel
theorem dX4_grow_86 : decode cX4_grow 86 = .ok (.iaload, 1) := by decide +kernel
theorem dX4_grow_87 : decode cX4_grow 87 = .ok (.iconst 1, 1) := by decide +kernel
theorem dX4_grow_88 : decode cX4_grow 88 = .ok (.iadd, 1) := by decide +kernel
theorem dX4_grow_89 : decode cX4_grow 89 = .ok (.iastore, 1) := by decide +kernel
theorem dX4_grow_90 : decode cX4_grow 90 = .ok (.iload 5, 2) := by decide +kernel
theorem dX4_grow_92 : decode cX4_grow 92 = .ok (.ireturn, 1) := by decide +kernel
set_option maxRecDepth 20000 in
theorem ggX4_placeOf_X4_above : GoodIn wsX4_placeOf wsX4_above := goodIn_r _ [6, 7, 8, 9, 10, 5, 11, 12, 23, 24, 25, 26, 27, 28, 29, 30, 31] (by decide +kernel) (by decide +kernel)
set_option maxRecDepth 20000 in
theorem gX4_placeOf_X4_above : GoodIn wsX4_placeOf (wsV RX4 48 RX4 yX4_above wsX4_above) := goodIn_app (goodIn_of _ (by decide +kernel)) ggX4_placeOf_X4_above
set_option maxRecDepth 20000 in
theorem ggX4_placeOf_X4_child : GoodIn wsX4_placeOf wsX4_child := goodIn_r _ [16, 17, 18, 1, 8, 9, 10, 5, 11, 12, 23, 24, 25, 26, 27, 28, 29, 30, 31] (by decide +kernel) (by decide +kernel)
set_option maxRecDepth 20000 in
theorem gX4_placeOf_X4_child : GoodIn wsX4_placeOf (wsV RX4 59 RX4 yX4_child wsX4_child) := goodIn_app (goodIn_of _ (by decide +kernel)) ggX4_placeOf_X4_child
set_option maxRecDepth 20000 in
theorem ggX4_placeOf_X4_childCount : GoodIn wsX4_placeOf wsX4_childCount := goodIn_r _ [22, 17, 8, 9, 10, 5, 11, 12, 23, 24, 25, 26, 27, 28, 29, 30, 31] (by decide +kernel) (by decide +kernel)
set_option maxRecDepth 20000 in
theorem gX4_placeOf_X4_childCount : GoodIn wsX4_placeOf (wsV RX4 57 RX4 yX4_childCount wsX4_childCount) := goodIn_app (goodIn_of _ (by decide +kernel)) ggX4_placeOf_X4_childCount
set_option maxRecDepth 20000 in
theorem ggX4_placeOf_X4_has : GoodIn wsX4_placeOf wsX4_has := goodIn_r _ [11, 12, 23, 24, 25, 26, 27, 28, 29, 30, 31] (by decide +kernel) (by decide +kernel)
set_option maxRecDepth 20000 in
theorem gX4_placeOf_X4_has : GoodIn wsX4_placeOf (wsV RX4 44 RX4 yX4_has wsX4_has) := goodIn_app (goodIn_of _ (by decide +kernel)) ggX4_placeOf_X4_has
theorem dX4_placeOf_0 : decode cX4_placeOf 0 = .ok (.aload_n 0, 1) := by decide +kernel
theorem dX4_placeOf_1 : decode cX4_placeOf 1 = .ok (.aload_n 0, 1) := by decide +kernel
theorem dX4_placeOf_2 : decode cX4_placeOf 2 = .ok (.iload_n 1, 1) := by decide +kernel
theorem dX4_placeOf_3 : decode cX4_placeOf 3 = .ok (.invokevirtual 48, 3) := by decide +kernel
theorem dX4_placeOf_6 : decode cX4_placeOf 6 = .ok (.iconst 0, 1) := by decide +kernel
theorem dX4_placeOf_7 : decode cX4_placeOf 7 = .ok (.invokevirtual 59, 3) := by decide +kernel
theorem dX4_placeOf_10 : decode cX4_placeOf 10 = .ok (.istore_n 2, 1) := by decide +kernel
theorem dX4_placeOf_11 : decode cX4_placeOf 11 = .ok (.iconst 0, 1) := by decide +kernel
theorem dX4_placeOf_12 : decode cX4_placeOf 12 = .ok (.istore_n 3, 1) := by decide +kernel
theorem dX4_placeOf_13 : decode cX4_placeOf 13 = .ok (.iload_n 3, 1) := by decide +kernel
theorem dX4_placeOf_14 : decode cX4_placeOf 14 = .ok (.aload_n 0, 1) := by decide +kernel
theorem dX4_placeOf_15 : decode cX4_placeOf 15 = .ok (.aload_n 0, 1) := by decide +kernel
theorem dX4_placeOf_16 : decode cX4_placeOf 16 = .ok (.iload_n 1, 1) := by decide +kernel
theorem dX4_placeOf_17 : decode cX4_placeOf 17 = .ok (.invokevirtual 48, 3) := by decide +kernel
theorem dX4_placeOf_20 : decode cX4_placeOf 20 = .ok (.invokevirtual 57, 3) := by decide +kernel
theorem dX4_placeOf_23 : decode cX4_placeOf 23 = .ok (.if_icmp .ge 31, 3) := by decide +kernel
theorem dX4_placeOf_26 : decode cX4_placeOf 26 = .ok (.aload_n 0, 1) := by decide +kernel
theorem dX4_placeOf_27 : decode cX4_placeOf 27 = .ok (.iload_n 2, 1) := by decide +kernel
theorem dX4_placeOf_28 : decode cX4_placeOf 28 = .ok (.invokevirtual 44, 3) := by decide +kernel
theorem dX4_placeOf_31 : decode cX4_placeOf 31 = .ok (.ifCond .eq 23, 3) := by decide +kernel
theorem dX4_placeOf_34 : decode cX4_placeOf 34 = .ok (.iload_n 2, 1) := by decide +kernel
theorem dX4_placeOf_35 : decode cX4_placeOf 35 = .ok (.iload_n 1, 1) := by decide +kernel
theorem dX4_placeOf_36 : decode cX4_placeOf 36 = .ok (.if_icmp .ne 5, 3) := by decide +kernel
theorem dX4_placeOf_39 : decode cX4_placeOf 39 = .ok (.iload_n 3, 1) := by decide +kernel
theorem dX4_placeOf_40 : decode cX4_placeOf 40 = .ok (.ireturn, 1) := by decide +kernel
theorem dX4_placeOf_41 : decode cX4_placeOf 41 = .ok (.aload_n 0, 1) := by decide +kernel
theorem dX4_placeOf_42 : decode cX4_placeOf 42 = .ok (.getfield 33, 3) := by decide +kernel
theorem dX4_placeOf_45 : decode cX4_placeOf 45 = .ok (.iload_n 2, 1) := by decide +kernel
theorem dX4_placeOf_46 : decode cX4_placeOf 46 = .ok (.iaload, 1) := by decide +kernel
theorem dX4_placeOf_47 : decode cX4_placeOf 47 = .ok (.istore_n 2, 1) := by decide +kernel
theorem dX4_placeOf_48 : decode cX4_placeOf 48 = .ok (.iinc 3 1, 3) := by decide +kernel
theorem dX4_placeOf_51 : decode cX4_placeOf 51 = .ok (.goto (-38), 3) := by decide +kernel
theorem dX4_placeOf_54 : decode cX4_placeOf 54 = .ok (.iconst (-1), 1) := by decide +kernel
theorem dX4_placeOf_55 : decode cX4_placeOf 55 = .ok (.ireturn, 1) := by decide +kernel
set_option maxRecDepth 20000 in
theorem ggX4_makeMain_X4_placeOf : GoodIn wsX4_makeMain wsX4_placeOf := goodIn_r _ [7, 1, 8, 9, 10, 6, 11, 12, 13, 14, 15, 16, 17, 18, 19, 20, 21, 22, 2, 23, 24, 25, 26, 27, 28, 29, 30, 31, 32, 33, 34, 35] (by decide +kernel) (by decide +kernel)
set_option maxRecDepth 20000 in
theorem gX4_makeMain_X4_placeOf : GoodIn wsX4_makeMain (wsV RX4 63 RX4 yX4_placeOf wsX4_placeOf) := goodIn_app (goodIn_of _ (by decide +kernel)) ggX4_makeMain_X4_placeOf
set_option maxRecDepth 20000 in
theorem ggX4_makeMain_X4_above : GoodIn wsX4_makeMain wsX4_above := goodIn_r _ [11, 12, 13, 14, 15, 6, 16, 17, 27, 28, 29, 30, 31, 32, 33, 34, 35] (by decide +kernel) (by decide +kernel)
set_option maxRecDepth 20000 in
theorem gX4_makeMain_X4_above : GoodIn wsX4_makeMain (wsV RX4 48 RX4 yX4_above wsX4_above) := goodIn_app (goodIn_of _ (by decide +kernel)) ggX4_makeMain_X4_above
set_option maxRecDepth 20000 in
theorem ggX4_makeMain_X4_child : GoodIn wsX4_makeMain wsX4_child := goodIn_r _ [21, 22, 2, 1, 13, 14, 15, 6, 16, 17, 27, 28, 29, 30, 31, 32, 33, 34, 35] (by decide +kernel) (by decide +kernel)
set_option maxRecDepth 20000 in
theorem gX4_makeMain_X4_child : GoodIn wsX4_makeMain (wsV RX4 59 RX4 yX4_child wsX4_child) := goodIn_app (goodIn_of _ (by decide +kernel)) ggX4_makeMain_X4_child
set_option maxRecDepth 20000 in
theorem ggX4_makeMain_X4_has : GoodIn wsX4_makeMain wsX4_has := goodIn_r _ [16, 17, 27, 28, 29, 30, 31, 32, 33, 34, 35] (by decide +kernel) (by decide +kernel)
set_option maxRecDepth 20000 in
theorem gX4_makeMain_X4_has : GoodIn wsX4_makeMain (wsV RX4 44 RX4 yX4_has wsX4_has) := goodIn_app (goodIn_of _ (by decide +kernel)) ggX4_makeMain_X4_has
theorem dX4_makeMain_0 : decode cX4_makeMain 0 = .ok (.aload_n 0, 1) := by decide +kernel
theorem dX4_makeMain_1 : decode cX4_makeMain 1 = .ok (.iload_n 1, 1) := by decide +kernel
theorem dX4_makeMain_2 : decode cX4_makeMain 2 = .ok (.invokevirtual 63, 3) := by decide +kernel
theorem dX4_makeMain_5 : decode cX4_makeMain 5 = .ok (.istore_n 2, 1) := by decide +kernel
theorem dX4_makeMain_6 : decode cX4_makeMain 6 = .ok (.aload_n 0, 1) := by decide +kernel
theorem dX4_makeMain_7 : decode cX4_makeMain 7 = .ok (.iload_n 1, 1) := by decide +kernel
theorem dX4_makeMain_8 : decode cX4_makeMain 8 = .ok (.invokevirtual 48, 3) := by decide +kernel
theorem dX4_makeMain_11 : decode cX4_makeMain 11 = .ok (.istore_n 3, 1) := by decide +kernel
theorem dX4_makeMain_12 : decode cX4_makeMain 12 = .ok (.aload_n 0, 1) := by decide +kernel
theorem dX4_makeMain_13 : decode cX4_makeMain 13 = .ok (.iload_n 3, 1) := by decide +kernel
theorem dX4_makeMain_14 : decode cX4_makeMain 14 = .ok (.iload_n 2, 1) := by decide +kernel
theorem dX4_makeMain_15 : decode cX4_makeMain 15 = .ok (.iconst 1, 1) := by decide +kernel
theorem dX4_makeMain_16 : decode cX4_makeMain 16 = .ok (.isub, 1) := by decide +kernel
theorem dX4_makeMain_17 : decode cX4_makeMain 17 = .ok (.invokevirtual 59, 3) := by decide +kernel
theorem dX4_makeMain_20 : decode cX4_makeMain 20 = .ok (.istore 4, 2) := by decide +kernel
theorem dX4_makeMain_22 : decode cX4_makeMain 22 = .ok (.aload_n 0, 1) := by decide +kernel
theorem dX4_makeMain_23 : decode cX4_makeMain 23 = .ok (.iload_n 1, 1) := by decide +kernel
theorem dX4_makeMain_24 : decode cX4_makeMain 24 = .ok (.invokevirtual 44, 3) := by decide +kernel
theorem dX4_makeMain_27 : decode cX4_makeMain 27 = .ok (.ifCond .eq 52, 3) := by decide +kernel
theorem dX4_makeMain_30 : decode cX4_makeMain 30 = .ok (.aload_n 0, 1) := by decide +kernel
theorem dX4_makeMain_31 : decode cX4_makeMain 31 = .ok (.iload_n 3, 1) := by decide +kernel
theorem dX4_makeMain_32 : decode cX4_makeMain 32 = .ok (.invokevirtual 44, 3) := by decide +kernel
theorem dX4_makeMain_35 : decode cX4_makeMain 35 = .ok (.ifCond .eq 44, 3) := by decide +kernel
theorem dX4_makeMain_38 : decode cX4_makeMain 38 = .ok (.aload_n 0, 1) := by decide +kernel
theorem dX4_makeMain_39 : decode cX4_makeMain 39 = .ok (.iload 4, 2) := by decide +kernel
theorem dX4_makeMain_41 : decode cX4_makeMain 41 = .ok (.invokevirtual 44, 3) := by decide +kernel
theorem dX4_makeMain_44 : decode cX4_makeMain 44 = .ok (.ifCond .eq 35, 3) := by decide +kernel
theorem dX4_makeMain_47 : decode cX4_makeMain 47 = .ok (.aload_n 0, 1) := by decide +kernel
theorem dX4_makeMain_48 : decode cX4_makeMain 48 = .ok (.getfield 33, 3) := by decide +kernel
theorem dX4_makeMain_51 : decode cX4_makeMain 51 = .ok (.iload 4, 2) := by decide +kernel
theorem dX4_makeMain_53 : decode cX4_makeMain 53 = .ok (.aload_n 0, 1) := by decide +kernel
theorem dX4_makeMain_54 : decode cX4_makeMain 54 = .ok (.getfield 33, 3) := by decide +kernel
theorem dX4_makeMain_57 : decode cX4_makeMain 57 = .ok (.iload_n 1, 1) := by decide +kernel
theorem dX4_makeMain_58 : decode cX4_makeMain 58 = .ok (.iaload, 1) := by decide +kernel
theorem dX4_makeMain_59 : decode cX4_makeMain 59 = .ok (.iastore, 1) := by decide +kernel
theorem dX4_makeMain_60 : decode cX4_makeMain 60 = .ok (.aload_n 0, 1) := by decide +kernel
theorem dX4_makeMain_61 : decode cX4_makeMain 61 = .ok (.getfield 33, 3) := by decide +kernel
theorem dX4_makeMain_64 : decode cX4_makeMain 64 = .ok (.iload_n 1, 1) := by decide +kernel
theorem dX4_makeMain_65 : decode cX4_makeMain 65 = .ok (.aload_n 0, 1) := by decide +kernel
theorem dX4_makeMain_66 : decode cX4_makeMain 66 = .ok (.getfield 30, 3) := by decide +kernel
theorem dX4_makeMain_69 : decode cX4_makeMain 69 = .ok (.iload_n 3, 1) := by decide +kernel
theorem dX4_makeMain_70 : decode cX4_makeMain 70 = .ok (.iaload, 1) := by decide +kernel
theorem dX4_makeMain_71 : decode cX4_makeMain 71 = .ok (.iastore, 1) := by decide +kernel
theorem dX4_makeMain_72 : decode cX4_makeMain 72 = .ok (.aload_n 0, 1) := by decide +kernel
theorem dX4_makeMain_73 : decode cX4_makeMain 73 = .ok (.getfield 30, 3) := by decide +kernel
theorem dX4_makeMain_76 : decode cX4_makeMain 76 = .ok (.iload_n 3, 1) := by decide +kernel
theorem dX4_makeMain_77 : decode cX4_makeMain 77 = .ok (.iload_n 1, 1) := by decide +kernel
theorem dX4_makeMain_78 : decode cX4_makeMain 78 = .ok (.iastore, 1) := by decide +kernel
theorem dX4_makeMain_79 : decode cX4_makeMain 79 = .ok (.iload_n 2, 1) := by decide +kernel
theorem dX4_makeMain_80 : decode cX4_makeMain 80 = .ok (.ireturn, 1) := by decide +kernel
set_option maxRecDepth 20000 in
theorem ggX4_cutToRoot_X4_occupy : GoodIn wsX4_cutToRoot wsX4_occupy := goodIn_r _ [6, 1, 7, 8, 9, 10, 11, 12, 13, 14, 15, 16, 17, 18, 19, 20, 21, 22, 23] (by decide +kernel) (by decide +kernel)
set_option maxRecDepth 20000 in
theorem gX4_cutToRoot_X4_occupy : GoodIn wsX4_cutToRoot (wsV RX4 40 RX4 yX4_occupy wsX4_occupy) := goodIn_app (goodIn_of _ (by decide +kernel)) ggX4_cutToRoot_X4_occupy
theorem dX4_cutToRoot_0 : decode cX4_cutToRoot 0 = .ok (.aload_n 0, 1) := by decide +kernel
theorem dX4_cutToRoot_1 : decode cX4_cutToRoot 1 = .ok (.iconst 0, 1) := by decide +kernel
theorem dX4_cutToRoot_2 : decode cX4_cutToRoot 2 = .ok (.putfield 36, 3) := by decide +kernel
theorem dX4_cutToRoot_5 : decode cX4_cutToRoot 5 = .ok (.aload_n 0, 1) := by decide +kernel
theorem dX4_cutToRoot_6 : decode cX4_cutToRoot 6 = .ok (.iconst (-1), 1) := by decide +kernel
theorem dX4_cutToRoot_7 : decode cX4_cutToRoot 7 = .ok (.iconst (-1), 1) := by decide +kernel
theorem dX4_cutToRoot_8 : decode cX4_cutToRoot 8 = .ok (.iconst (-1), 1) := by decide +kernel
theorem dX4_cutToRoot_9 : decode cX4_cutToRoot 9 = .ok (.iconst 0, 1) := by decide +kernel
theorem dX4_cutToRoot_10 : decode cX4_cutToRoot 10 = .ok (.invokevirtual 40, 3) := by decide +kernel
theorem dX4_cutToRoot_13 : decode cX4_cutToRoot 13 = .ok (.pop, 1) := by decide +kernel
theorem dX4_cutToRoot_14 : decode cX4_cutToRoot 14 = .ok (.return_, 1) := by decide +kernel
set_option maxRecDepth 20000 in
theorem ggX5_init_X1_init : GoodIn wsX5_init wsX1_init := goodIn_r _ [37, 38, 2, 3, 20, 39, 40, 41, 42, 43, 44, 89, 90, 91, 92, 93, 94] (by decide +kernel) (by decide +kernel)
set_option maxRecDepth 20000 in
theorem gX5_init_X1_init_n11 : GoodIn wsX5_init (wsX1_init) := ggX5_init_X1_init
set_option maxRecDepth 20000 in
theorem ggX5_init_X0_init : GoodIn wsX5_init wsX0_init := goodIn_r _ [47, 48, 2, 3, 20, 49, 50, 51, 52, 53, 54, 111, 112] (by decide +kernel) (by decide +kernel)
set_option maxRecDepth 20000 in
theorem gX5_init_X0_init : GoodIn wsX5_init (wsX0_init) := ggX5_init_X0_init
set_option maxRecDepth 20000 in
theorem ggX5_init_X4_init : GoodIn wsX5_init wsX4_init := goodIn_r _ [57, 58, 2, 3, 20, 59, 60, 61, 62, 63, 64, 65, 66, 67, 68, 69, 70, 14, 71, 113, 114, 115, 116, 117, 118, 119, 120, 121] (by decide +kernel) (by decide +kernel)
set_option maxRecDepth 20000 in
theorem gX5_init_X4_init : GoodIn wsX5_init (wsX4_init) := ggX5_init_X4_init
set_option maxRecDepth 20000 in
theorem ggX5_init_X2_init : GoodIn wsX5_init wsX2_init := goodIn_r _ [73, 74, 2, 3, 75, 76, 77, 78, 79, 80, 81, 82, 122, 123, 124, 125, 126, 127, 128, 129] (by decide +kernel) (by decide +kernel)
set_option maxRecDepth 20000 in
theorem gX5_init_X2_init_n34 : GoodIn wsX5_init (wsX2_init) := ggX5_init_X2_init
set_option maxRecDepth 20000 in
theorem ggX5_init_X3_init : GoodIn wsX5_init wsX3_init := goodIn_r _ [84, 85, 2, 3, 20, 86, 87, 88, 130, 131, 132] (by decide +kernel) (by decide +kernel)
set_option maxRecDepth 20000 in
theorem gX5_init_X3_init_n48 : GoodIn wsX5_init (wsX3_init) := ggX5_init_X3_init
theorem dX5_init_0 : decode cX5_init 0 = .ok (.aload_n 0, 1) := by decide +kernel
theorem dX5_init_1 : decode cX5_init 1 = .ok (.invokespecial 3, 3) := by decide +kernel
theorem dX5_init_4 : decode cX5_init 4 = .ok (.aload_n 0, 1) := by decide +kernel
theorem dX5_init_5 : decode cX5_init 5 = .ok (.new 9, 3) := by decide +kernel
theorem dX5_init_8 : decode cX5_init 8 = .ok (.dup, 1) := by decide +kernel
theorem dX5_init_9 : decode cX5_init 9 = .ok (.invokespecial 11, 3) := by decide +kernel
theorem dX5_init_12 : decode cX5_init 12 = .ok (.putfield 12, 3) := by decide +kernel
theorem dX5_init_15 : decode cX5_init 15 = .ok (.aload_n 0, 1) := by decide +kernel
theorem dX5_init_16 : decode cX5_init 16 = .ok (.new 16, 3) := by decide +kernel
theorem dX5_init_19 : decode cX5_init 19 = .ok (.dup, 1) := by decide +kernel
theorem dX5_init_20 : decode cX5_init 20 = .ok (.aload_n 0, 1) := by decide +kernel
theorem dX5_init_21 : decode cX5_init 21 = .ok (.getfield 12, 3) := by decide +kernel
theorem dX5_init_24 : decode cX5_init 24 = .ok (.invokespecial 18, 3) := by decide +kernel
theorem dX5_init_27 : decode cX5_init 27 = .ok (.putfield 21, 3) := by decide +kernel
theorem dX5_init_30 : decode cX5_init 30 = .ok (.aload_n 0, 1) := by decide +kernel
theorem dX5_init_31 : decode cX5_init 31 = .ok (.new 25, 3) := by decide +kernel
theorem dX5_init_34 : decode cX5_init 34 = .ok (.dup, 1) := by decide +kernel
theorem dX5_init_35 : decode cX5_init 35 = .ok (.invokespecial 27, 3) := by decide +kernel
theorem dX5_init_38 : decode cX5_init 38 = .ok (.putfield 28, 3) := by decide +kernel
theorem dX5_init_41 : decode cX5_init 41 = .ok (.aload_n 0, 1) := by decide +kernel
theorem dX5_init_42 : decode cX5_init 42 = .ok (.new 32, 3) := by decide +kernel
theorem dX5_init_45 : decode cX5_init 45 = .ok (.dup, 1) := by decide +kernel
theorem dX5_init_46 : decode cX5_init 46 = .ok (.invokespecial 34, 3) := by decide +kernel
theorem dX5_init_49 : decode cX5_init 49 = .ok (.putfield 35, 3) := by decide +kernel
theorem dX5_init_52 : decode cX5_init 52 = .ok (.aload_n 0, 1) := by decide +kernel
theorem dX5_init_53 : decode cX5_init 53 = .ok (.sipush 200, 3) := by decide +kernel
theorem dX5_init_56 : decode cX5_init 56 = .ok (.newarray .int, 2) := by decide +kernel
theorem dX5_init_58 : decode cX5_init 58 = .ok (.putfield 39, 3) := by decide +kernel
theorem dX5_init_61 : decode cX5_init 61 = .ok (.aload_n 0, 1) := by decide +kernel
theorem dX5_init_62 : decode cX5_init 62 = .ok (.sipush 2000, 3) := by decide +kernel
theorem dX5_init_65 : decode cX5_init 65 = .ok (.newarray .int, 2) := by decide +kernel
theorem dX5_init_67 : decode cX5_init 67 = .ok (.putfield 43, 3) := by decide +kernel
theorem dX5_init_70 : decode cX5_init 70 = .ok (.aload_n 0, 1) := by decide +kernel
theorem dX5_init_71 : decode cX5_init 71 = .ok (.new 46, 3) := by decide +kernel
theorem dX5_init_74 : decode cX5_init 74 = .ok (.dup, 1) := by decide +kernel
theorem dX5_init_75 : decode cX5_init 75 = .ok (.invokespecial 48, 3) := by decide +kernel
theorem dX5_init_78 : decode cX5_init 78 = .ok (.putfield 49, 3) := by decide +kernel
theorem dX5_init_81 : decode cX5_init 81 = .ok (.aload_n 0, 1) := by decide +kernel
theorem dX5_init_82 : decode cX5_init 82 = .ok (.new 46, 3) := by decide +kernel
theorem dX5_init_85 : decode cX5_init 85 = .ok (.dup, 1) := by decide +kernel
theorem dX5_init_86 : decode cX5_init 86 = .ok (.invokespecial 48, 3) := by decide +kernel
theorem dX5_init_89 : decode cX5_init 89 = .ok (.putfield 53, 3) := by decide +kernel
theorem dX5_init_92 : decode cX5_init 92 = .ok (.aload_n 0, 1) := by decide +kernel
theorem dX5_init_93 : decode cX5_init 93 = .ok (.iconst 0, 1) := by decide +kernel
theorem dX5_init_94 : decode cX5_init 94 = .ok (.putfield 56, 3) := by decide +kernel
theorem dX5_init_97 : decode cX5_init 97 = .ok (.aload_n 0, 1) := by decide +kernel
theorem dX5_init_98 : decode cX5_init 98 = .ok (.iconst 0, 1) := by decide +kernel
theorem dX5_init_99 : decode cX5_init 99 = .ok (.putfield 60, 3) := by decide +kernel
theorem dX5_init_102 : decode cX5_init 102 = .ok (.aload_n 0, 1) := by decide +kernel
theorem dX5_init_103 : decode cX5_init 103 = .ok (.iconst 0, 1) := by decide +kernel
theorem dX5_init_104 : decode cX5_init 104 = .ok (.putfield 63, 3) := by decide +kernel
theorem dX5_init_107 : decode cX5_init 107 = .ok (.aload_n 0, 1) := by decide +kernel
theorem dX5_init_108 : decode cX5_init 108 = .ok (.iconst (-1), 1) := by decide +kernel
theorem dX5_init_109 : decode cX5_init 109 = .ok (.putfield 67, 3) := by decide +kernel
theorem dX5_init_112 : decode cX5_init 112 = .ok (.aload_n 0, 1) := by decide +kernel
theorem dX5_init_113 : decode cX5_init 113 = .ok (.iconst (-1), 1) := by decide +kernel
theorem dX5_init_114 : decode cX5_init 114 = .ok (.putfield 70, 3) := by decide +kernel
theorem dX5_init_117 : decode cX5_init 117 = .ok (.aload_n 0, 1) := by decide +kernel
theorem dX5_init_118 : decode cX5_init 118 = .ok (.iconst (-1), 1) := by decide +kernel
theorem dX5_init_119 : decode cX5_init 119 = .ok (.putfield 73, 3) := by decide +kernel
theorem dX5_init_122 : decode cX5_init 122 = .ok (.aload_n 0, 1) := by decide +kernel
theorem dX5_init_123 : decode cX5_init 123 = .ok (.iconst (-1), 1) := by decide +kernel
theorem dX5_init_124 : decode cX5_init 124 = .ok (.putfield 76, 3) := by decide +kernel
theorem dX5_init_127 : decode cX5_init 127 = .ok (.aload_n 0, 1) := by decide +kernel
theorem dX5_init_128 : decode cX5_init 128 = .ok (.iconst (-1), 1) := by decide +kernel
theorem dX5_init_129 : decode cX5_init 129 = .ok (.putfield 79, 3) := by decide +kernel
theorem dX5_init_132 : decode cX5_init 132 = .ok (.return_, 1) := by decide +kernel
set_option maxRecDepth 20000 in
theorem ggX5_addKind_X1_withLetter : GoodIn wsX5_addKind wsX1_withLetter := goodIn_r _ [11, 12, 13, 44, 45, 46, 47, 48, 49] (by decide +kernel) (by decide +kernel)
set_option maxRecDepth 20000 in
theorem gX5_addKind_X1_withLetter : GoodIn wsX5_addKind (wsV RX5 82 RX1 yX1_withLetter wsX1_withLetter) := goodIn_app (goodIn_of _ (by decide +kernel)) ggX5_addKind_X1_withLetter
set_option maxRecDepth 20000 in
theorem ggX5_addKind_X1_size : GoodIn wsX5_addKind wsX1_size := goodIn_r _ [17, 12, 44, 45, 46, 47, 48, 49] (by decide +kernel) (by decide +kernel)
set_option maxRecDepth 20000 in
theorem gX5_addKind_X1_size : GoodIn wsX5_addKind (wsV RX5 93 RX1 yX1_size wsX1_size) := goodIn_app (goodIn_of _ (by decide +kernel)) ggX5_addKind_X1_size
set_option maxRecDepth 20000 in
theorem ggX5_addKind_X4_size : GoodIn wsX5_addKind wsX4_size := goodIn_r _ [22, 23, 50, 51, 52, 53, 54, 55, 56, 57, 58] (by decide +kernel) (by decide +kernel)
set_option maxRecDepth 20000 in
theorem gX5_addKind_X4_size : GoodIn wsX5_addKind (wsV RX5 97 RX4 yX4_size wsX4_size) := goodIn_app (goodIn_of _ (by decide +kernel)) ggX5_addKind_X4_size
set_option maxRecDepth 20000 in
theorem ggX5_addKind_X1_include : GoodIn wsX5_addKind wsX1_include := goodIn_r _ [27, 12, 13, 44, 45, 46, 47, 48, 49] (by decide +kernel) (by decide +kernel)
set_option maxRecDepth 20000 in
theorem gX5_addKind_X1_include : GoodIn wsX5_addKind (wsV RX5 103 RX1 yX1_include wsX1_include) := goodIn_app (goodIn_of _ (by decide +kernel)) ggX5_addKind_X1_include
theorem dX5_addKind_0 : decode cX5_addKind 0 = .ok (.iload_n 1, 1) := by decide +kernel
theorem dX5_addKind_1 : decode cX5_addKind 1 = .ok (.bipush 65, 2) := by decide +kernel
theorem dX5_addKind_3 : decode cX5_addKind 3 = .ok (.if_icmp .lt 21, 3) := by decide +kernel
theorem dX5_addKind_6 : decode cX5_addKind 6 = .ok (.iload_n 1, 1) := by decide +kernel
theorem dX5_addKind_7 : decode cX5_addKind 7 = .ok (.bipush 90, 2) := by decide +kernel
theorem dX5_addKind_9 : decode cX5_addKind 9 = .ok (.if_icmp .gt 15, 3) := by decide +kernel
theorem dX5_addKind_12 : decode cX5_addKind 12 = .ok (.aload_n 0, 1) := by decide +kernel
theorem dX5_addKind_13 : decode cX5_addKind 13 = .ok (.getfield 12, 3) := by decide +kernel
theorem dX5_addKind_16 : decode cX5_addKind 16 = .ok (.iload_n 1, 1) := by decide +kernel
theorem dX5_addKind_17 : decode cX5_addKind 17 = .ok (.invokevirtual 82, 3) := by decide +kernel
theorem dX5_addKind_20 : decode cX5_addKind 20 = .ok (.iconst (-1), 1) := by decide +kernel
theorem dX5_addKind_21 : decode cX5_addKind 21 = .ok (.if_icmp .eq 13, 3) := by decide +kernel
theorem dX5_addKind_24 : decode cX5_addKind 24 = .ok (.new 86, 3) := by decide +kernel
theorem dX5_addKind_27 : decode cX5_addKind 27 = .ok (.dup, 1) := by decide +kernel
theorem dX5_addKind_28 : decode cX5_addKind 28 = .ok (.ldc 88, 2) := by decide +kernel
theorem dX5_addKind_30 : decode cX5_addKind 30 = .ok (.invokespecial 90, 3) := by decide +kernel
theorem dX5_addKind_33 : decode cX5_addKind 33 = .ok (.athrow, 1) := by decide +kernel
theorem dX5_addKind_34 : decode cX5_addKind 34 = .ok (.aload_n 0, 1) := by decide +kernel
theorem dX5_addKind_35 : decode cX5_addKind 35 = .ok (.getfield 12, 3) := by decide +kernel
theorem dX5_addKind_38 : decode cX5_addKind 38 = .ok (.invokevirtual 93, 3) := by decide +kernel
theorem dX5_addKind_41 : decode cX5_addKind 41 = .ok (.bipush 6, 2) := by decide +kernel
theorem dX5_addKind_43 : decode cX5_addKind 43 = .ok (.if_icmp .ge 14, 3) := by decide +kernel
theorem dX5_addKind_46 : decode cX5_addKind 46 = .ok (.aload_n 0, 1) := by decide +kernel
theorem dX5_addKind_47 : decode cX5_addKind 47 = .ok (.getfield 28, 3) := by decide +kernel
theorem dX5_addKind_50 : decode cX5_addKind 50 = .ok (.invokevirtual 97, 3) := by decide +kernel
theorem dX5_addKind_53 : decode cX5_addKind 53 = .ok (.iconst 1, 1) := by decide +kernel
theorem dX5_addKind_54 : decode cX5_addKind 54 = .ok (.if_icmp .le 13, 3) := by decide +kernel
theorem dX5_addKind_57 : decode cX5_addKind 57 = .ok (.new 98, 3) := by decide +kernel
theorem dX5_addKind_60 : decode cX5_addKind 60 = .ok (.dup, 1) := by decide +kernel
theorem dX5_addKind_61 : decode cX5_addKind 61 = .ok (.ldc 100, 2) := by decide +kernel
theorem dX5_addKind_63 : decode cX5_addKind 63 = .ok (.invokespecial 102, 3) := by decide +kernel
theorem dX5_addKind_66 : decode cX5_addKind 66 = .ok (.athrow, 1) := by decide +kernel
theorem dX5_addKind_67 : decode cX5_addKind 67 = .ok (.aload_n 0, 1) := by decide +kernel
theorem dX5_addKind_68 : decode cX5_addKind 68 = .ok (.getfield 12, 3) := by decide +kernel
theorem dX5_addKind_71 : decode cX5_addKind 71 = .ok (.iload_n 1, 1) := by decide +kernel
theorem dX5_addKind_72 : decode cX5_addKind 72 = .ok (.invokevirtual 103, 3) := by decide +kernel
theorem dX5_addKind_75 : decode cX5_addKind 75 = .ok (.ireturn, 1) := by decide +kernel
set_option maxRecDepth 20000 in
theorem ggX5_addStep_X1_has : GoodIn wsX5_addStep wsX1_has := goodIn_r _ [13, 14, 54, 55, 56, 57, 58, 59] (by decide +kernel) (by decide +kernel)
set_option maxRecDepth 20000 in
theorem gX5_addStep_X1_has : GoodIn wsX5_addStep (wsV RX5 106 RX1 yX1_has wsX1_has) := goodIn_app (goodIn_of _ (by decide +kernel)) ggX5_addStep_X1_has
set_option maxRecDepth 20000 in
theorem ggX5_addStep_X5_isStep : GoodIn wsX5_addStep wsX5_isStep := goodIn_r _ [18] (by decide +kernel) (by decide +kernel)
set_option maxRecDepth 20000 in
theorem gX5_addStep_X5_isStep : GoodIn wsX5_addStep (va_wsS RX5 115 yX5_isStep wsX5_isStep) := goodIn_app (goodIn_of _ (by decide +kernel)) ggX5_addStep_X5_isStep
set_option maxRecDepth 20000 in
theorem ggX5_addStep_X1_stepCount : GoodIn wsX5_addStep wsX1_stepCount := goodIn_r _ [22, 23, 24, 10, 11, 12, 13, 14, 54, 55, 56, 57, 58, 59] (by decide +kernel) (by decide +kernel)
set_option maxRecDepth 20000 in
theorem gX5_addStep_X1_stepCount : GoodIn wsX5_addStep (wsV RX5 121 RX1 yX1_stepCount wsX1_stepCount) := goodIn_app (goodIn_of _ (by decide +kernel)) ggX5_addStep_X1_stepCount
set_option maxRecDepth 20000 in
theorem ggX5_addStep_X4_size : GoodIn wsX5_addStep wsX4_size := goodIn_r _ [29, 30, 60, 61, 62, 63, 64, 65, 66, 67, 68] (by decide +kernel) (by decide +kernel)
set_option maxRecDepth 20000 in
theorem gX5_addStep_X4_size : GoodIn wsX5_addStep (wsV RX5 97 RX4 yX4_size wsX4_size) := goodIn_app (goodIn_of _ (by decide +kernel)) ggX5_addStep_X4_size
set_option maxRecDepth 20000 in
theorem ggX5_addStep_X1_includeStep : GoodIn wsX5_addStep wsX1_includeStep := goodIn_r _ [34, 23, 35, 36, 37, 24, 10, 11, 12, 13, 14, 54, 55, 56, 57, 58, 59] (by decide +kernel) (by decide +kernel)
set_option maxRecDepth 20000 in
theorem gX5_addStep_X1_includeStep : GoodIn wsX5_addStep (wsV RX5 126 RX1 yX1_includeStep wsX1_includeStep) := goodIn_app (goodIn_of _ (by decide +kernel)) ggX5_addStep_X1_includeStep
theorem dX5_addStep_0 : decode cX5_addStep 0 = .ok (.aload_n 0, 1) := by decide +kernel
theorem dX5_addStep_1 : decode cX5_addStep 1 = .ok (.getfield 12, 3) := by decide +kernel
theorem dX5_addStep_4 : decode cX5_addStep 4 = .ok (.iload_n 1, 1) := by decide +kernel
theorem dX5_addStep_5 : decode cX5_addStep 5 = .ok (.invokevirtual 106, 3) := by decide +kernel
theorem dX5_addStep_8 : decode cX5_addStep 8 = .ok (.ifCond .ne 13, 3) := by decide +kernel
theorem dX5_addStep_11 : decode cX5_addStep 11 = .ok (.new 110, 3) := by decide +kernel
theorem dX5_addStep_14 : decode cX5_addStep 14 = .ok (.dup, 1) := by decide +kernel
theorem dX5_addStep_15 : decode cX5_addStep 15 = .ok (.ldc 112, 2) := by decide +kernel
theorem dX5_addStep_17 : decode cX5_addStep 17 = .ok (.invokespecial 114, 3) := by decide +kernel
theorem dX5_addStep_20 : decode cX5_addStep 20 = .ok (.athrow, 1) := by decide +kernel
theorem dX5_addStep_21 : decode cX5_addStep 21 = .ok (.iload_n 2, 1) := by decide +kernel
theorem dX5_addStep_22 : decode cX5_addStep 22 = .ok (.iload_n 3, 1) := by decide +kernel
theorem dX5_addStep_23 : decode cX5_addStep 23 = .ok (.invokestatic 115, 3) := by decide +kernel
theorem dX5_addStep_26 : decode cX5_addStep 26 = .ok (.ifCond .eq 16, 3) := by decide +kernel
theorem dX5_addStep_29 : decode cX5_addStep 29 = .ok (.iload 4, 2) := by decide +kernel
theorem dX5_addStep_31 : decode cX5_addStep 31 = .ok (.iconst 1, 1) := by decide +kernel
theorem dX5_addStep_32 : decode cX5_addStep 32 = .ok (.if_icmp .lt 10, 3) := by decide +kernel
theorem dX5_addStep_35 : decode cX5_addStep 35 = .ok (.iload 4, 2) := by decide +kernel
theorem dX5_addStep_37 : decode cX5_addStep 37 = .ok (.bipush 7, 2) := by decide +kernel
theorem dX5_addStep_39 : decode cX5_addStep 39 = .ok (.if_icmp .le 13, 3) := by decide +kernel
theorem dX5_addStep_42 : decode cX5_addStep 42 = .ok (.new 86, 3) := by decide +kernel
theorem dX5_addStep_45 : decode cX5_addStep 45 = .ok (.dup, 1) := by decide +kernel
theorem dX5_addStep_46 : decode cX5_addStep 46 = .ok (.ldc 119, 2) := by decide +kernel
theorem dX5_addStep_48 : decode cX5_addStep 48 = .ok (.invokespecial 90, 3) := by decide +kernel
theorem dX5_addStep_51 : decode cX5_addStep 51 = .ok (.athrow, 1) := by decide +kernel
theorem dX5_addStep_52 : decode cX5_addStep 52 = .ok (.aload_n 0, 1) := by decide +kernel
theorem dX5_addStep_53 : decode cX5_addStep 53 = .ok (.getfield 12, 3) := by decide +kernel
theorem dX5_addStep_56 : decode cX5_addStep 56 = .ok (.iload_n 1, 1) := by decide +kernel
theorem dX5_addStep_57 : decode cX5_addStep 57 = .ok (.invokevirtual 121, 3) := by decide +kernel
theorem dX5_addStep_60 : decode cX5_addStep 60 = .ok (.bipush 8, 2) := by decide +kernel
theorem dX5_addStep_62 : decode cX5_addStep 62 = .ok (.if_icmp .ge 14, 3) := by decide +kernel
theorem dX5_addStep_65 : decode cX5_addStep 65 = .ok (.aload_n 0, 1) := by decide +kernel
theorem dX5_addStep_66 : decode cX5_addStep 66 = .ok (.getfield 28, 3) := by decide +kernel
theorem dX5_addStep_69 : decode cX5_addStep 69 = .ok (.invokevirtual 97, 3) := by decide +kernel
theorem dX5_addStep_72 : decode cX5_addStep 72 = .ok (.iconst 1, 1) := by decide +kernel
theorem dX5_addStep_73 : decode cX5_addStep 73 = .ok (.if_icmp .le 13, 3) := by decide +kernel
theorem dX5_addStep_76 : decode cX5_addStep 76 = .ok (.new 98, 3) := by decide +kernel
theorem dX5_addStep_79 : decode cX5_addStep 79 = .ok (.dup, 1) := by decide +kernel
theorem dX5_addStep_80 : decode cX5_addStep 80 = .ok (.ldc 124, 2) := by decide +kernel
theorem dX5_addStep_82 : decode cX5_addStep 82 = .ok (.invokespecial 102, 3) := by decide +kernel
theorem dX5_addStep_85 : decode cX5_addStep 85 = .ok (.athrow, 1) := by decide +kernel
theorem dX5_addStep_86 : decode cX5_addStep 86 = .ok (.aload_n 0, 1) := by decide +kernel
theorem dX5_addStep_87 : decode cX5_addStep 87 = .ok (.getfield 12, 3) := by decide +kernel
theorem dX5_addStep_90 : decode cX5_addStep 90 = .ok (.iload_n 1, 1) := by decide +kernel
theorem dX5_addStep_91 : decode cX5_addStep 91 = .ok (.iload_n 2, 1) := by decide +kernel
theorem dX5_addStep_92 : decode cX5_addStep 92 = .ok (.iload_n 3, 1) := by decide +kernel
theorem dX5_addStep_93 : decode cX5_addStep 93 = .ok (.iload 4, 2) := by decide +kernel
theorem dX5_addStep_95 : decode cX5_addStep 95 = .ok (.invokevirtual 126, 3) := by decide +kernel
theorem dX5_addStep_98 : decode cX5_addStep 98 = .ok (.ireturn, 1) := by decide +kernel
set_option maxRecDepth 20000 in
theorem ggX5_put_X5_isSquare : GoodIn wsX5_put wsX5_isSquare := goodIn_r _ [13] (by decide +kernel) (by decide +kernel)
set_option maxRecDepth 20000 in
theorem gX5_put_X5_isSquare : GoodIn wsX5_put (va_wsS RX5 130 yX5_isSquare wsX5_isSquare) := goodIn_app (goodIn_of _ (by decide +kernel)) ggX5_put_X5_isSquare
set_option maxRecDepth 20000 in
theorem ggX5_put_X1_has : GoodIn wsX5_put wsX1_has := goodIn_r _ [18, 19, 48, 49, 50, 51, 52, 53] (by decide +kernel) (by decide +kernel)
set_option maxRecDepth 20000 in
theorem gX5_put_X1_has : GoodIn wsX5_put (wsV RX5 106 RX1 yX1_has wsX1_has) := goodIn_app (goodIn_of _ (by decide +kernel)) ggX5_put_X1_has
set_option maxRecDepth 20000 in
theorem ggX5_put_X4_size : GoodIn wsX5_put wsX4_size := goodIn_r _ [24, 25, 54, 55, 56, 57, 58, 59, 60, 61, 62] (by decide +kernel) (by decide +kernel)
set_option maxRecDepth 20000 in
theorem gX5_put_X4_size : GoodIn wsX5_put (wsV RX5 97 RX4 yX4_size wsX4_size) := goodIn_app (goodIn_of _ (by decide +kernel)) ggX5_put_X4_size
set_option maxRecDepth 20000 in
theorem ggX5_put_X0_replace : GoodIn wsX5_put wsX0_replace := goodIn_r _ [30, 31, 11, 12, 13, 63, 64] (by decide +kernel) (by decide +kernel)
set_option maxRecDepth 20000 in
theorem gX5_put_X0_replace : GoodIn wsX5_put (wsV RX5 139 RX0 yX0_replace wsX0_replace) := goodIn_app (goodIn_of _ (by decide +kernel)) ggX5_put_X0_replace
theorem dX5_put_0 : decode cX5_put 0 = .ok (.iload_n 1, 1) := by decide +kernel
theorem dX5_put_1 : decode cX5_put 1 = .ok (.invokestatic 130, 3) := by decide +kernel
theorem dX5_put_4 : decode cX5_put 4 = .ok (.ifCond .eq 19, 3) := by decide +kernel
theorem dX5_put_7 : decode cX5_put 7 = .ok (.iload_n 2, 1) := by decide +kernel
theorem dX5_put_8 : decode cX5_put 8 = .ok (.iconst (-1), 1) := by decide +kernel
theorem dX5_put_9 : decode cX5_put 9 = .ok (.if_icmp .eq 24, 3) := by decide +kernel
theorem dX5_put_12 : decode cX5_put 12 = .ok (.aload_n 0, 1) := by decide +kernel
theorem dX5_put_13 : decode cX5_put 13 = .ok (.getfield 12, 3) := by decide +kernel
theorem dX5_put_16 : decode cX5_put 16 = .ok (.iload_n 2, 1) := by decide +kernel
theorem dX5_put_17 : decode cX5_put 17 = .ok (.invokevirtual 106, 3) := by decide +kernel
theorem dX5_put_20 : decode cX5_put 20 = .ok (.ifCond .ne 13, 3) := by decide +kernel
theorem dX5_put_23 : decode cX5_put 23 = .ok (.new 110, 3) := by decide +kernel
theorem dX5_put_26 : decode cX5_put 26 = .ok (.dup, 1) := by decide +kernel
theorem dX5_put_27 : decode cX5_put 27 = .ok (.ldc 133, 2) := by decide +kernel
theorem dX5_put_29 : decode cX5_put 29 = .ok (.invokespecial 114, 3) := by decide +kernel
theorem dX5_put_32 : decode cX5_put 32 = .ok (.athrow, 1) := by decide +kernel
theorem dX5_put_33 : decode cX5_put 33 = .ok (.iload_n 3, 1) := by decide +kernel
theorem dX5_put_34 : decode cX5_put 34 = .ok (.ifCond .eq 18, 3) := by decide +kernel
theorem dX5_put_37 : decode cX5_put 37 = .ok (.iload_n 3, 1) := by decide +kernel
theorem dX5_put_38 : decode cX5_put 38 = .ok (.iconst 1, 1) := by decide +kernel
theorem dX5_put_39 : decode cX5_put 39 = .ok (.if_icmp .eq 13, 3) := by decide +kernel
theorem dX5_put_42 : decode cX5_put 42 = .ok (.new 86, 3) := by decide +kernel
theorem dX5_put_45 : decode cX5_put 45 = .ok (.dup, 1) := by decide +kernel
theorem dX5_put_46 : decode cX5_put 46 = .ok (.ldc 135, 2) := by decide +kernel
theorem dX5_put_48 : decode cX5_put 48 = .ok (.invokespecial 90, 3) := by decide +kernel
theorem dX5_put_51 : decode cX5_put 51 = .ok (.athrow, 1) := by decide +kernel
theorem dX5_put_52 : decode cX5_put 52 = .ok (.aload_n 0, 1) := by decide +kernel
theorem dX5_put_53 : decode cX5_put 53 = .ok (.getfield 28, 3) := by decide +kernel
theorem dX5_put_56 : decode cX5_put 56 = .ok (.invokevirtual 97, 3) := by decide +kernel
theorem dX5_put_59 : decode cX5_put 59 = .ok (.iconst 1, 1) := by decide +kernel
theorem dX5_put_60 : decode cX5_put 60 = .ok (.if_icmp .le 13, 3) := by decide +kernel
theorem dX5_put_63 : decode cX5_put 63 = .ok (.new 98, 3) := by decide +kernel
theorem dX5_put_66 : decode cX5_put 66 = .ok (.dup, 1) := by decide +kernel
theorem dX5_put_67 : decode cX5_put 67 = .ok (.ldc 137, 2) := by decide +kernel
theorem dX5_put_69 : decode cX5_put 69 = .ok (.invokespecial 102, 3) := by decide +kernel
theorem dX5_put_72 : decode cX5_put 72 = .ok (.athrow, 1) := by decide +kernel
theorem dX5_put_73 : decode cX5_put 73 = .ok (.aload_n 0, 1) := by decide +kernel
theorem dX5_put_74 : decode cX5_put 74 = .ok (.getfield 21, 3) := by decide +kernel
theorem dX5_put_77 : decode cX5_put 77 = .ok (.iload_n 1, 1) := by decide +kernel
theorem dX5_put_78 : decode cX5_put 78 = .ok (.iload_n 2, 1) := by decide +kernel
theorem dX5_put_79 : decode cX5_put 79 = .ok (.iconst (-1), 1) := by decide +kernel
theorem dX5_put_80 : decode cX5_put 80 = .ok (.if_icmp .ne 7, 3) := by decide +kernel
theorem dX5_put_83 : decode cX5_put 83 = .ok (.iconst (-1), 1) := by decide +kernel
theorem dX5_put_84 : decode cX5_put 84 = .ok (.goto 8, 3) := by decide +kernel
theorem dX5_put_87 : decode cX5_put 87 = .ok (.iconst 2, 1) := by decide +kernel
theorem dX5_put_88 : decode cX5_put 88 = .ok (.iload_n 2, 1) := by decide +kernel
theorem dX5_put_89 : decode cX5_put 89 = .ok (.imul, 1) := by decide +kernel
theorem dX5_put_90 : decode cX5_put 90 = .ok (.iload_n 3, 1) := by decide +kernel
theorem dX5_put_91 : decode cX5_put 91 = .ok (.iadd, 1) := by decide +kernel
theorem dX5_put_92 : decode cX5_put 92 = .ok (.invokevirtual 139, 3) := by decide +kernel
theorem dX5_put_95 : decode cX5_put 95 = .ok (.ireturn, 1) := by decide +kernel
set_option maxRecDepth 20000 in
theorem ggX5_at_X5_isSquare : GoodIn wsX5_at wsX5_isSquare := goodIn_r _ [7] (by decide +kernel) (by decide +kernel)
set_option maxRecDepth 20000 in
theorem gX5_at_X5_isSquare : GoodIn wsX5_at (va_wsS RX5 130 yX5_isSquare wsX5_isSquare) := goodIn_app (goodIn_of _ (by decide +kernel)) ggX5_at_X5_isSquare
set_option maxRecDepth 20000 in
theorem ggX5_at_X0_pieceOn : GoodIn wsX5_at wsX0_pieceOn := goodIn_r _ [12, 13, 5, 6, 7, 30, 31] (by decide +kernel) (by decide +kernel)
set_option maxRecDepth 20000 in
theorem gX5_at_X0_pieceOn : GoodIn wsX5_at (wsV RX5 145 RX0 yX0_pieceOn wsX0_pieceOn) := goodIn_app (goodIn_of _ (by decide +kernel)) ggX5_at_X0_pieceOn
theorem dX5_at_0 : decode cX5_at 0 = .ok (.iload_n 1, 1) := by decide +kernel
theorem dX5_at_1 : decode cX5_at 1 = .ok (.invokestatic 130, 3) := by decide +kernel
theorem dX5_at_4 : decode cX5_at 4 = .ok (.ifCond .ne 13, 3) := by decide +kernel
theorem dX5_at_7 : decode cX5_at 7 = .ok (.new 110, 3) := by decide +kernel
theorem dX5_at_10 : decode cX5_at 10 = .ok (.dup, 1) := by decide +kernel
theorem dX5_at_11 : decode cX5_at 11 = .ok (.ldc 143, 2) := by decide +kernel
theorem dX5_at_13 : decode cX5_at 13 = .ok (.invokespecial 114, 3) := by decide +kernel
theorem dX5_at_16 : decode cX5_at 16 = .ok (.athrow, 1) := by decide +kernel
theorem dX5_at_17 : decode cX5_at 17 = .ok (.aload_n 0, 1) := by decide +kernel
theorem dX5_at_18 : decode cX5_at 18 = .ok (.getfield 21, 3) := by decide +kernel
theorem dX5_at_21 : decode cX5_at 21 = .ok (.iload_n 1, 1) := by decide +kernel
theorem dX5_at_22 : decode cX5_at 22 = .ok (.invokevirtual 145, 3) := by decide +kernel
theorem dX5_at_25 : decode cX5_at 25 = .ok (.ireturn, 1) := by decide +kernel
set_option maxRecDepth 20000 in
theorem ggX5_state_X5_turn : GoodIn wsX5_state wsX5_turn := goodIn_r _ [12, 5, 4, 13, 14, 15, 16, 17, 18, 19, 20, 21, 22, 23, 78, 79, 80, 81, 82, 83, 84, 85, 86, 87, 88, 89, 90, 91, 92, 93, 94, 95, 96, 97, 98, 99, 100, 101, 102] (by decide +kernel) (by decide +kernel)
set_option maxRecDepth 20000 in
theorem gX5_state_X5_turn : GoodIn wsX5_state (wsV RX5 148 RX5 yX5_turn wsX5_turn) := goodIn_app (goodIn_of _ (by decide +kernel)) ggX5_state_X5_turn
set_option maxRecDepth 20000 in
theorem ggX5_state_X0_inCheck : GoodIn wsX5_state wsX0_inCheck := goodIn_r _ [28, 29, 30, 31, 32, 27, 33, 34, 35, 36, 37, 38, 103, 104, 105, 106, 107, 108, 109, 110] (by decide +kernel) (by decide +kernel)
set_option maxRecDepth 20000 in
theorem gX5_state_X0_inCheck : GoodIn wsX5_state (wsV RX5 151 RX0 yX0_inCheck wsX0_inCheck) := goodIn_app (goodIn_of _ (by decide +kernel)) ggX5_state_X0_inCheck
set_option maxRecDepth 20000 in
theorem ggX5_state_X0_countLegalMoves : GoodIn wsX5_state wsX0_countLegalMoves := goodIn_r _ [42, 29, 34, 35, 36, 27, 37, 38, 43, 44, 45, 46, 47, 48, 49, 50, 51, 11, 52, 53, 54, 55, 56, 57, 25, 26, 28, 30, 31, 32, 33, 58, 59, 60, 61, 103, 104, 105, 106, 107, 108, 109, 110] (by decide +kernel) (by decide +kernel)
set_option maxRecDepth 20000 in
theorem gX5_state_X0_countLegalMoves : GoodIn wsX5_state (wsV RX5 154 RX0 yX0_countLegalMoves wsX0_countLegalMoves) := goodIn_app (goodIn_of _ (by decide +kernel)) ggX5_state_X0_countLegalMoves
set_option maxRecDepth 20000 in
theorem ggX5_state_X4_size : GoodIn wsX5_state wsX4_size := goodIn_r _ [65, 23, 94, 95, 96, 97, 98, 99, 100, 101, 102] (by decide +kernel) (by decide +kernel)
set_option maxRecDepth 20000 in
theorem gX5_state_X4_size : GoodIn wsX5_state (wsV RX5 97 RX4 yX4_size wsX4_size) := goodIn_app (goodIn_of _ (by decide +kernel)) ggX5_state_X4_size
set_option maxRecDepth 20000 in
theorem ggX5_state_X1_size : GoodIn wsX5_state wsX1_size := goodIn_r _ [70, 71, 105, 106, 107, 108, 109, 110] (by decide +kernel) (by decide +kernel)
set_option maxRecDepth 20000 in
theorem gX5_state_X1_size : GoodIn wsX5_state (wsV RX5 93 RX1 yX1_size wsX1_size) := goodIn_app (goodIn_of _ (by decide +kernel)) ggX5_state_X1_size
set_option maxRecDepth 20000 in
theorem ggX5_state_X3_size : GoodIn wsX5_state wsX3_size := goodIn_r _ [76, 77, 111, 112, 113] (by decide +kernel) (by decide +kernel)
set_option maxRecDepth 20000 in
theorem gX5_state_X3_size : GoodIn wsX5_state (wsV RX5 157 RX3 yX3_size wsX3_size) := goodIn_app (goodIn_of _ (by decide +kernel)) ggX5_state_X3_size
theorem dX5_state_0 : decode cX5_state 0 = .ok (.iload_n 1, 1) := by decide +kernel
theorem dX5_state_1 : decode cX5_state 1 = .ok (.tableswitch 112 0 6 #[43, 48, 68, 83, 88, 96, 104], 43) := by decide +kernel
theorem dX5_state_44 : decode cX5_state 44 = .ok (.aload_n 0, 1) := by decide +kernel
theorem dX5_state_45 : decode cX5_state 45 = .ok (.invokevirtual 148, 3) := by decide +kernel
theorem dX5_state_48 : decode cX5_state 48 = .ok (.ireturn, 1) := by decide +kernel
theorem dX5_state_49 : decode cX5_state 49 = .ok (.aload_n 0, 1) := by decide +kernel
theorem dX5_state_50 : decode cX5_state 50 = .ok (.getfield 21, 3) := by decide +kernel
theorem dX5_state_53 : decode cX5_state 53 = .ok (.aload_n 0, 1) := by decide +kernel
theorem dX5_state_54 : decode cX5_state 54 = .ok (.invokevirtual 148, 3) := by decide +kernel
theorem dX5_state_57 : decode cX5_state 57 = .ok (.invokevirtual 151, 3) := by decide +kernel
theorem dX5_state_60 : decode cX5_state 60 = .ok (.ifCond .eq 7, 3) := by decide +kernel
theorem dX5_state_63 : decode cX5_state 63 = .ok (.iconst 1, 1) := by decide +kernel
theorem dX5_state_64 : decode cX5_state 64 = .ok (.goto 4, 3) := by decide +kernel
theorem dX5_state_67 : decode cX5_state 67 = .ok (.iconst 0, 1) := by decide +kernel
theorem dX5_state_68 : decode cX5_state 68 = .ok (.ireturn, 1) := by decide +kernel
theorem dX5_state_69 : decode cX5_state 69 = .ok (.aload_n 0, 1) := by decide +kernel
theorem dX5_state_70 : decode cX5_state 70 = .ok (.getfield 21, 3) := by decide +kernel
theorem dX5_state_73 : decode cX5_state 73 = .ok (.aload_n 0, 1) := by decide +kernel
theorem dX5_state_74 : decode cX5_state 74 = .ok (.invokevirtual 148, 3) := by decide +kernel
theorem dX5_state_77 : decode cX5_state 77 = .ok (.sipush 4096, 3) := by decide +kernel
theorem dX5_state_80 : decode cX5_state 80 = .ok (.invokevirtual 154, 3) := by decide +kernel
theorem dX5_state_83 : decode cX5_state 83 = .ok (.ireturn, 1) := by decide +kernel
theorem dX5_state_84 : decode cX5_state 84 = .ok (.aload_n 0, 1) := by decide +kernel
theorem dX5_state_85 : decode cX5_state 85 = .ok (.getfield 56, 3) := by decide +kernel
theorem dX5_state_88 : decode cX5_state 88 = .ok (.ireturn, 1) := by decide +kernel
theorem dX5_state_89 : decode cX5_state 89 = .ok (.aload_n 0, 1) := by decide +kernel
theorem dX5_state_90 : decode cX5_state 90 = .ok (.getfield 28, 3) := by decide +kernel
theorem dX5_state_93 : decode cX5_state 93 = .ok (.invokevirtual 97, 3) := by decide +kernel
theorem dX5_state_96 : decode cX5_state 96 = .ok (.ireturn, 1) := by decide +kernel
theorem dX5_state_97 : decode cX5_state 97 = .ok (.aload_n 0, 1) := by decide +kernel
theorem dX5_state_98 : decode cX5_state 98 = .ok (.getfield 12, 3) := by decide +kernel
theorem dX5_state_101 : decode cX5_state 101 = .ok (.invokevirtual 93, 3) := by decide +kernel
theorem dX5_state_104 : decode cX5_state 104 = .ok (.ireturn, 1) := by decide +kernel
theorem dX5_state_105 : decode cX5_state 105 = .ok (.aload_n 0, 1) := by decide +kernel
theorem dX5_state_106 : decode cX5_state 106 = .ok (.getfield 49, 3) := by decide +kernel
theorem dX5_state_109 : decode cX5_state 109 = .ok (.invokevirtual 157, 3) := by decide +kernel
theorem dX5_state_112 : decode cX5_state 112 = .ok (.ireturn, 1) := by decide +kernel
theorem dX5_state_113 : decode cX5_state 113 = .ok (.new 110, 3) := by decide +kernel
theorem dX5_state_116 : decode cX5_state 116 = .ok (.dup, 1) := by decide +kernel
theorem dX5_state_117 : decode cX5_state 117 = .ok (.ldc 158, 2) := by decide +kernel
theorem dX5_state_119 : decode cX5_state 119 = .ok (.invokespecial 114, 3) := by decide +kernel
theorem dX5_state_122 : decode cX5_state 122 = .ok (.athrow, 1) := by decide +kernel
set_option maxRecDepth 20000 in
theorem ggX5_reason_X5_isSquare : GoodIn wsX5_reason wsX5_isSquare := goodIn_r _ [6] (by decide +kernel) (by decide +kernel)
set_option maxRecDepth 20000 in
theorem gX5_reason_X5_isSquare : GoodIn wsX5_reason (va_wsS RX5 130 yX5_isSquare wsX5_isSquare) := goodIn_app (goodIn_of _ (by decide +kernel)) ggX5_reason_X5_isSquare
set_option maxRecDepth 20000 in
theorem ggX5_reason_X5_reasonAgainst : GoodIn wsX5_reason wsX5_reasonAgainst := goodIn_r _ [10, 11, 12, 13, 14, 5, 15, 16, 17, 18, 19, 20, 21, 22, 23, 24, 25, 26, 27, 28, 29, 30, 31, 32, 33, 34, 35, 36, 37, 38, 39, 40, 41, 42, 4, 6, 43, 44, 45, 46, 47, 48, 49, 50, 51, 52, 53, 54, 55, 56, 57, 58, 59, 60, 61, 62, 63, 64, 65, 66, 67, 68, 69, 70, 71, 72, 73, 74, 75, 76, 77, 78, 79, 80, 81, 82, 83, 84, 85, 86, 87, 88, 89, 90, 91, 92, 93, 94, 95, 96, 97, 98, 99, 100, 101, 102, 103, 104] (by decide +kernel) (by decide +kernel)
set_option maxRecDepth 20000 in
theorem gX5_reason_X5_reasonAgainst : GoodIn wsX5_reason (wsV RX5 160 RX5 yX5_reasonAgainst wsX5_reasonAgainst) := goodIn_app (goodIn_of _ (by decide +kernel)) ggX5_reason_X5_reasonAgainst
theorem dX5_reason_0 : decode cX5_reason 0 = .ok (.iload_n 1, 1) := by decide +kernel
theorem dX5_reason_1 : decode cX5_reason 1 = .ok (.invokestatic 130, 3) := by decide +kernel
theorem dX5_reason_4 : decode cX5_reason 4 = .ok (.ifCond .eq 10, 3) := by decide +kernel
theorem dX5_reason_7 : decode cX5_reason 7 = .ok (.iload_n 2, 1) := by decide +kernel
theorem dX5_reason_8 : decode cX5_reason 8 = .ok (.invokestatic 130, 3) := by decide +kernel
theorem dX5_reason_11 : decode cX5_reason 11 = .ok (.ifCond .ne 13, 3) := by decide +kernel
theorem dX5_reason_14 : decode cX5_reason 14 = .ok (.new 110, 3) := by decide +kernel
theorem dX5_reason_17 : decode cX5_reason 17 = .ok (.dup, 1) := by decide +kernel
theorem dX5_reason_18 : decode cX5_reason 18 = .ok (.ldc 143, 2) := by decide +kernel
theorem dX5_reason_20 : decode cX5_reason 20 = .ok (.invokespecial 114, 3) := by decide +kernel
theorem dX5_reason_23 : decode cX5_reason 23 = .ok (.athrow, 1) := by decide +kernel
theorem dX5_reason_24 : decode cX5_reason 24 = .ok (.aload_n 0, 1) := by decide +kernel
theorem dX5_reason_25 : decode cX5_reason 25 = .ok (.iload_n 1, 1) := by decide +kernel
theorem dX5_reason_26 : decode cX5_reason 26 = .ok (.iload_n 2, 1) := by decide +kernel
theorem dX5_reason_27 : decode cX5_reason 27 = .ok (.invokevirtual 160, 3) := by decide +kernel
theorem dX5_reason_30 : decode cX5_reason 30 = .ok (.ireturn, 1) := by decide +kernel
set_option maxRecDepth 20000 in
theorem ggX5_play_X5_isSquare : GoodIn wsX5_play wsX5_isSquare := goodIn_r _ [9] (by decide +kernel) (by decide +kernel)
set_option maxRecDepth 20000 in
theorem gX5_play_X5_isSquare : GoodIn wsX5_play (va_wsS RX5 130 yX5_isSquare wsX5_isSquare) := goodIn_app (goodIn_of _ (by decide +kernel)) ggX5_play_X5_isSquare
end
section
section ZLIB
abbrev vwCl : List vw_C := [(RX0, TX0, 2), (RX1, TX1, 6), (RX2, TX2, 8), (RX3, TX3, 3), (RX4, TX4, 9), (RX5, TX5, 16), (RX6, TX6, 26)]
/-! numbers: an int of the machine is iI z of an integer z; wr z is its value -/
def iI (z : Int) : Int32 := Int32.ofInt z
def wr (z : Int) : Int := (iI z).toInt
theorem wr_of {z : Int} (h1 : -2147483648 ≤ z) (h2 : z < 2147483648) : wr z = z := by
  unfold wr iI
  have e : z.bmod (2 ^ 32) = z := Int.bmod_eq_of_le (by omega) (by omega)
  rw [Int32.toInt_ofInt]
  exact e
theorem iI_add (a b : Int) : iI a + iI b = iI (a + b) := (Int32.ofInt_add a b).symm
theorem iI_sub (a b : Int) : iI a - iI b = iI (a - b) := (Int32.ofInt_sub a b).symm
theorem iI_mul (a b : Int) : iI a * iI b = iI (a * b) := (Int32.ofInt_mul a b).symm
theorem iI_neg (a : Int) : -iI a = iI (-a) := (Int32.ofInt_neg a).symm
theorem iI_nat (n : Nat) : iI (n : Int) = nI n := rfl
theorem iI_lt (a b : Int) : iI a < iI b ↔ wr a < wr b := Int32.lt_iff_toInt_lt
theorem iI_le (a b : Int) : iI a ≤ iI b ↔ wr a ≤ wr b := Int32.le_iff_toInt_le
theorem iI_eq (a b : Int) : iI a = iI b ↔ wr a = wr b := Int32.toInt_inj.symm
theorem iI_as (x : Int32) : iI x.toInt = x := Int32.ofInt_toInt x
theorem iI_of0 {x : Int} (h : 0 ≤ x) : iI x = nI x.toNat := by
  rw [← iI_nat, Int.toNat_of_nonneg h]
theorem iI_div {x d : Int} (h : 0 ≤ x ∧ x < 2147483648) (hd : 0 < d ∧ d < 2147483648) : iI x / iI d = iI (x / d) := by
  rw [iI_of0 h.1, iI_of0 (x := d) (by omega), pk_div (by omega) (by omega) (by omega), ← iI_nat]
  congr 1
  rw [Int.natCast_ediv, Int.toNat_of_nonneg h.1, Int.toNat_of_nonneg (by omega)]
theorem iI_rem {x d : Int} (h : 0 ≤ x ∧ x < 2147483648) (hd : 0 < d ∧ d < 2147483648) : iI x - iI x / iI d * iI d = iI (x % d) := by
  rw [iI_of0 h.1, iI_of0 (x := d) (by omega), pk_rem (by omega) (by omega) (by omega), ← iI_nat]
  congr 1
  rw [Int.natCast_emod, Int.toNat_of_nonneg h.1, Int.toNat_of_nonneg (by omega)]
theorem iI_in {i : Int} {n : Nat} (h : 0 ≤ i ∧ i < (n : Int)) (hn : n < 2 ^ 31) : vp_in (iI i) n := by
  rw [iI_of0 h.1]
  exact vp_in_nI (by omega) hn
theorem iI_cl {i : Int} {n : Nat} (h : 0 ≤ i ∧ i < (n : Int)) (hn : n < 2 ^ 31) : (iI i).toNatClampNeg = i.toNat := by
  rw [iI_of0 h.1]
  exact nI_clamp (by omega)
/-! states: numbers by cell and place; shapes: int array of n, long array of n, object (its place among the classes; 0 a number, 1 null, j + 2 the cell j) -/
abbrev HS : Type := Nat → Int → Int
abbrev ZE : Type := Nat × (Nat ⊕ (Nat ⊕ (Nat × List Nat)))
abbrev ZS : Type := List ZE
abbrev ZG : Type := va_G × ClassId × ClassId
def zv (ad : Nat → Nat) (v : Int) (f : Nat) : Value := match f with
  | 0 => .int (iI v)
  | 1 => .null
  | j + 2 => .ref (ad j)
def zf (ad : Nat → Nat) (g : Int → Int) : Int → List Nat → List Value
  | _, [] => []
  | k, f :: fs => zv ad (g k) f :: zf ad g (k + 1) fs
def ze (G : ZG) (ad : Nat → Nat) (h : HS) (x : ZE) : va_E := match x.2 with
  | .inl n => .inl (G.2.1, n, .inl (fun j => iI (h x.1 (j : Int))))
  | .inr (.inl n) => .inl (G.2.2, n, .inr (.inl (fun j => Int64.ofInt (h x.1 (j : Int)))))
  | .inr (.inr o) => .inr (o.1, zf ad (h x.1) 0 o.2)
def wz (G : ZG) (sh : ZS) (ad : Nat → Nat) (h : HS) : va_W := sh.map (fun x => (ad x.1, ze G ad h x))
def hs (h : HS) (i : Nat) (k v : Int) : HS := fun a => if a = i then (fun b => if b = k then v else h i b) else h a
theorem hs_ne (h : HS) {i j : Nat} (k v : Int) (e : j ≠ i) : hs h i k v j = h j := by
  unfold hs
  rw [if_neg e]
theorem hs_eq (h : HS) (i : Nat) (k v : Int) : hs h i k v i = fun b => if b = k then v else h i b := by
  unfold hs
  rw [if_pos rfl]
theorem wz_at {G : ZG} {sh : ZS} {ad : Nat → Nat} {h : HS} {q : Nat} {x : ZE} (e : sh[q]? = some x) : (wz G sh ad h)[q]? = some (ad x.1, ze G ad h x) := by
  unfold wz
  rw [List.getElem?_map, e]
  rfl
theorem wz_of {G : ZG} {sh : ZS} {ad : Nat → Nat} {h : HS} {q : Nat} {y : Nat × va_E} (e : (wz G sh ad h)[q]? = some y) : ∃ x, sh[q]? = some x ∧ y = (ad x.1, ze G ad h x) := by
  unfold wz at e
  rw [List.getElem?_map] at e
  cases hx : sh[q]? with
  | none => rw [hx] at e; cases e
  | some x => rw [hx] at e; cases e; exact ⟨x, rfl, rfl⟩
theorem ze_congr {G : ZG} {ad : Nat → Nat} {h h1 : HS} {x : ZE} (e : h1 x.1 = h x.1) : ze G ad h1 x = ze G ad h x := by
  unfold ze
  rw [e]
theorem zf_len (ad : Nat → Nat) (g : Int → Int) : ∀ (fs : List Nat) (k : Int), (zf ad g k fs).length = fs.length
  | [], _ => rfl
  | _ :: fs, k => by simp [zf, zf_len ad g fs (k + 1)]
theorem zf_at (ad : Nat → Nat) (g : Int → Int) : ∀ (fs : List Nat) (k0 : Int) (k f : Nat), fs[k]? = some f → (zf ad g k0 fs)[k]? = some (zv ad (g (k0 + k)) f)
  | [], _, k, f, h => by simp at h
  | f0 :: fs, k0, 0, f, h => by
    have e : f0 = f := by simpa using h
    subst e
    simp [zf]
  | f0 :: fs, k0, k + 1, f, h => by
    have e := zf_at ad g fs (k0 + 1) k f (by simpa using h)
    simp only [zf, List.getElem?_cons_succ, e]
    congr 3
    omega
theorem zf_same (ad : Nat → Nat) {g g1 : Int → Int} : ∀ (fs : List Nat) (k0 : Int), (∀ j, k0 ≤ j → g1 j = g j) → zf ad g1 k0 fs = zf ad g k0 fs
  | [], _, _ => rfl
  | f :: fs, k0, h => by
    simp only [zf]
    rw [h k0 (Int.le_refl _), zf_same ad fs (k0 + 1) (fun j hj => h j (by omega))]
theorem zf_set (ad : Nat → Nat) {g g1 : Int → Int} (v : Int) : ∀ (fs : List Nat) (k0 : Int) (k : Nat), fs[k]? = some 0 → g1 (k0 + k) = v → (∀ j, j ≠ k0 + k → g1 j = g j) → (zf ad g k0 fs).set k (.int (iI v)) = zf ad g1 k0 fs
  | [], _, k, h, _, _ => by simp at h
  | f0 :: fs, k0, 0, h, hv, ho => by
    have e : f0 = 0 := by simpa using h
    subst e
    have hv' : g1 k0 = v := by simpa using hv
    simp only [zf, List.set_cons_zero, zv, hv']
    rw [zf_same ad fs (k0 + 1) (fun j hj => ho j (by simp; omega))]
  | f0 :: fs, k0, k + 1, h, hv, ho => by
    have e := zf_set ad (g := g) (g1 := g1) v fs (k0 + 1) k (by simpa using h) (by rw [← hv]; congr 1; omega) (fun j hj => ho j (by omega))
    simp only [zf, List.set_cons_succ, e]
    rw [ho k0 (by omega)]
theorem wzD {G : ZG} {A : Nat → Prop} {sh : ZS} {ad : Nat → Nat} {h h1 : HS} (hD : va_D A (wz G sh ad h)) : va_D A (wz G sh ad h1) := by
  refine ⟨fun i j p q hp hq e => ?_, fun k q hq => ?_⟩
  · obtain ⟨x, hx, rfl⟩ := wz_of hp
    obtain ⟨y, hy, rfl⟩ := wz_of hq
    exact hD.1 i j _ _ (wz_at (h := h) hx) (wz_at (h := h) hy) e
  · obtain ⟨x, hx, rfl⟩ := wz_of hq
    have h3 := hD.2 k (ad x.1, ze G ad h x) (wz_at hx)
    exact h3
theorem wz_set {G : ZG} {A : Nat → Prop} {sh : ZS} {ad : Nat → Nat} {h h1 : HS} {q : Nat} {x : ZE} {e : va_E} (hD : va_D A (wz G sh ad h)) (hq : sh[q]? = some x) (he : ze G ad h1 x = e) (ho : ∀ i, i ≠ x.1 → h1 i = h i) : (wz G sh ad h).set q (ad x.1, e) = wz G sh ad h1 := by
  apply List.ext_getElem?
  intro r
  by_cases hr : r = q
  · subst hr
    rw [wz_at hq, he]
    have hl : r < (wz G sh ad h).length := (List.getElem?_eq_some_iff.mp (wz_at (G := G) (ad := ad) (h := h) hq)).1
    rw [List.getElem?_set_self hl]
  · rw [List.getElem?_set_ne (fun z => hr z.symm)]
    unfold wz
    rw [List.getElem?_map, List.getElem?_map]
    cases hy : sh[r]? with
    | none => rfl
    | some y =>
      have hne : y.1 ≠ x.1 := fun z => hr (hD.1 r q _ _ (wz_at hy) (wz_at hq) (by show ad y.1 = ad x.1; rw [z]))
      simp only [Option.map_some]
      rw [ze_congr (h := h) (h1 := h1) (ho _ hne)]
/-- the links of private members among nest mates -/
def zN (U : State) : Prop := va_Nw (.fieldLinkNest RX0 40 RX1 "size" "I" RX5) U ∧ va_Nw (.fieldLinkNest RX0 46 RX1 "stepCounts" "[I" RX5) U ∧ va_Nw (.fieldLinkNest RX0 49 RX1 "stepX" "[I" RX5) U ∧ va_Nw (.fieldLinkNest RX0 52 RX1 "stepY" "[I" RX5) U ∧ va_Nw (.fieldLinkNest RX0 55 RX1 "stepReach" "[I" RX5) U ∧ va_Nw (.methodLinkNest RX5 11 yX1_init RX5) U ∧ va_Nw (.methodLinkNest RX5 34 yX2_init RX5) U ∧ va_Nw (.methodLinkNest RX5 48 yX3_init RX5) U ∧ va_Nw (.methodLinkNest RX0 25 yX5_isSquare RX5) U
theorem zN.warm {s U : State} (hW : s.WarmedH U.vm) (h : zN s) : zN U := by
  obtain ⟨h1, h2, h3, h4, h5, h6, h7, h8, h9⟩ := h
  exact ⟨h1.warmF hW, h2.warmF hW, h3.warmF hW, h4.warmF hW, h5.warmF hW, h6.warmM hW, h7.warmM hW, h8.warmM hW, h9.warmM hW⟩
theorem zN.same {u U : State} (e : u.vm = U.vm) (h : zN u) : zN U := by
  obtain ⟨h1, h2, h3, h4, h5, h6, h7, h8, h9⟩ := h
  exact ⟨h1.same rfl e, h2.same rfl e, h3.same rfl e, h4.same rfl e, h5.same rfl e, h6.same rfl e, h7.same rfl e, h8.same rfl e, h9.same rfl e⟩
def zK (G : ZG) (U : State) : Prop := va_K G.1 vwCl [(G.2.1, .int), (G.2.2, .long)] U
/-! the walk's own data: program, launch, environment, room, start, method, arguments, frames below, its rows, its code, what it may write, its end -/
abbrev ZX : Type := Program × Launch × Env × Room × State × MethodId × Array Value × List Frame × Method × Code × (Nat → Prop) × (State → Prop)
def ZW (G : ZG) : ZX → ZS → (Nat → Nat) → HS → Nat → Nat → List (Nat × Value) → Nat → List Value → Prop
  | (p, l, e, R, s, m, args, below, meth, c, A, Q), sh, ad, h, k, n, lv, pc, st => ∀ (H : Heap) (locs : List Loc) (ls : Array Slot), va_P G.1 vwCl (wz G sh ad h) H → va_D A (wz G sh ad h) → va_S A s.heap H locs → lv_has ls c.maxLocals lv → W p l e R s m args below meth c H locs k n Q (F0 m pc ls st)
def ZC (G : ZG) (l0 : Launch) (cc : ByteArray) (Ts : List Cond) (own : String) (nL : Nat) (R0 : Room) : ZX → Prop
  | (p, l, _, R, s, m, args, _, meth, c, A, _) => p.tables.exec = Jvm.exec ∧ c.code = cc ∧ c.maxLocals = nL ∧ s.vm.findClass own = some m.cls ∧ (∀ w ∈ Ts, w.before args s = true) ∧ zK G s ∧ (∀ q, s.heap.size ≤ q → A q) ∧ zN s ∧ l = l0 ∧ R = R0 ∧ meth.locks = false
def zfr (Wr : List Nat) (h h1 : HS) : Prop := ∀ i, i ∉ Wr → h1 i = h i
theorem zfr_rf {Wr : List Nat} {h : HS} : zfr Wr h h := fun _ _ => rfl
theorem zfr_hs {Wr : List Nat} {h h1 : HS} {i : Nat} {k v : Int} (hf : zfr Wr h h1) (hi : i ∈ Wr) : zfr Wr h (hs h1 i k v) := fun j hj => by
  have hne : j ≠ i := fun e => hj (by rw [e]; exact hi)
  rw [hs_ne _ _ _ hne]
  exact hf j hj
theorem zfr_tr {Wr W1 : List Nat} {h h1 h2 : HS} (hf : zfr Wr h h1) (hs : ∀ i ∈ W1, i ∈ Wr) (hg : zfr W1 h1 h2) : zfr Wr h h2 := fun j hj => (hg j (fun e => hj (hs j e))).trans (hf j hj)
/-! what a call finds and leaves -/
def zP (G : ZG) (sh : ZS) (ad : Nat → Nat) (h : HS) (sz : Nat) (U : State) : Prop := U.heap.size = sz ∧ va_P G.1 vwCl (wz G sh ad h) U.heap ∧ zK G U ∧ va_D (fun _ => True) (wz G sh ad h) ∧ zN U
def zB (G : ZG) (sh : ZS) (ad : Nat → Nat) (h : HS) (t : State) : Prop := va_P G.1 vwCl (wz G sh ad h) t.heap
abbrev zsub (sh shc : ZS) (Wr : List Nat) : Prop := (∀ x ∈ shc, x ∈ sh) ∧ (∀ x ∈ sh, x ∈ shc ∨ x.1 ∉ Wr) ∧ va_nd (shc.map (fun x => x.1)) = true
def zeqE : ZE → ZE → Bool
  | (i, .inl n), (j, .inl m) => i == j && n == m
  | (i, .inr (.inl n)), (j, .inr (.inl m)) => i == j && n == m
  | (i, .inr (.inr (c, f))), (j, .inr (.inr (d, g))) => i == j && c == d && f == g
  | _, _ => false
theorem zeqE_eq : ∀ x y : ZE, zeqE x y = true → x = y
  | (i, .inl n), (j, .inl m), h => by simp [zeqE] at h; simp [h.1, h.2]
  | (i, .inr (.inl n)), (j, .inr (.inl m)), h => by simp [zeqE] at h; simp [h.1, h.2]
  | (i, .inr (.inr (c, f))), (j, .inr (.inr (d, g))), h => by simp [zeqE] at h; simp [h.1.1, h.1.2, h.2]
  | (i, .inl n), (j, .inr (.inl m)), h => by simp [zeqE] at h
  | (i, .inl n), (j, .inr (.inr m)), h => by simp [zeqE] at h
  | (i, .inr (.inl n)), (j, .inl m), h => by simp [zeqE] at h
  | (i, .inr (.inl n)), (j, .inr (.inr m)), h => by simp [zeqE] at h
  | (i, .inr (.inr n)), (j, .inl m), h => by simp [zeqE] at h
  | (i, .inr (.inr n)), (j, .inr (.inl m)), h => by simp [zeqE] at h
def zsubB (sh shc : ZS) (Wr : List Nat) : Bool := shc.all (fun x => sh.any (zeqE x)) && (sh.all (fun x => shc.any (zeqE x) || !(Wr.contains x.1)) && va_nd (shc.map (fun x => x.1)))
theorem zsub_of {sh shc : ZS} {Wr : List Nat} (h : zsubB sh shc Wr = true) : zsub sh shc Wr := by
  unfold zsubB at h
  simp only [Bool.and_eq_true, List.all_eq_true, List.any_eq_true, Bool.or_eq_true, Bool.not_eq_true'] at h
  refine ⟨fun x hx => ?_, fun x hx => ?_, h.2.2⟩
  · obtain ⟨y, hy, e⟩ := h.1 x hx
    rw [zeqE_eq x y e]; exact hy
  · rcases h.2.1 x hx with ⟨y, hy, e⟩ | e
    · left; rw [zeqE_eq x y e]; exact hy
    · right
      intro hm
      rw [List.contains_iff_mem.mpr hm] at e
      cases e
theorem zP_blind {G : ZG} {sh : ZS} {ad : Nat → Nat} {h : HS} {sz : Nat} {av : List Value} : FrameBlind (va_Pc av (zP G sh ad h sz)) := by
  intro a U g mk q
  obtain ⟨q0, q1, qP, qK, qD, qN⟩ := q
  exact ⟨q0, q1, qP, va_K.moved (u := U) (U := U.calling g mk a) (Vm.Alike.refl U.vm) qK, qD, zN.same (u := U) (U := U.calling g mk a) rfl qN⟩
theorem z_free {G : ZG} {A : Nat → Prop} {sh shc : ZS} {ad : Nat → Nat} {h : HS} {H0 H : Heap} {locs : List Loc} {Wr : List Nat} (hsub : zsub sh shc Wr) (hD : va_D A (wz G sh ad h)) (hS : va_S A H0 H locs) (hA : ∀ q, H0.size ≤ q → A q) : ∀ q, va_A (wz G shc ad h) H.size q → A q := by
  intro q hq
  rcases hq with ⟨k, e, hk⟩ | hq
  · obtain ⟨x, hx, e2⟩ := wz_of hk
    obtain ⟨i, hi⟩ := List.getElem?_of_mem (hsub.1 x (List.mem_of_getElem? hx))
    have := hD.2 i _ (wz_at (h := h) hi)
    cases e2
    exact this
  · exact hA q (Nat.le_trans hS.1 hq)
theorem z_join {G : ZG} {A : Nat → Prop} {sh shc : ZS} {ad : Nat → Nat} {h h1 : HS} {H H1 : Heap} {Wr : List Nat} (hP : va_P G.1 vwCl (wz G sh ad h) H) (hD : va_D A (wz G sh ad h)) (hsub : zsub sh shc Wr) (hf : zfr Wr h h1) (hk : ∀ q, q < H.size → ¬ va_A (wz G shc ad h) H.size q → H1[q]? = H[q]?) (hP1 : va_P G.1 vwCl (wz G shc ad h1) H1) : va_P G.1 vwCl (wz G sh ad h1) H1 := by
  intro k q hq
  obtain ⟨x, hx, rfl⟩ := wz_of hq
  by_cases hc : x ∈ shc
  · obtain ⟨i, hi⟩ := List.getElem?_of_mem hc
    exact hP1 i _ (wz_at hi)
  · have hw : x.1 ∉ Wr := (hsub.2.1 x (List.mem_of_getElem? hx)).resolve_left hc
    rw [ze_congr (h := h) (h1 := h1) (hf _ hw)]
    have h0 := hP k _ (wz_at hx)
    refine h0.kept (hk _ h0.lt ?_)
    rintro (⟨k2, e, h2⟩ | h2)
    · obtain ⟨y, hy, e2⟩ := wz_of h2
      obtain ⟨i, hi⟩ := List.getElem?_of_mem (hsub.1 y (List.mem_of_getElem? hy))
      have e3 : ad x.1 = ad y.1 := congrArg Prod.fst e2
      have e4 := hD.1 k i _ _ (wz_at (h := h) hx) (wz_at (h := h) hi) e3
      subst e4
      rw [hx] at hi
      cases hi
      exact hc (List.mem_of_getElem? hy)
    · exact absurd h0.lt (by omega)
theorem z_sub {G : ZG} {sh shc : ZS} {ad : Nat → Nat} {h : HS} {H : Heap} (hs : ∀ x ∈ shc, x ∈ sh) (hP : va_P G.1 vwCl (wz G sh ad h) H) : va_P G.1 vwCl (wz G shc ad h) H := by
  intro k q hq
  obtain ⟨x, hx, rfl⟩ := wz_of hq
  obtain ⟨i, hi⟩ := List.getElem?_of_mem (hs x (List.mem_of_getElem? hx))
  exact hP i _ (wz_at hi)
theorem z_subD {G : ZG} {A B : Nat → Prop} {sh shc : ZS} {ad : Nat → Nat} {h h1 : HS} (hs : ∀ x ∈ shc, x ∈ sh) (hn : va_nd (shc.map (fun x => x.1)) = true) (hB : ∀ q, A q → B q) (hD : va_D A (wz G sh ad h)) : va_D B (wz G shc ad h1) := by
  refine ⟨fun i j p q hp hq e => ?_, fun k q hq => ?_⟩
  · obtain ⟨x, hx, rfl⟩ := wz_of hp
    obtain ⟨y, hy, rfl⟩ := wz_of hq
    obtain ⟨a, ha⟩ := List.getElem?_of_mem (hs x (List.mem_of_getElem? hx))
    obtain ⟨b, hb⟩ := List.getElem?_of_mem (hs y (List.mem_of_getElem? hy))
    have e2 := hD.1 a b _ _ (wz_at (h := h) ha) (wz_at (h := h) hb) e
    subst e2
    rw [ha] at hb
    cases hb
    exact va_nd_inj _ hn i j x.1 (by rw [List.getElem?_map, hx]; rfl) (by rw [List.getElem?_map, hy]; rfl)
  · obtain ⟨x, hx, rfl⟩ := wz_of hq
    obtain ⟨a, ha⟩ := List.getElem?_of_mem (hs x (List.mem_of_getElem? hx))
    have h3 := hD.2 a (ad x.1, ze G ad h x) (wz_at ha)
    exact hB _ h3
end ZLIB
end
section
section ZROWS
variable {G : ZG} {l0 : Launch} {cc : ByteArray} {Ts : List Cond} {own : String} {nL : Nat} {R0 : Room} {X : ZX} {sh : ZS} {ad : Nat → Nat} {h : HS} {k n : Nat} {lv : List (Nat × Value)} {pc : Nat} {st : List Value}
theorem z_iconst {v : Int} (hX : ZC G l0 cc Ts own nL R0 X) (hd : decode cc pc = .ok (.iconst v, 1)) (kk : ZW G X sh ad h k n lv (pc + 1) (.int (iI v) :: st)) : ZW G X sh ad h k n lv pc (st) := by
  obtain ⟨p, l, e, R, s, m, args, below, meth, c, A, Q⟩ := X
  obtain ⟨hx, hb, hml, hown, hts, hK, hA, hN, hl0, hR0, hlk⟩ := hX
  exact fun H locs ls hP hD hS hl => lv_iconst hx hb hd rfl (kk H locs ls hP hD hS hl)
theorem z_bipush {v : Int} (hX : ZC G l0 cc Ts own nL R0 X) (hd : decode cc pc = .ok (.bipush v, 2)) (hv : (Int8.ofInt v).toInt32 = iI v) (kk : ZW G X sh ad h k n lv (pc + 2) (.int (iI v) :: st)) : ZW G X sh ad h k n lv pc (st) := by
  obtain ⟨p, l, e, R, s, m, args, below, meth, c, A, Q⟩ := X
  obtain ⟨hx, hb, hml, hown, hts, hK, hA, hN, hl0, hR0, hlk⟩ := hX
  exact fun H locs ls hP hD hS hl => lv_bipush hx hb hd hv (kk H locs ls hP hD hS hl)
theorem z_sipush {v : Int} (hX : ZC G l0 cc Ts own nL R0 X) (hd : decode cc pc = .ok (.sipush v, 3)) (hv : (Int16.ofInt v).toInt32 = iI v) (kk : ZW G X sh ad h k n lv (pc + 3) (.int (iI v) :: st)) : ZW G X sh ad h k n lv pc (st) := by
  obtain ⟨p, l, e, R, s, m, args, below, meth, c, A, Q⟩ := X
  obtain ⟨hx, hb, hml, hown, hts, hK, hA, hN, hl0, hR0, hlk⟩ := hX
  exact fun H locs ls hP hD hS hl => lv_sipush hx hb hd hv (kk H locs ls hP hD hS hl)
theorem z_ldc {v : Int} {ix : Nat} (hX : ZC G l0 cc Ts own nL R0 X) (hd : decode cc pc = .ok (.ldc ix, 2)) (hw : (Jvm.Cond.constant own ix (iI v)) ∈ Ts) (kk : ZW G X sh ad h k n lv (pc + 2) (.int (iI v) :: st)) : ZW G X sh ad h k n lv pc (st) := by
  obtain ⟨p, l, e, R, s, m, args, below, meth, c, A, Q⟩ := X
  obtain ⟨hx, hb, hml, hown, hts, hK, hA, hN, hl0, hR0, hlk⟩ := hX
  exact fun H locs ls hP hD hS hl => lv_ldc hx hb hown (hts _ hw) hd (kk H locs ls hP hD hS hl)
theorem z_lconst {v : Fin 2} (hX : ZC G l0 cc Ts own nL R0 X) (hd : decode cc pc = .ok (.lconst v, 1)) (kk : ZW G X sh ad h k n lv (pc + 1) (.long (Int64.ofNat (v : Nat)) :: st)) : ZW G X sh ad h k n lv pc (st) := by
  obtain ⟨p, l, e, R, s, m, args, below, meth, c, A, Q⟩ := X
  obtain ⟨hx, hb, hml, hown, hts, hK, hA, hN, hl0, hR0, hlk⟩ := hX
  exact fun H locs ls hP hD hS hl => lv_lconst hx hb hd rfl (kk H locs ls hP hD hS hl)
theorem z_ldc2 {v : Int64} {ix : Nat} (hX : ZC G l0 cc Ts own nL R0 X) (hd : decode cc pc = .ok (.ldc2_w ix, 3)) (hw : (Jvm.Cond.constantLong own ix v) ∈ Ts) (kk : ZW G X sh ad h k n lv (pc + 3) (.long v :: st)) : ZW G X sh ad h k n lv pc (st) := by
  obtain ⟨p, l, e, R, s, m, args, below, meth, c, A, Q⟩ := X
  obtain ⟨hx, hb, hml, hown, hts, hK, hA, hN, hl0, hR0, hlk⟩ := hX
  exact fun H locs ls hP hD hS hl => lv_ldc2 hx hb hown (hts _ hw) hd (kk H locs ls hP hD hS hl)
theorem z_iload_n {v : Int} {i : Fin 4} (hX : ZC G l0 cc Ts own nL R0 X) (hd : decode cc pc = .ok (.iload_n i, 1)) (q : Nat) (hq : lv[q]? = some ((i : Nat), .int (iI v))) (kk : ZW G X sh ad h k n lv (pc + 1) (.int (iI v) :: st)) : ZW G X sh ad h k n lv pc (st) := by
  obtain ⟨p, l, e, R, s, m, args, below, meth, c, A, Q⟩ := X
  obtain ⟨hx, hb, hml, hown, hts, hK, hA, hN, hl0, hR0, hlk⟩ := hX
  exact fun H locs ls hP hD hS hl => lv_iload_n hx hb hd rfl (lv_at hl q hq) (kk H locs ls hP hD hS hl)
theorem z_iload {v : Int} {i : Nat} (hX : ZC G l0 cc Ts own nL R0 X) (hd : decode cc pc = .ok (.iload i, 2)) (q : Nat) (hq : lv[q]? = some (i, .int (iI v))) (kk : ZW G X sh ad h k n lv (pc + 2) (.int (iI v) :: st)) : ZW G X sh ad h k n lv pc (st) := by
  obtain ⟨p, l, e, R, s, m, args, below, meth, c, A, Q⟩ := X
  obtain ⟨hx, hb, hml, hown, hts, hK, hA, hN, hl0, hR0, hlk⟩ := hX
  exact fun H locs ls hP hD hS hl => lv_iload hx hb hd (lv_at hl q hq) (kk H locs ls hP hD hS hl)
theorem z_istore_n {v : Int} {i : Fin 4} {lv1 : List (Nat × Value)} (hX : ZC G l0 cc Ts own nL R0 X) (hd : decode cc pc = .ok (.istore_n i, 1)) (hn : (i : Nat) < nL) (hf : ((i : Nat), Value.int (iI v)) :: lv.filter (fun q => !(q.1 == (i : Nat)) && !(q.1 + 1 == (i : Nat) && q.2.category == 2)) = lv1) (kk : ZW G X sh ad h k n lv1 (pc + 1) (st)) : ZW G X sh ad h k n lv pc (.int (iI v) :: st) := by
  obtain ⟨p, l, e, R, s, m, args, below, meth, c, A, Q⟩ := X
  obtain ⟨hx, hb, hml, hown, hts, hK, hA, hN, hl0, hR0, hlk⟩ := hX
  exact fun H locs ls hP hD hS hl => lv_istore_n hx hb hd rfl hl (by rw [hml]; exact hn) hf (fun ls1 hl1 => kk H locs ls1 hP hD hS hl1)
theorem z_istore {v : Int} {i : Nat} {lv1 : List (Nat × Value)} (hX : ZC G l0 cc Ts own nL R0 X) (hd : decode cc pc = .ok (.istore i, 2)) (hn : (i : Nat) < nL) (hf : ((i : Nat), Value.int (iI v)) :: lv.filter (fun q => !(q.1 == (i : Nat)) && !(q.1 + 1 == (i : Nat) && q.2.category == 2)) = lv1) (kk : ZW G X sh ad h k n lv1 (pc + 2) (st)) : ZW G X sh ad h k n lv pc (.int (iI v) :: st) := by
  obtain ⟨p, l, e, R, s, m, args, below, meth, c, A, Q⟩ := X
  obtain ⟨hx, hb, hml, hown, hts, hK, hA, hN, hl0, hR0, hlk⟩ := hX
  exact fun H locs ls hP hD hS hl => lv_istore hx hb hd hl (by rw [hml]; exact hn) hf (fun ls1 hl1 => kk H locs ls1 hP hD hS hl1)
theorem z_lload_n {v : Int64} {i : Fin 4} (hX : ZC G l0 cc Ts own nL R0 X) (hd : decode cc pc = .ok (.lload_n i, 1)) (q : Nat) (hq : lv[q]? = some ((i : Nat), .long v)) (kk : ZW G X sh ad h k n lv (pc + 1) (.long v :: st)) : ZW G X sh ad h k n lv pc (st) := by
  obtain ⟨p, l, e, R, s, m, args, below, meth, c, A, Q⟩ := X
  obtain ⟨hx, hb, hml, hown, hts, hK, hA, hN, hl0, hR0, hlk⟩ := hX
  exact fun H locs ls hP hD hS hl => lv_lload_n hx hb hd rfl (lv_at hl q hq) (kk H locs ls hP hD hS hl)
theorem z_lload {v : Int64} {i : Nat} (hX : ZC G l0 cc Ts own nL R0 X) (hd : decode cc pc = .ok (.lload i, 2)) (q : Nat) (hq : lv[q]? = some (i, .long v)) (kk : ZW G X sh ad h k n lv (pc + 2) (.long v :: st)) : ZW G X sh ad h k n lv pc (st) := by
  obtain ⟨p, l, e, R, s, m, args, below, meth, c, A, Q⟩ := X
  obtain ⟨hx, hb, hml, hown, hts, hK, hA, hN, hl0, hR0, hlk⟩ := hX
  exact fun H locs ls hP hD hS hl => lv_lload hx hb hd (lv_at hl q hq) (kk H locs ls hP hD hS hl)
theorem z_lstore_n {v : Int64} {i : Fin 4} {lv1 : List (Nat × Value)} (hX : ZC G l0 cc Ts own nL R0 X) (hd : decode cc pc = .ok (.lstore_n i, 1)) (hn : (i : Nat) + 1 < nL) (hf : ((i : Nat), Value.long v) :: lv.filter (fun q => !(q.1 == (i : Nat)) && (!(q.1 == (i : Nat) + 1) && !(q.1 + 1 == (i : Nat) && q.2.category == 2))) = lv1) (kk : ZW G X sh ad h k n lv1 (pc + 1) (st)) : ZW G X sh ad h k n lv pc (.long v :: st) := by
  obtain ⟨p, l, e, R, s, m, args, below, meth, c, A, Q⟩ := X
  obtain ⟨hx, hb, hml, hown, hts, hK, hA, hN, hl0, hR0, hlk⟩ := hX
  exact fun H locs ls hP hD hS hl => lv_lstore_n hx hb hd rfl hl (by rw [hml]; exact hn) hf (fun ls1 hl1 => kk H locs ls1 hP hD hS hl1)
theorem z_lstore {v : Int64} {i : Nat} {lv1 : List (Nat × Value)} (hX : ZC G l0 cc Ts own nL R0 X) (hd : decode cc pc = .ok (.lstore i, 2)) (hn : (i : Nat) + 1 < nL) (hf : ((i : Nat), Value.long v) :: lv.filter (fun q => !(q.1 == (i : Nat)) && (!(q.1 == (i : Nat) + 1) && !(q.1 + 1 == (i : Nat) && q.2.category == 2))) = lv1) (kk : ZW G X sh ad h k n lv1 (pc + 2) (st)) : ZW G X sh ad h k n lv pc (.long v :: st) := by
  obtain ⟨p, l, e, R, s, m, args, below, meth, c, A, Q⟩ := X
  obtain ⟨hx, hb, hml, hown, hts, hK, hA, hN, hl0, hR0, hlk⟩ := hX
  exact fun H locs ls hP hD hS hl => lv_lstore hx hb hd hl (by rw [hml]; exact hn) hf (fun ls1 hl1 => kk H locs ls1 hP hD hS hl1)
theorem z_aload_n {v : Nat} {i : Fin 4} (hX : ZC G l0 cc Ts own nL R0 X) (hd : decode cc pc = .ok (.aload_n i, 1)) (q : Nat) (hq : lv[q]? = some ((i : Nat), .ref v)) (kk : ZW G X sh ad h k n lv (pc + 1) (.ref v :: st)) : ZW G X sh ad h k n lv pc (st) := by
  obtain ⟨p, l, e, R, s, m, args, below, meth, c, A, Q⟩ := X
  obtain ⟨hx, hb, hml, hown, hts, hK, hA, hN, hl0, hR0, hlk⟩ := hX
  exact fun H locs ls hP hD hS hl => lv_aload_n hx hb hd rfl (lv_at hl q hq) (kk H locs ls hP hD hS hl)
theorem z_aload {v : Nat} {i : Nat} (hX : ZC G l0 cc Ts own nL R0 X) (hd : decode cc pc = .ok (.aload i, 2)) (q : Nat) (hq : lv[q]? = some (i, .ref v)) (kk : ZW G X sh ad h k n lv (pc + 2) (.ref v :: st)) : ZW G X sh ad h k n lv pc (st) := by
  obtain ⟨p, l, e, R, s, m, args, below, meth, c, A, Q⟩ := X
  obtain ⟨hx, hb, hml, hown, hts, hK, hA, hN, hl0, hR0, hlk⟩ := hX
  exact fun H locs ls hP hD hS hl => lv_aload hx hb hd (lv_at hl q hq) (kk H locs ls hP hD hS hl)
theorem z_astore_n {v : Nat} {i : Fin 4} {lv1 : List (Nat × Value)} (hX : ZC G l0 cc Ts own nL R0 X) (hd : decode cc pc = .ok (.astore_n i, 1)) (hn : (i : Nat) < nL) (hf : ((i : Nat), Value.ref v) :: lv.filter (fun q => !(q.1 == (i : Nat)) && !(q.1 + 1 == (i : Nat) && q.2.category == 2)) = lv1) (kk : ZW G X sh ad h k n lv1 (pc + 1) (st)) : ZW G X sh ad h k n lv pc (.ref v :: st) := by
  obtain ⟨p, l, e, R, s, m, args, below, meth, c, A, Q⟩ := X
  obtain ⟨hx, hb, hml, hown, hts, hK, hA, hN, hl0, hR0, hlk⟩ := hX
  exact fun H locs ls hP hD hS hl => lv_astore_n hx hb hd rfl hl (by rw [hml]; exact hn) hf (fun ls1 hl1 => kk H locs ls1 hP hD hS hl1)
theorem z_astore {v : Nat} {i : Nat} {lv1 : List (Nat × Value)} (hX : ZC G l0 cc Ts own nL R0 X) (hd : decode cc pc = .ok (.astore i, 2)) (hn : (i : Nat) < nL) (hf : ((i : Nat), Value.ref v) :: lv.filter (fun q => !(q.1 == (i : Nat)) && !(q.1 + 1 == (i : Nat) && q.2.category == 2)) = lv1) (kk : ZW G X sh ad h k n lv1 (pc + 2) (st)) : ZW G X sh ad h k n lv pc (.ref v :: st) := by
  obtain ⟨p, l, e, R, s, m, args, below, meth, c, A, Q⟩ := X
  obtain ⟨hx, hb, hml, hown, hts, hK, hA, hN, hl0, hR0, hlk⟩ := hX
  exact fun H locs ls hP hD hS hl => lv_astore hx hb hd hl (by rw [hml]; exact hn) hf (fun ls1 hl1 => kk H locs ls1 hP hD hS hl1)
theorem z_iinc {v d : Int} {i : Nat} {lv1 : List (Nat × Value)} (hX : ZC G l0 cc Ts own nL R0 X) (hd : decode cc pc = .ok (.iinc i d, 3)) (q : Nat) (hq : lv[q]? = some (i, .int (iI v))) (hn : i < nL) (hf : (i, Value.int (iI (v + d))) :: lv.filter (fun q => !(q.1 == i) && !(q.1 + 1 == i && q.2.category == 2)) = lv1) (kk : ZW G X sh ad h k n lv1 (pc + 3) (st)) : ZW G X sh ad h k n lv pc (st) := by
  obtain ⟨p, l, e, R, s, m, args, below, meth, c, A, Q⟩ := X
  obtain ⟨hx, hb, hml, hown, hts, hK, hA, hN, hl0, hR0, hlk⟩ := hX
  exact fun H locs ls hP hD hS hl => lv_iinc (v := iI (v + d)) hx hb hd hl hq (iI_add v d) (by rw [hml]; exact hn) hf (fun ls1 hl1 => kk H locs ls1 hP hD hS hl1)
theorem z_iadd {x y : Int} (hX : ZC G l0 cc Ts own nL R0 X) (hd : decode cc pc = .ok (.iadd, 1)) (kk : ZW G X sh ad h k n lv (pc + 1) (.int (iI (x + y)) :: st)) : ZW G X sh ad h k n lv pc (.int (iI y) :: .int (iI x) :: st) := by
  obtain ⟨p, l, e, R, s, m, args, below, meth, c, A, Q⟩ := X
  obtain ⟨hx, hb, hml, hown, hts, hK, hA, hN, hl0, hR0, hlk⟩ := hX
  exact fun H locs ls hP hD hS hl => lv_iadd hx hb hd (by rw [iI_add]; exact kk H locs ls hP hD hS hl)
theorem z_isub {x y : Int} (hX : ZC G l0 cc Ts own nL R0 X) (hd : decode cc pc = .ok (.isub, 1)) (kk : ZW G X sh ad h k n lv (pc + 1) (.int (iI (x - y)) :: st)) : ZW G X sh ad h k n lv pc (.int (iI y) :: .int (iI x) :: st) := by
  obtain ⟨p, l, e, R, s, m, args, below, meth, c, A, Q⟩ := X
  obtain ⟨hx, hb, hml, hown, hts, hK, hA, hN, hl0, hR0, hlk⟩ := hX
  exact fun H locs ls hP hD hS hl => lv_isub hx hb hd (by rw [iI_sub]; exact kk H locs ls hP hD hS hl)
theorem z_imul {x y : Int} (hX : ZC G l0 cc Ts own nL R0 X) (hd : decode cc pc = .ok (.imul, 1)) (kk : ZW G X sh ad h k n lv (pc + 1) (.int (iI (x * y)) :: st)) : ZW G X sh ad h k n lv pc (.int (iI y) :: .int (iI x) :: st) := by
  obtain ⟨p, l, e, R, s, m, args, below, meth, c, A, Q⟩ := X
  obtain ⟨hx, hb, hml, hown, hts, hK, hA, hN, hl0, hR0, hlk⟩ := hX
  exact fun H locs ls hP hD hS hl => lv_imul hx hb hd (by rw [iI_mul]; exact kk H locs ls hP hD hS hl)
theorem z_ineg {x : Int} (hX : ZC G l0 cc Ts own nL R0 X) (hd : decode cc pc = .ok (.ineg, 1)) (kk : ZW G X sh ad h k n lv (pc + 1) (.int (iI (-x)) :: st)) : ZW G X sh ad h k n lv pc (.int (iI x) :: st) := by
  obtain ⟨p, l, e, R, s, m, args, below, meth, c, A, Q⟩ := X
  obtain ⟨hx, hb, hml, hown, hts, hK, hA, hN, hl0, hR0, hlk⟩ := hX
  exact fun H locs ls hP hD hS hl => lv_ineg hx hb hd (by rw [iI_neg]; exact kk H locs ls hP hD hS hl)
theorem iI_ne0 {d : Int} (h : 0 < d ∧ d < 2147483648) : ¬ iI d = 0 := by
  intro e
  have e2 : iI d = iI 0 := e
  rw [iI_eq, wr_of (by omega) (by omega), wr_of (by omega) (by omega)] at e2
  omega
theorem z_idiv {x d : Int} {α : Type} {B : Option α} {o : α} (hX : ZC G l0 cc Ts own nL R0 X) (hd : decode cc pc = .ok (.idiv, 1)) (h0 : 0 < d ∧ d < 2147483648) (hr : (if 0 ≤ x ∧ x < 2147483648 then B else none) = some o) (kk : B = some o → ZW G X sh ad h k n lv (pc + 1) (.int (iI (x / d)) :: st)) : ZW G X sh ad h k n lv pc (.int (iI d) :: .int (iI x) :: st) := by
  obtain ⟨p, l, e, R, s, m, args, below, meth, c, A, Q⟩ := X
  obtain ⟨hx, hb, hml, hown, hts, hK, hA, hN, hl0, hR0, hlk⟩ := hX
  by_cases hg : 0 ≤ x ∧ x < 2147483648
  · rw [if_pos hg] at hr
    have kk := kk hr
    exact fun H locs ls hP hD hS hl => lv_idiv hx hb hd (iI_ne0 h0) (by rw [iI_div hg h0]; exact kk H locs ls hP hD hS hl)
  · rw [if_neg hg] at hr
    cases hr
theorem z_irem {x d : Int} {α : Type} {B : Option α} {o : α} (hX : ZC G l0 cc Ts own nL R0 X) (hd : decode cc pc = .ok (.irem, 1)) (h0 : 0 < d ∧ d < 2147483648) (hr : (if 0 ≤ x ∧ x < 2147483648 then B else none) = some o) (kk : B = some o → ZW G X sh ad h k n lv (pc + 1) (.int (iI (x % d)) :: st)) : ZW G X sh ad h k n lv pc (.int (iI d) :: .int (iI x) :: st) := by
  obtain ⟨p, l, e, R, s, m, args, below, meth, c, A, Q⟩ := X
  obtain ⟨hx, hb, hml, hown, hts, hK, hA, hN, hl0, hR0, hlk⟩ := hX
  by_cases hg : 0 ≤ x ∧ x < 2147483648
  · rw [if_pos hg] at hr
    have kk := kk hr
    exact fun H locs ls hP hD hS hl => lv_irem hx hb hd (iI_ne0 h0) (by rw [iI_rem hg h0]; exact kk H locs ls hP hD hS hl)
  · rw [if_neg hg] at hr
    cases hr
theorem z_ladd {x y : Int64} (hX : ZC G l0 cc Ts own nL R0 X) (hd : decode cc pc = .ok (.ladd, 1)) (kk : ZW G X sh ad h k n lv (pc + 1) (.long (x + y) :: st)) : ZW G X sh ad h k n lv pc (.long y :: .long x :: st) := by
  obtain ⟨p, l, e, R, s, m, args, below, meth, c, A, Q⟩ := X
  obtain ⟨hx, hb, hml, hown, hts, hK, hA, hN, hl0, hR0, hlk⟩ := hX
  exact fun H locs ls hP hD hS hl => lv_ladd hx hb hd (kk H locs ls hP hD hS hl)
theorem z_lmul {x y : Int64} (hX : ZC G l0 cc Ts own nL R0 X) (hd : decode cc pc = .ok (.lmul, 1)) (kk : ZW G X sh ad h k n lv (pc + 1) (.long (x * y) :: st)) : ZW G X sh ad h k n lv pc (.long y :: .long x :: st) := by
  obtain ⟨p, l, e, R, s, m, args, below, meth, c, A, Q⟩ := X
  obtain ⟨hx, hb, hml, hown, hts, hK, hA, hN, hl0, hR0, hlk⟩ := hX
  exact fun H locs ls hP hD hS hl => lv_lmul hx hb hd (kk H locs ls hP hD hS hl)
theorem z_land {x y : Int64} (hX : ZC G l0 cc Ts own nL R0 X) (hd : decode cc pc = .ok (.land, 1)) (kk : ZW G X sh ad h k n lv (pc + 1) (.long (x &&& y) :: st)) : ZW G X sh ad h k n lv pc (.long y :: .long x :: st) := by
  obtain ⟨p, l, e, R, s, m, args, below, meth, c, A, Q⟩ := X
  obtain ⟨hx, hb, hml, hown, hts, hK, hA, hN, hl0, hR0, hlk⟩ := hX
  exact fun H locs ls hP hD hS hl => lv_land hx hb hd (kk H locs ls hP hD hS hl)
theorem z_lor {x y : Int64} (hX : ZC G l0 cc Ts own nL R0 X) (hd : decode cc pc = .ok (.lor, 1)) (kk : ZW G X sh ad h k n lv (pc + 1) (.long (x ||| y) :: st)) : ZW G X sh ad h k n lv pc (.long y :: .long x :: st) := by
  obtain ⟨p, l, e, R, s, m, args, below, meth, c, A, Q⟩ := X
  obtain ⟨hx, hb, hml, hown, hts, hK, hA, hN, hl0, hR0, hlk⟩ := hX
  exact fun H locs ls hP hD hS hl => lv_lor hx hb hd (kk H locs ls hP hD hS hl)
theorem z_i2l {x : Int} (hX : ZC G l0 cc Ts own nL R0 X) (hd : decode cc pc = .ok (.i2l, 1)) (kk : ZW G X sh ad h k n lv (pc + 1) (.long (iI x).toInt64 :: st)) : ZW G X sh ad h k n lv pc (.int (iI x) :: st) := by
  obtain ⟨p, l, e, R, s, m, args, below, meth, c, A, Q⟩ := X
  obtain ⟨hx, hb, hml, hown, hts, hK, hA, hN, hl0, hR0, hlk⟩ := hX
  exact fun H locs ls hP hD hS hl => lv_i2l hx hb hd rfl (kk H locs ls hP hD hS hl)
def zshl (x : Int64) (y : Int) : Int64 := x <<< ((iI y).toInt64 &&& 63)
def zushr (x : Int64) (y : Int) : Int64 := (x.toUInt64 >>> ((iI y).toInt64.toUInt64 &&& Int64.toUInt64 63)).toInt64
def zcmp (x y : Int64) : Int := if y < x then 1 else if x = y then 0 else -1
theorem z_lshl {x : Int64} {y : Int} (hX : ZC G l0 cc Ts own nL R0 X) (hd : decode cc pc = .ok (.lshl, 1)) (kk : ZW G X sh ad h k n lv (pc + 1) (.long (zshl x y) :: st)) : ZW G X sh ad h k n lv pc (.int (iI y) :: .long x :: st) := by
  obtain ⟨p, l, e, R, s, m, args, below, meth, c, A, Q⟩ := X
  obtain ⟨hx, hb, hml, hown, hts, hK, hA, hN, hl0, hR0, hlk⟩ := hX
  exact fun H locs ls hP hD hS hl => lv_lshl hx hb hd rfl (kk H locs ls hP hD hS hl)
theorem z_lushr {x : Int64} {y : Int} (hX : ZC G l0 cc Ts own nL R0 X) (hd : decode cc pc = .ok (.lushr, 1)) (kk : ZW G X sh ad h k n lv (pc + 1) (.long (zushr x y) :: st)) : ZW G X sh ad h k n lv pc (.int (iI y) :: .long x :: st) := by
  obtain ⟨p, l, e, R, s, m, args, below, meth, c, A, Q⟩ := X
  obtain ⟨hx, hb, hml, hown, hts, hK, hA, hN, hl0, hR0, hlk⟩ := hX
  exact fun H locs ls hP hD hS hl => lv_lushr hx hb hd rfl (kk H locs ls hP hD hS hl)
theorem zcmp_lg (x y : Int64) : lg_cmp x y = iI (zcmp x y) := by
  unfold lg_cmp zcmp
  by_cases h1 : y < x
  · simp [h1]; rfl
  · by_cases h2 : x = y
    · subst h2; simp [h1]; rfl
    · simp [h1, h2]; rfl
theorem z_lcmp {x y : Int64} (hX : ZC G l0 cc Ts own nL R0 X) (hd : decode cc pc = .ok (.lcmp, 1)) (kk : ZW G X sh ad h k n lv (pc + 1) (.int (iI (zcmp x y)) :: st)) : ZW G X sh ad h k n lv pc (.long y :: .long x :: st) := by
  obtain ⟨p, l, e, R, s, m, args, below, meth, c, A, Q⟩ := X
  obtain ⟨hx, hb, hml, hown, hts, hK, hA, hN, hl0, hR0, hlk⟩ := hX
  exact fun H locs ls hP hD hS hl => W.lcmp hx hb hd (by rw [zcmp_lg]; exact kk H locs ls hP hD hS hl)
theorem z_dup {va : Value} (hX : ZC G l0 cc Ts own nL R0 X) (hd : decode cc pc = .ok (.dup, 1)) (hc : va.category = 1) (kk : ZW G X sh ad h k n lv (pc + 1) (va :: va :: st)) : ZW G X sh ad h k n lv pc (va :: st) := by
  obtain ⟨p, l, e, R, s, m, args, below, meth, c, A, Q⟩ := X
  obtain ⟨hx, hb, hml, hown, hts, hK, hA, hN, hl0, hR0, hlk⟩ := hX
  exact fun H locs ls hP hD hS hl => lv_dup hx hb hd hc (kk H locs ls hP hD hS hl)
theorem z_pop {va : Value} (hX : ZC G l0 cc Ts own nL R0 X) (hd : decode cc pc = .ok (.pop, 1)) (hc : va.category = 1) (kk : ZW G X sh ad h k n lv (pc + 1) (st)) : ZW G X sh ad h k n lv pc (va :: st) := by
  obtain ⟨p, l, e, R, s, m, args, below, meth, c, A, Q⟩ := X
  obtain ⟨hx, hb, hml, hown, hts, hK, hA, hN, hl0, hR0, hlk⟩ := hX
  exact fun H locs ls hP hD hS hl => lv_pop hx hb hd hc (kk H locs ls hP hD hS hl)
theorem z_dup2 {va vb : Value} (hX : ZC G l0 cc Ts own nL R0 X) (hd : decode cc pc = .ok (.dup2, 1)) (hc : va.category = 1) (hc2 : vb.category = 1) (kk : ZW G X sh ad h k n lv (pc + 1) (va :: vb :: va :: vb :: st)) : ZW G X sh ad h k n lv pc (va :: vb :: st) := by
  obtain ⟨p, l, e, R, s, m, args, below, meth, c, A, Q⟩ := X
  obtain ⟨hx, hb, hml, hown, hts, hK, hA, hN, hl0, hR0, hlk⟩ := hX
  exact fun H locs ls hP hD hS hl => lv_dup2_11 hx hb hd hc hc2 (kk H locs ls hP hD hS hl)
theorem z_goto {off : Int} {tgt : Nat} (hX : ZC G l0 cc Ts own nL R0 X) (hd : decode cc pc = .ok (.goto off, 3)) (ht : (pc : Int) + off = (tgt : Int)) (kk : ZW G X sh ad h k n lv tgt (st)) : ZW G X sh ad h k n lv pc (st) := by
  obtain ⟨p, l, e, R, s, m, args, below, meth, c, A, Q⟩ := X
  obtain ⟨hx, hb, hml, hown, hts, hK, hA, hN, hl0, hR0, hlk⟩ := hX
  exact fun H locs ls hP hD hS hl => lv_goto hx hb hd ht (kk H locs ls hP hD hS hl)
theorem z_icmp_eq {x y x1 y1 : Int} {off : Int} {tgt : Nat} {α : Type} {B1 B2 : Option α} {o : α} (hX : ZC G l0 cc Ts own nL R0 X) (hd : decode cc pc = .ok (.if_icmp .eq off, 3)) (ht : (pc : Int) + off = (tgt : Int)) (h1 : wr x = x1) (h2 : wr y = y1) (hr : (if x1 = y1 then B1 else B2) = some o) (kt : B1 = some o → ZW G X sh ad h k n lv tgt (st)) (kf : B2 = some o → ZW G X sh ad h k n lv (pc + 3) (st)) : ZW G X sh ad h k n lv pc (.int (iI y) :: .int (iI x) :: st) := by
  obtain ⟨p, l, e, R, s, m, args, below, meth, c, A, Q⟩ := X
  obtain ⟨hx, hb, hml, hown, hts, hK, hA, hN, hl0, hR0, hlk⟩ := hX
  subst h1; subst h2
  refine fun H locs ls hP hD hS hl => lv_icmp_eq hx hb hd ht (fun hc => ?_) (fun hc => ?_)
  · exact kt (by rw [if_pos (by simpa [iI_eq, iI_lt, iI_le] using hc)] at hr; exact hr) H locs ls hP hD hS hl
  · exact kf (by rw [if_neg (by simpa [iI_eq, iI_lt, iI_le] using hc)] at hr; exact hr) H locs ls hP hD hS hl
theorem z_if_eq {x x1 : Int} {off : Int} {tgt : Nat} {α : Type} {B1 B2 : Option α} {o : α} (hX : ZC G l0 cc Ts own nL R0 X) (hd : decode cc pc = .ok (.ifCond .eq off, 3)) (ht : (pc : Int) + off = (tgt : Int)) (h1 : wr x = x1) (hr : (if x1 = 0 then B1 else B2) = some o) (kt : B1 = some o → ZW G X sh ad h k n lv tgt (st)) (kf : B2 = some o → ZW G X sh ad h k n lv (pc + 3) (st)) : ZW G X sh ad h k n lv pc (.int (iI x) :: st) := by
  obtain ⟨p, l, e, R, s, m, args, below, meth, c, A, Q⟩ := X
  obtain ⟨hx, hb, hml, hown, hts, hK, hA, hN, hl0, hR0, hlk⟩ := hX
  subst h1
  have e0 : (0 : Int32) = iI 0 := rfl
  have w0 : wr 0 = 0 := wr_of (by omega) (by omega)
  refine fun H locs ls hP hD hS hl => lv_if_eq hx hb hd ht (fun hc => ?_) (fun hc => ?_)
  · exact kt (by rw [if_pos (by simpa [e0, iI_eq, iI_lt, iI_le, w0] using hc)] at hr; exact hr) H locs ls hP hD hS hl
  · exact kf (by rw [if_neg (by simpa [e0, iI_eq, iI_lt, iI_le, w0] using hc)] at hr; exact hr) H locs ls hP hD hS hl
theorem z_icmp_ne {x y x1 y1 : Int} {off : Int} {tgt : Nat} {α : Type} {B1 B2 : Option α} {o : α} (hX : ZC G l0 cc Ts own nL R0 X) (hd : decode cc pc = .ok (.if_icmp .ne off, 3)) (ht : (pc : Int) + off = (tgt : Int)) (h1 : wr x = x1) (h2 : wr y = y1) (hr : (if x1 = y1 then B2 else B1) = some o) (kt : B1 = some o → ZW G X sh ad h k n lv tgt (st)) (kf : B2 = some o → ZW G X sh ad h k n lv (pc + 3) (st)) : ZW G X sh ad h k n lv pc (.int (iI y) :: .int (iI x) :: st) := by
  obtain ⟨p, l, e, R, s, m, args, below, meth, c, A, Q⟩ := X
  obtain ⟨hx, hb, hml, hown, hts, hK, hA, hN, hl0, hR0, hlk⟩ := hX
  subst h1; subst h2
  refine fun H locs ls hP hD hS hl => lv_icmp_ne hx hb hd ht (fun hc => ?_) (fun hc => ?_)
  · exact kt (by rw [if_neg (by simpa [iI_eq, iI_lt, iI_le] using hc)] at hr; exact hr) H locs ls hP hD hS hl
  · exact kf (by rw [if_pos (by simpa [iI_eq, iI_lt, iI_le] using hc)] at hr; exact hr) H locs ls hP hD hS hl
theorem z_if_ne {x x1 : Int} {off : Int} {tgt : Nat} {α : Type} {B1 B2 : Option α} {o : α} (hX : ZC G l0 cc Ts own nL R0 X) (hd : decode cc pc = .ok (.ifCond .ne off, 3)) (ht : (pc : Int) + off = (tgt : Int)) (h1 : wr x = x1) (hr : (if x1 = 0 then B2 else B1) = some o) (kt : B1 = some o → ZW G X sh ad h k n lv tgt (st)) (kf : B2 = some o → ZW G X sh ad h k n lv (pc + 3) (st)) : ZW G X sh ad h k n lv pc (.int (iI x) :: st) := by
  obtain ⟨p, l, e, R, s, m, args, below, meth, c, A, Q⟩ := X
  obtain ⟨hx, hb, hml, hown, hts, hK, hA, hN, hl0, hR0, hlk⟩ := hX
  subst h1
  have e0 : (0 : Int32) = iI 0 := rfl
  have w0 : wr 0 = 0 := wr_of (by omega) (by omega)
  refine fun H locs ls hP hD hS hl => lv_if_ne hx hb hd ht (fun hc => ?_) (fun hc => ?_)
  · exact kt (by rw [if_neg (by simpa [e0, iI_eq, iI_lt, iI_le, w0] using hc)] at hr; exact hr) H locs ls hP hD hS hl
  · exact kf (by rw [if_pos (by simpa [e0, iI_eq, iI_lt, iI_le, w0] using hc)] at hr; exact hr) H locs ls hP hD hS hl
theorem z_icmp_lt {x y x1 y1 : Int} {off : Int} {tgt : Nat} {α : Type} {B1 B2 : Option α} {o : α} (hX : ZC G l0 cc Ts own nL R0 X) (hd : decode cc pc = .ok (.if_icmp .lt off, 3)) (ht : (pc : Int) + off = (tgt : Int)) (h1 : wr x = x1) (h2 : wr y = y1) (hr : (if x1 < y1 then B1 else B2) = some o) (kt : B1 = some o → ZW G X sh ad h k n lv tgt (st)) (kf : B2 = some o → ZW G X sh ad h k n lv (pc + 3) (st)) : ZW G X sh ad h k n lv pc (.int (iI y) :: .int (iI x) :: st) := by
  obtain ⟨p, l, e, R, s, m, args, below, meth, c, A, Q⟩ := X
  obtain ⟨hx, hb, hml, hown, hts, hK, hA, hN, hl0, hR0, hlk⟩ := hX
  subst h1; subst h2
  refine fun H locs ls hP hD hS hl => lv_icmp_lt hx hb hd ht (fun hc => ?_) (fun hc => ?_)
  · exact kt (by rw [if_pos (by simpa [iI_eq, iI_lt, iI_le] using hc)] at hr; exact hr) H locs ls hP hD hS hl
  · exact kf (by rw [if_neg (by simpa [iI_eq, iI_lt, iI_le] using hc)] at hr; exact hr) H locs ls hP hD hS hl
theorem z_if_lt {x x1 : Int} {off : Int} {tgt : Nat} {α : Type} {B1 B2 : Option α} {o : α} (hX : ZC G l0 cc Ts own nL R0 X) (hd : decode cc pc = .ok (.ifCond .lt off, 3)) (ht : (pc : Int) + off = (tgt : Int)) (h1 : wr x = x1) (hr : (if x1 < 0 then B1 else B2) = some o) (kt : B1 = some o → ZW G X sh ad h k n lv tgt (st)) (kf : B2 = some o → ZW G X sh ad h k n lv (pc + 3) (st)) : ZW G X sh ad h k n lv pc (.int (iI x) :: st) := by
  obtain ⟨p, l, e, R, s, m, args, below, meth, c, A, Q⟩ := X
  obtain ⟨hx, hb, hml, hown, hts, hK, hA, hN, hl0, hR0, hlk⟩ := hX
  subst h1
  have e0 : (0 : Int32) = iI 0 := rfl
  have w0 : wr 0 = 0 := wr_of (by omega) (by omega)
  refine fun H locs ls hP hD hS hl => lv_if_lt hx hb hd ht (fun hc => ?_) (fun hc => ?_)
  · exact kt (by rw [if_pos (by simpa [e0, iI_eq, iI_lt, iI_le, w0] using hc)] at hr; exact hr) H locs ls hP hD hS hl
  · exact kf (by rw [if_neg (by simpa [e0, iI_eq, iI_lt, iI_le, w0] using hc)] at hr; exact hr) H locs ls hP hD hS hl
theorem z_icmp_ge {x y x1 y1 : Int} {off : Int} {tgt : Nat} {α : Type} {B1 B2 : Option α} {o : α} (hX : ZC G l0 cc Ts own nL R0 X) (hd : decode cc pc = .ok (.if_icmp .ge off, 3)) (ht : (pc : Int) + off = (tgt : Int)) (h1 : wr x = x1) (h2 : wr y = y1) (hr : (if y1 ≤ x1 then B1 else B2) = some o) (kt : B1 = some o → ZW G X sh ad h k n lv tgt (st)) (kf : B2 = some o → ZW G X sh ad h k n lv (pc + 3) (st)) : ZW G X sh ad h k n lv pc (.int (iI y) :: .int (iI x) :: st) := by
  obtain ⟨p, l, e, R, s, m, args, below, meth, c, A, Q⟩ := X
  obtain ⟨hx, hb, hml, hown, hts, hK, hA, hN, hl0, hR0, hlk⟩ := hX
  subst h1; subst h2
  refine fun H locs ls hP hD hS hl => lv_icmp_ge hx hb hd ht (fun hc => ?_) (fun hc => ?_)
  · exact kt (by rw [if_pos (by simpa [iI_eq, iI_lt, iI_le] using hc)] at hr; exact hr) H locs ls hP hD hS hl
  · exact kf (by rw [if_neg (by simpa [iI_eq, iI_lt, iI_le] using hc)] at hr; exact hr) H locs ls hP hD hS hl
theorem z_if_ge {x x1 : Int} {off : Int} {tgt : Nat} {α : Type} {B1 B2 : Option α} {o : α} (hX : ZC G l0 cc Ts own nL R0 X) (hd : decode cc pc = .ok (.ifCond .ge off, 3)) (ht : (pc : Int) + off = (tgt : Int)) (h1 : wr x = x1) (hr : (if 0 ≤ x1 then B1 else B2) = some o) (kt : B1 = some o → ZW G X sh ad h k n lv tgt (st)) (kf : B2 = some o → ZW G X sh ad h k n lv (pc + 3) (st)) : ZW G X sh ad h k n lv pc (.int (iI x) :: st) := by
  obtain ⟨p, l, e, R, s, m, args, below, meth, c, A, Q⟩ := X
  obtain ⟨hx, hb, hml, hown, hts, hK, hA, hN, hl0, hR0, hlk⟩ := hX
  subst h1
  have e0 : (0 : Int32) = iI 0 := rfl
  have w0 : wr 0 = 0 := wr_of (by omega) (by omega)
  refine fun H locs ls hP hD hS hl => lv_if_ge hx hb hd ht (fun hc => ?_) (fun hc => ?_)
  · exact kt (by rw [if_pos (by simpa [e0, iI_eq, iI_lt, iI_le, w0] using hc)] at hr; exact hr) H locs ls hP hD hS hl
  · exact kf (by rw [if_neg (by simpa [e0, iI_eq, iI_lt, iI_le, w0] using hc)] at hr; exact hr) H locs ls hP hD hS hl
theorem z_icmp_gt {x y x1 y1 : Int} {off : Int} {tgt : Nat} {α : Type} {B1 B2 : Option α} {o : α} (hX : ZC G l0 cc Ts own nL R0 X) (hd : decode cc pc = .ok (.if_icmp .gt off, 3)) (ht : (pc : Int) + off = (tgt : Int)) (h1 : wr x = x1) (h2 : wr y = y1) (hr : (if y1 < x1 then B1 else B2) = some o) (kt : B1 = some o → ZW G X sh ad h k n lv tgt (st)) (kf : B2 = some o → ZW G X sh ad h k n lv (pc + 3) (st)) : ZW G X sh ad h k n lv pc (.int (iI y) :: .int (iI x) :: st) := by
  obtain ⟨p, l, e, R, s, m, args, below, meth, c, A, Q⟩ := X
  obtain ⟨hx, hb, hml, hown, hts, hK, hA, hN, hl0, hR0, hlk⟩ := hX
  subst h1; subst h2
  refine fun H locs ls hP hD hS hl => lv_icmp_gt hx hb hd ht (fun hc => ?_) (fun hc => ?_)
  · exact kt (by rw [if_pos (by simpa [iI_eq, iI_lt, iI_le] using hc)] at hr; exact hr) H locs ls hP hD hS hl
  · exact kf (by rw [if_neg (by simpa [iI_eq, iI_lt, iI_le] using hc)] at hr; exact hr) H locs ls hP hD hS hl
theorem z_if_gt {x x1 : Int} {off : Int} {tgt : Nat} {α : Type} {B1 B2 : Option α} {o : α} (hX : ZC G l0 cc Ts own nL R0 X) (hd : decode cc pc = .ok (.ifCond .gt off, 3)) (ht : (pc : Int) + off = (tgt : Int)) (h1 : wr x = x1) (hr : (if 0 < x1 then B1 else B2) = some o) (kt : B1 = some o → ZW G X sh ad h k n lv tgt (st)) (kf : B2 = some o → ZW G X sh ad h k n lv (pc + 3) (st)) : ZW G X sh ad h k n lv pc (.int (iI x) :: st) := by
  obtain ⟨p, l, e, R, s, m, args, below, meth, c, A, Q⟩ := X
  obtain ⟨hx, hb, hml, hown, hts, hK, hA, hN, hl0, hR0, hlk⟩ := hX
  subst h1
  have e0 : (0 : Int32) = iI 0 := rfl
  have w0 : wr 0 = 0 := wr_of (by omega) (by omega)
  refine fun H locs ls hP hD hS hl => lv_if_gt hx hb hd ht (fun hc => ?_) (fun hc => ?_)
  · exact kt (by rw [if_pos (by simpa [e0, iI_eq, iI_lt, iI_le, w0] using hc)] at hr; exact hr) H locs ls hP hD hS hl
  · exact kf (by rw [if_neg (by simpa [e0, iI_eq, iI_lt, iI_le, w0] using hc)] at hr; exact hr) H locs ls hP hD hS hl
theorem z_icmp_le {x y x1 y1 : Int} {off : Int} {tgt : Nat} {α : Type} {B1 B2 : Option α} {o : α} (hX : ZC G l0 cc Ts own nL R0 X) (hd : decode cc pc = .ok (.if_icmp .le off, 3)) (ht : (pc : Int) + off = (tgt : Int)) (h1 : wr x = x1) (h2 : wr y = y1) (hr : (if x1 ≤ y1 then B1 else B2) = some o) (kt : B1 = some o → ZW G X sh ad h k n lv tgt (st)) (kf : B2 = some o → ZW G X sh ad h k n lv (pc + 3) (st)) : ZW G X sh ad h k n lv pc (.int (iI y) :: .int (iI x) :: st) := by
  obtain ⟨p, l, e, R, s, m, args, below, meth, c, A, Q⟩ := X
  obtain ⟨hx, hb, hml, hown, hts, hK, hA, hN, hl0, hR0, hlk⟩ := hX
  subst h1; subst h2
  refine fun H locs ls hP hD hS hl => lv_icmp_le hx hb hd ht (fun hc => ?_) (fun hc => ?_)
  · exact kt (by rw [if_pos (by simpa [iI_eq, iI_lt, iI_le] using hc)] at hr; exact hr) H locs ls hP hD hS hl
  · exact kf (by rw [if_neg (by simpa [iI_eq, iI_lt, iI_le] using hc)] at hr; exact hr) H locs ls hP hD hS hl
theorem z_if_le {x x1 : Int} {off : Int} {tgt : Nat} {α : Type} {B1 B2 : Option α} {o : α} (hX : ZC G l0 cc Ts own nL R0 X) (hd : decode cc pc = .ok (.ifCond .le off, 3)) (ht : (pc : Int) + off = (tgt : Int)) (h1 : wr x = x1) (hr : (if x1 ≤ 0 then B1 else B2) = some o) (kt : B1 = some o → ZW G X sh ad h k n lv tgt (st)) (kf : B2 = some o → ZW G X sh ad h k n lv (pc + 3) (st)) : ZW G X sh ad h k n lv pc (.int (iI x) :: st) := by
  obtain ⟨p, l, e, R, s, m, args, below, meth, c, A, Q⟩ := X
  obtain ⟨hx, hb, hml, hown, hts, hK, hA, hN, hl0, hR0, hlk⟩ := hX
  subst h1
  have e0 : (0 : Int32) = iI 0 := rfl
  have w0 : wr 0 = 0 := wr_of (by omega) (by omega)
  refine fun H locs ls hP hD hS hl => lv_if_le hx hb hd ht (fun hc => ?_) (fun hc => ?_)
  · exact kt (by rw [if_pos (by simpa [e0, iI_eq, iI_lt, iI_le, w0] using hc)] at hr; exact hr) H locs ls hP hD hS hl
  · exact kf (by rw [if_neg (by simpa [e0, iI_eq, iI_lt, iI_le, w0] using hc)] at hr; exact hr) H locs ls hP hD hS hl
theorem z_iaload {a N : Nat} {i b : Int} {α : Type} {B : Option α} {o : α} (hX : ZC G l0 cc Ts own nL R0 X) (hd : decode cc pc = .ok (.iaload, 1)) (q : Nat) (hq : sh[q]? = some (a, .inl N)) (hN0 : N < 2147483648) (hb0 : (N : Int) = b) (hr : (if 0 ≤ i ∧ i < b then B else none) = some o) (kk : B = some o → ZW G X sh ad h k n lv (pc + 1) (.int (iI (h a i)) :: st)) : ZW G X sh ad h k n lv pc (.int (iI i) :: .ref (ad a) :: st) := by
  obtain ⟨p, l, e, R, s, m, args, below, meth, c, A, Q⟩ := X
  obtain ⟨hx, hb, hml, hown, hts, hK, hA, hN, hl0, hR0, hlk⟩ := hX
  by_cases hg : 0 ≤ i ∧ i < b
  · rw [if_pos hg] at hr
    have kk := kk hr
    subst hb0
    refine fun H locs ls hP hD hS hl => va_iald hx hb hK hP q 0 (wz_at hq) rfl (iI_in hg hN0) hd ?_
    show W p l e R s m args below meth c H locs k n Q (F0 m (pc + 1) ls (.int (iI (h a ((iI i).toNatClampNeg : Nat))) :: st))
    rw [iI_cl hg hN0, Int.toNat_of_nonneg hg.1]
    exact kk H locs ls hP hD hS hl
  · rw [if_neg hg] at hr
    cases hr
theorem z_upd {f : Int → Int} {i v : Int} (h0 : 0 ≤ i) : upd (fun j : Nat => iI (f (j : Int))) i.toNat (iI v) = fun j : Nat => iI (if (j : Int) = i then v else f (j : Int)) := by
  funext j
  unfold upd
  by_cases hj : j = i.toNat
  · rw [if_pos hj, if_pos (by omega)]
  · rw [if_neg hj, if_neg (by omega)]
theorem z_iastore {a N : Nat} {i v b : Int} {α : Type} {B : Option α} {o : α} (hX : ZC G l0 cc Ts own nL R0 X) (hd : decode cc pc = .ok (.iastore, 1)) (q : Nat) (hq : sh[q]? = some (a, .inl N)) (hN0 : N < 2147483648) (hb0 : (N : Int) = b) (hr : (if 0 ≤ i ∧ i < b then B else none) = some o) (kk : B = some o → ZW G X sh ad (hs h a i v) k n lv (pc + 1) (st)) : ZW G X sh ad h k n lv pc (.int (iI v) :: .int (iI i) :: .ref (ad a) :: st) := by
  obtain ⟨p, l, e, R, s, m, args, below, meth, c, A, Q⟩ := X
  obtain ⟨hx, hb, hml, hown, hts, hK, hA, hN, hl0, hR0, hlk⟩ := hX
  by_cases hg : 0 ≤ i ∧ i < b
  · rw [if_pos hg] at hr
    have kk := kk hr
    subst hb0
    refine fun H locs ls hP hD hS hl => va_iast hx hb hK hP hD hS q 0 (wz_at hq) rfl (iI_in hg hN0) hd (fun H1 locs1 hP1 hD1 hS1 => ?_)
    have e1 : (wz G sh ad h).set q (ad a, .inl (G.2.1, N, .inl (upd (fun j : Nat => iI (h a (j : Int))) (iI i).toNatClampNeg (iI v)))) = wz G sh ad (hs h a i v) := by
      refine wz_set hD hq ?_ (fun j hj => hs_ne _ _ _ hj)
      rw [iI_cl hg hN0, z_upd hg.1]
      unfold ze
      simp only [hs_eq]
    have hP2 : va_P G.1 vwCl ((wz G sh ad h).set q (ad a, .inl (G.2.1, N, .inl (upd (fun j : Nat => iI (h a (j : Int))) (iI i).toNatClampNeg (iI v))))) H1 := hP1
    have hD2 : va_D A ((wz G sh ad h).set q (ad a, .inl (G.2.1, N, .inl (upd (fun j : Nat => iI (h a (j : Int))) (iI i).toNatClampNeg (iI v))))) := hD1
    rw [e1] at hP2 hD2
    exact kk H1 locs1 ls hP2 hD2 hS1 hl
  · rw [if_neg hg] at hr
    cases hr
theorem z_alen {a N : Nat} (hX : ZC G l0 cc Ts own nL R0 X) (hd : decode cc pc = .ok (.arraylength, 1)) (q : Nat) (hq : sh[q]? = some (a, .inl N)) (kk : ZW G X sh ad h k n lv (pc + 1) (.int (iI (N : Int)) :: st)) : ZW G X sh ad h k n lv pc (.ref (ad a) :: st) := by
  obtain ⟨p, l, e, R, s, m, args, below, meth, c, A, Q⟩ := X
  obtain ⟨hx, hb, hml, hown, hts, hK, hA, hN, hl0, hR0, hlk⟩ := hX
  exact fun H locs ls hP hD hS hl => va_alen (v := iI (N : Int)) hx hb hK hP q 0 (wz_at hq) rfl rfl hd (kk H locs ls hP hD hS hl)
/-- a field of a class of ours, by the method's words: its link, its place -/
def zFld (Ts : List Cond) (own : String) (ix ci : Nat) (C : String) (T : u_T) (N f : Nat) : Prop := (∀ w ∈ u_ws C T N, w ∈ Ts) ∧ (Cond.fieldLink own ix (T f).1 (T f).2.1 (T f).2.2.1) ∈ Ts ∧ f < N ∧ vwCl[ci]? = some (C, T, N)
theorem z_getI {a ci N f ix : Nat} {C : String} {T : u_T} {fs : List Nat} (hX : ZC G l0 cc Ts own nL R0 X) (hd : decode cc pc = .ok (.getfield ix, 3)) (hF : zFld Ts own ix ci C T N f) (q : Nat) (hq : sh[q]? = some (a, .inr (.inr (ci, fs)))) (hf : fs[f]? = some 0) (kk : ZW G X sh ad h k n lv (pc + 3) (.int (iI (h a (f : Int))) :: st)) : ZW G X sh ad h k n lv pc (.ref (ad a) :: st) := by
  obtain ⟨p, l, e, R, s, m, args, below, meth, c, A, Q⟩ := X
  obtain ⟨hx, hb, hml, hown, hts, hK, hA, hN, hl0, hR0, hlk⟩ := hX
  refine fun H locs ls hP hD hS hl => va_get (v := .int (iI (h a (f : Int)))) hx hb hts hF.1 hown hK hP q (wz_at hq) hF.2.2.2 f hF.2.2.1 (hts _ hF.2.1) (fun _ h9 => h9) ?_ hd (kk H locs ls hP hD hS hl)
  rw [zf_at ad (h a) fs 0 f 0 hf, Int.zero_add]
  rfl
theorem z_getR {a j ci N f ix : Nat} {C : String} {T : u_T} {fs : List Nat} (hX : ZC G l0 cc Ts own nL R0 X) (hd : decode cc pc = .ok (.getfield ix, 3)) (hF : zFld Ts own ix ci C T N f) (q : Nat) (hq : sh[q]? = some (a, .inr (.inr (ci, fs)))) (hf : fs[f]? = some (j + 2)) (kk : ZW G X sh ad h k n lv (pc + 3) (.ref (ad j) :: st)) : ZW G X sh ad h k n lv pc (.ref (ad a) :: st) := by
  obtain ⟨p, l, e, R, s, m, args, below, meth, c, A, Q⟩ := X
  obtain ⟨hx, hb, hml, hown, hts, hK, hA, hN, hl0, hR0, hlk⟩ := hX
  refine fun H locs ls hP hD hS hl => va_get (v := .ref (ad j)) hx hb hts hF.1 hown hK hP q (wz_at hq) hF.2.2.2 f hF.2.2.1 (hts _ hF.2.1) (fun _ h9 => h9) ?_ hd (kk H locs ls hP hD hS hl)
  rw [zf_at ad (h a) fs 0 f (j + 2) hf]
  rfl
def zFldN (Ts : List Cond) (own : String) (ix ci : Nat) (C : String) (T : u_T) (N f : Nat) (host : String) : Prop := (∀ w ∈ u_ws C T N, w ∈ Ts) ∧ (∀ U, zN U → va_Nw (Cond.fieldLinkNest own ix (T f).1 (T f).2.1 (T f).2.2.1 host) U) ∧ f < N ∧ vwCl[ci]? = some (C, T, N)
theorem z_getIN {a ci N f ix : Nat} {C host : String} {T : u_T} {fs : List Nat} (hX : ZC G l0 cc Ts own nL R0 X) (hd : decode cc pc = .ok (.getfield ix, 3)) (hF : zFldN Ts own ix ci C T N f host) (q : Nat) (hq : sh[q]? = some (a, .inr (.inr (ci, fs)))) (hf : fs[f]? = some 0) (kk : ZW G X sh ad h k n lv (pc + 3) (.int (iI (h a (f : Int))) :: st)) : ZW G X sh ad h k n lv pc (.ref (ad a) :: st) := by
  obtain ⟨p, l, e, R, s, m, args, below, meth, c, A, Q⟩ := X
  obtain ⟨hx, hb, hml, hown, hts, hK, hA, hN, hl0, hR0, hlk⟩ := hX
  refine fun H locs ls hP hD hS hl => va_getN (v := .int (iI (h a (f : Int)))) hx hb hts hF.1 hown hK hP q (wz_at hq) hF.2.2.2 f hF.2.2.1 (va_Nw.use rfl (hF.2.1 _ hN)) (fun _ h9 => h9) ?_ hd (kk H locs ls hP hD hS hl)
  rw [zf_at ad (h a) fs 0 f 0 hf, Int.zero_add]
  rfl
theorem z_getRN {a j ci N f ix : Nat} {C host : String} {T : u_T} {fs : List Nat} (hX : ZC G l0 cc Ts own nL R0 X) (hd : decode cc pc = .ok (.getfield ix, 3)) (hF : zFldN Ts own ix ci C T N f host) (q : Nat) (hq : sh[q]? = some (a, .inr (.inr (ci, fs)))) (hf : fs[f]? = some (j + 2)) (kk : ZW G X sh ad h k n lv (pc + 3) (.ref (ad j) :: st)) : ZW G X sh ad h k n lv pc (.ref (ad a) :: st) := by
  obtain ⟨p, l, e, R, s, m, args, below, meth, c, A, Q⟩ := X
  obtain ⟨hx, hb, hml, hown, hts, hK, hA, hN, hl0, hR0, hlk⟩ := hX
  refine fun H locs ls hP hD hS hl => va_getN (v := .ref (ad j)) hx hb hts hF.1 hown hK hP q (wz_at hq) hF.2.2.2 f hF.2.2.1 (va_Nw.use rfl (hF.2.1 _ hN)) (fun _ h9 => h9) ?_ hd (kk H locs ls hP hD hS hl)
  rw [zf_at ad (h a) fs 0 f (j + 2) hf]
  rfl
/-- a field that may be written: its types, no two of one name, not final -/
def zPut (T : u_T) (N f : Nat) (ty0 : Nat → FieldType) (ty : FieldType) : Prop := (∀ k, k < N → parseFieldDescriptor (T k).2.2.1 = some (ty0 k)) ∧ (∀ a, a < N → ∀ b, b < N → a ≠ b → (T a).2.1 ≠ (T b).2.1) ∧ (T f).2.2.2 = false ∧ parseFieldDescriptor (T f).2.2.1 = some ty
theorem z_putG {a ci N f ix : Nat} {C : String} {T : u_T} {fs : List Nat} {v : Int} {ty0 : Nat → FieldType} {ty : FieldType} (hX : ZC G l0 cc Ts own nL R0 X) (hd : decode cc pc = .ok (.putfield ix, 3)) (hF : zFld Ts own ix ci C T N f) (hU : zPut T N f ty0 ty) (hn : narrow ty (.int (iI v)) = .int (iI v)) (hfit : fits ty (.int (iI v)) = true) (q : Nat) (hq : sh[q]? = some (a, .inr (.inr (ci, fs)))) (hf : fs[f]? = some 0) (kk : ZW G X sh ad (hs h a (f : Int) v) k n lv (pc + 3) (st)) : ZW G X sh ad h k n lv pc (.int (iI v) :: .ref (ad a) :: st) := by
  obtain ⟨p, l, e, R, s, m, args, below, meth, c, A, Q⟩ := X
  obtain ⟨hx, hb, hml, hown, hts, hK, hA, hN, hl0, hR0, hlk⟩ := hX
  have hl0 : f < fs.length := (List.getElem?_eq_some_iff.mp hf).1
  refine fun H locs ls hP hD hS hl => va_put (v := .int (iI v)) (ty := ty) hx hb hts hF.1 ty0 hU.1 hU.2.1 hown hK hP hD hS q (wz_at hq) hF.2.2.2 f hF.2.2.1 (hts _ hF.2.1) (fun _ h9 => h9) hU.2.2.1 hU.2.2.2 hn hfit (by rw [zf_len]; exact hl0) hd (fun H1 locs1 hP1 hD1 hS1 => ?_)
  have e1 : (wz G sh ad h).set q (ad a, .inr (ci, (zf ad (h a) 0 fs).set f (.int (iI v)))) = wz G sh ad (hs h a (f : Int) v) := by
    refine wz_set hD hq ?_ (fun j hj => hs_ne _ _ _ hj)
    unfold ze
    simp only
    rw [zf_set ad (g := h a) (g1 := hs h a (f : Int) v a) v fs 0 f hf (by rw [hs_eq]; simp) (fun j hj => by rw [hs_eq]; simp only; rw [if_neg (by simpa using hj)])]
  have hP2 : va_P G.1 vwCl ((wz G sh ad h).set q (ad a, .inr (ci, (zf ad (h a) 0 fs).set f (.int (iI v))))) H1 := hP1
  have hD2 : va_D A ((wz G sh ad h).set q (ad a, .inr (ci, (zf ad (h a) 0 fs).set f (.int (iI v))))) := hD1
  rw [e1] at hP2 hD2
  exact kk H1 locs1 ls hP2 hD2 hS1 hl
theorem z_putI {a ci N f ix : Nat} {C : String} {T : u_T} {fs : List Nat} {v : Int} {ty0 : Nat → FieldType} (hX : ZC G l0 cc Ts own nL R0 X) (hd : decode cc pc = .ok (.putfield ix, 3)) (hF : zFld Ts own ix ci C T N f) (hU : zPut T N f ty0 .int) (q : Nat) (hq : sh[q]? = some (a, .inr (.inr (ci, fs)))) (hf : fs[f]? = some 0) (kk : ZW G X sh ad (hs h a (f : Int) v) k n lv (pc + 3) (st)) : ZW G X sh ad h k n lv pc (.int (iI v) :: .ref (ad a) :: st) := z_putG hX hd hF hU rfl rfl q hq hf kk
theorem z_putZ {a ci N f ix : Nat} {C : String} {T : u_T} {fs : List Nat} {v : Int} {ty0 : Nat → FieldType} {α : Type} {B : Option α} {o : α} (hX : ZC G l0 cc Ts own nL R0 X) (hd : decode cc pc = .ok (.putfield ix, 3)) (hF : zFld Ts own ix ci C T N f) (hU : zPut T N f ty0 .boolean) (q : Nat) (hq : sh[q]? = some (a, .inr (.inr (ci, fs)))) (hf : fs[f]? = some 0) (hr : (if v = 0 ∨ v = 1 then B else none) = some o) (kk : B = some o → ZW G X sh ad (hs h a (f : Int) v) k n lv (pc + 3) (st)) : ZW G X sh ad h k n lv pc (.int (iI v) :: .ref (ad a) :: st) := by
  by_cases hv : v = 0 ∨ v = 1
  · rw [if_pos hv] at hr
    refine z_putG hX hd hF hU ?_ ?_ q hq hf (kk hr)
    · rcases hv with rfl | rfl <;> rfl
    · rcases hv with rfl | rfl <;> rfl
  · rw [if_neg hv] at hr
    cases hr
theorem z_widen {k1 n1 : Nat} (h1 : k ≤ k1) (h2 : n ≤ n1) (kk : ZW G X sh ad h k1 n1 lv pc (st)) : ZW G X sh ad h k n lv pc (st) := by
  obtain ⟨p, l, e, R, s, m, args, below, meth, c, A, Q⟩ := X
  exact fun H locs ls hP hD hS hl => W.widen h1 h2 (kk H locs ls hP hD hS hl)
theorem z_lv {lv1 : List (Nat × Value)} (ks : List Nat) (he : lv_pick lv ks = lv1) (kk : ZW G X sh ad h k n lv1 pc (st)) : ZW G X sh ad h k n lv pc (st) := by
  obtain ⟨p, l, e, R, s, m, args, below, meth, c, A, Q⟩ := X
  exact fun H locs ls hP hD hS hl => kk H locs ls hP hD hS (lv_sub hl ks he)
theorem z_none {α : Type} {o : α} {P : Prop} (h : (none : Option α) = some o) : P := by cases h
theorem z_bind {α β : Type} {x : Option α} {f : α → Option β} {o : β} (h : x.bind f = some o) : ∃ a, x = some a ∧ f a = some o := Option.bind_eq_some_iff.mp h
theorem z_ifp {α : Type} {c : Prop} {A B : Option α} {o : α} {i : Decidable c} (hr : (@ite _ c i A B) = some o) (hc : c) : A = some o := by rw [if_pos hc] at hr; exact hr
theorem z_ifn {α : Type} {c : Prop} {A B : Option α} {o : α} {i : Decidable c} (hr : (@ite _ c i A B) = some o) (hc : ¬ c) : B = some o := by rw [if_neg hc] at hr; exact hr
theorem z_ifg {α : Type} {c : Prop} {A : Option α} {o : α} {i : Decidable c} (hr : (@ite _ c i A none) = some o) : c ∧ A = some o := by
  by_cases hc : c
  · exact ⟨hc, z_ifp hr hc⟩
  · have := z_ifn hr hc
    cases this
theorem z_tableIn {x v dflt lo hi off : Int} {offs : Array Int} {len tgt : Nat} (hX : ZC G l0 cc Ts own nL R0 X) (hd : decode cc pc = .ok (.tableswitch dflt lo hi offs, len)) (hv : wr x = v) (h1 : ¬ v < lo) (h2 : ¬ hi < v) (ho : offs[(v - lo).toNat]? = some off) (ht : (pc : Int) + off = (tgt : Int)) (kk : ZW G X sh ad h k n lv tgt (st)) : ZW G X sh ad h k n lv pc (.int (iI x) :: st) := by
  obtain ⟨p, l, e, R, s, m, args, below, meth, c, A, Q⟩ := X
  obtain ⟨hx, hb, hml, hown, hts, hK, hA, hN, hl0, hR0, hlk⟩ := hX
  subst hv
  exact fun H locs ls hP hD hS hl => lv_tableIn hx hb hd h1 h2 ho ht (kk H locs ls hP hD hS hl)
theorem z_tableOut {x dflt lo hi : Int} {offs : Array Int} {len tgt : Nat} (hX : ZC G l0 cc Ts own nL R0 X) (hd : decode cc pc = .ok (.tableswitch dflt lo hi offs, len)) (hv : wr x < lo ∨ hi < wr x) (ht : (pc : Int) + dflt = (tgt : Int)) (kk : ZW G X sh ad h k n lv tgt (st)) : ZW G X sh ad h k n lv pc (.int (iI x) :: st) := by
  obtain ⟨p, l, e, R, s, m, args, below, meth, c, A, Q⟩ := X
  obtain ⟨hx, hb, hml, hown, hts, hK, hA, hN, hl0, hR0, hlk⟩ := hX
  exact fun H locs ls hP hD hS hl => lv_tableOut hx hb hd hv ht (kk H locs ls hP hD hS hl)
def zor (x y : Int) : Int := (iI x ||| iI y).toInt
def zmin (x y : Int) : Int := if wr y < wr x then y else x
theorem z_ior {x y : Int} (hX : ZC G l0 cc Ts own nL R0 X) (hd : decode cc pc = .ok (.ior, 1)) (kk : ZW G X sh ad h k n lv (pc + 1) (.int (iI (zor x y)) :: st)) : ZW G X sh ad h k n lv pc (.int (iI y) :: .int (iI x) :: st) := by
  obtain ⟨p, l, e, R, s, m, args, below, meth, c, A, Q⟩ := X
  obtain ⟨hx, hb, hml, hown, hts, hK, hA, hN, hl0, hR0, hlk⟩ := hX
  have e : iI (zor x y) = iI x ||| iI y := iI_as _
  exact fun H locs ls hP hD hS hl => lv_ior hx hb hd (by rw [← e]; exact kk H locs ls hP hD hS hl)
theorem z_mmin {x y : Int} {ix : Nat} (hX : ZC G l0 cc Ts own nL R0 X) (hd : decode cc pc = .ok (.invokestatic ix, 3)) (hw1 : (Cond.methodLink own ix Lib.Math.min.name) ∈ Ts) (hw2 : (Cond.static Lib.Math.min.name) ∈ Ts) (hw3 : (Cond.initialized "java/lang/Math") ∈ Ts) (hw4 : (Cond.code Lib.Math.min.name Lib.Math.min.code 2 (some .int)) ∈ Ts) (hfr : 1 ≤ R0.frames) (hlo : (st.map fun v => v.category).sum + 13 ≤ R0.locals) (hc : k ≤ R0.cells) (hs : n ≤ R0.slots) (kk : ZW G X sh ad h k n lv (pc + 3) (.int (iI (zmin x y)) :: st)) : ZW G X sh ad h k n lv pc (.int (iI y) :: .int (iI x) :: st) := by
  obtain ⟨p, l, e, R, s, m, args, below, meth, c, A, Q⟩ := X
  obtain ⟨hx, hb, hml, hown, hts, hK, hA, hN, hl0, hR0, hlk⟩ := hX
  subst hR0
  have e : iI (zmin x y) = if iI y < iI x then iI y else iI x := by
    unfold zmin
    by_cases hc : wr y < wr x
    · rw [if_pos hc, if_pos ((iI_lt y x).mpr hc)]
    · rw [if_neg hc, if_neg (fun h => hc ((iI_lt y x).mp h))]
  exact fun H locs ls hP hD hS hl => va_mmin hx hb hl.1.symm hown (hts _ hw1) (hts _ hw2) (hts _ hw3) (hts _ hw4) hfr hlo hc hs hd (by rw [← e]; exact kk H locs ls hP hD hS hl)
def hcp (h : HS) (a0 : Nat) (sp : Int) (a : Nat) (dp n : Int) : HS := fun c => if c = a then (fun b => if dp ≤ b ∧ b < dp + n then h a0 (sp + (b - dp)) else h a b) else h c
theorem hcp_ne (h : HS) (a0 : Nat) (sp : Int) {a c : Nat} (dp n : Int) (e : c ≠ a) : hcp h a0 sp a dp n c = h c := by
  unfold hcp
  rw [if_neg e]
theorem hcp_eq (h : HS) (a0 : Nat) (sp : Int) (a : Nat) (dp n : Int) : hcp h a0 sp a dp n a = fun b => if dp ≤ b ∧ b < dp + n then h a0 (sp + (b - dp)) else h a b := by
  unfold hcp
  rw [if_pos rfl]
theorem zfr_hcp {Wr : List Nat} {h h1 : HS} {a0 a : Nat} {sp dp n : Int} (hf : zfr Wr h h1) (hi : a ∈ Wr) : zfr Wr h (hcp h1 a0 sp a dp n) := fun j hj => by
  have hne : j ≠ a := fun e => hj (by rw [e]; exact hi)
  rw [hcp_ne _ _ _ _ _ hne]
  exact hf j hj
theorem iI_nneg {x : Int} (h : 0 ≤ x) (h2 : x < 2147483648) : ¬ iI x < 0 := by
  intro e
  have e2 : iI x < iI 0 := e
  rw [iI_lt, wr_of (by omega) (by omega), wr_of (by omega) (by omega)] at e2
  omega
theorem iI_clN {x : Int} (h : 0 ≤ x) (h2 : x < 2147483648) : (iI x).toNatClampNeg = x.toNat := by
  rw [iI_of0 h]
  exact nI_clamp (by omega)
theorem z_copyi {a0 a N0 N1 : Nat} {sp dp mm b0 b1 : Int} {ix : Nat} {α : Type} {B : Option α} {o : α} (hX : ZC G l0 cc Ts own nL R0 X) (hd : decode cc pc = .ok (.invokestatic ix, 3)) (q0 q1 : Nat) (hq0 : sh[q0]? = some (a0, .inl N0)) (hq1 : sh[q1]? = some (a, .inl N1)) (hN0 : N0 < 2147483648) (hN1 : N1 < 2147483648) (hb0 : (N0 : Int) = b0) (hb1 : (N1 : Int) = b1) (hw1 : (Cond.methodLink own ix arraycopyName) ∈ Ts) (hw2 : (Cond.native arraycopyName) ∈ Ts) (hw3 : (Cond.static arraycopyName) ∈ Ts) (hw4 : (Cond.initialized "java/lang/System") ∈ Ts) (hfr : 1 ≤ R0.frames) (hlo : (st.map fun v => v.category).sum + (nativeFrameWords "java/lang/System" "arraycopy" 5 + 11) ≤ R0.locals) (hr : (if 0 ≤ sp ∧ 0 ≤ dp ∧ 0 ≤ mm ∧ sp + mm ≤ b0 ∧ dp + mm ≤ b1 then B else none) = some o) (kk : B = some o → ZW G X sh ad (hcp h a0 sp a dp mm) k n lv (pc + 3) (st)) : ZW G X sh ad h k n lv pc (.int (iI mm) :: .int (iI dp) :: .ref (ad a) :: .int (iI sp) :: .ref (ad a0) :: st) := by
  obtain ⟨p, l, e, R, s, m, args, below, meth, c, A, Q⟩ := X
  obtain ⟨hx, hb, hml, hown, hts, hK, hA, hN, hl0, hR0, hlk⟩ := hX
  by_cases hg : 0 ≤ sp ∧ 0 ≤ dp ∧ 0 ≤ mm ∧ sp + mm ≤ b0 ∧ dp + mm ≤ b1
  · rw [if_pos hg] at hr
    have kk := kk hr
    subst hb0
    subst hb1
    subst hR0
    obtain ⟨g1, g2, g3, g4, g5⟩ := hg
    have c1 := iI_clN g1 (by omega)
    have c2 := iI_clN g2 (by omega)
    have c3 := iI_clN g3 (by omega)
    refine fun H locs ls hP hD hS hl => va_copyi (ty := .int) (c0 := G.2.1) (c1 := G.2.1) (n0 := N0) (n1 := N1) (f := fun j : Nat => iI (h a0 (j : Int))) (g := fun j : Nat => iI (h a (j : Int))) hx hb hl.1.symm hown (hts _ hw1) (hts _ hw2) (hts _ hw3) (hts _ hw4) hK hP hD hS q0 q1 0 0 (wz_at hq0) (wz_at hq1) rfl rfl rfl (iI_nneg g1 (by omega)) (iI_nneg g2 (by omega)) (iI_nneg g3 (by omega)) (by rw [c1, c3]; omega) (by rw [c2, c3]; omega) (fun _ _ => rfl) hfr hlo hd (fun H1 locs1 hP1 hD1 hS1 => ?_)
    have e1 : (wz G sh ad h).set q1 (ad a, .inl (G.2.1, N1, .inl (va_cpy (fun j : Nat => iI (h a0 (j : Int))) (fun j : Nat => iI (h a (j : Int))) (iI sp).toNatClampNeg (iI dp).toNatClampNeg (iI mm).toNatClampNeg))) = wz G sh ad (hcp h a0 sp a dp mm) := by
      refine wz_set hD hq1 ?_ (fun j hj => hcp_ne _ _ _ _ _ hj)
      rw [c1, c2, c3]
      unfold ze
      simp only [hcp_eq]
      congr 4
      funext j
      unfold va_cpy
      by_cases hj : dp.toNat ≤ j ∧ j < dp.toNat + mm.toNat
      · rw [if_pos hj, if_pos (by omega)]
        congr 2
        omega
      · rw [if_neg hj, if_neg (by omega)]
    have hP2 : va_P G.1 vwCl ((wz G sh ad h).set q1 (ad a, .inl (G.2.1, N1, .inl (va_cpy (fun j : Nat => iI (h a0 (j : Int))) (fun j : Nat => iI (h a (j : Int))) (iI sp).toNatClampNeg (iI dp).toNatClampNeg (iI mm).toNatClampNeg)))) H1 := hP1
    have hD2 : va_D A ((wz G sh ad h).set q1 (ad a, .inl (G.2.1, N1, .inl (va_cpy (fun j : Nat => iI (h a0 (j : Int))) (fun j : Nat => iI (h a (j : Int))) (iI sp).toNatClampNeg (iI dp).toNatClampNeg (iI mm).toNatClampNeg)))) := hD1
    rw [e1] at hP2 hD2
    exact kk H1 locs1 ls hP2 hD2 hS1 hl
  · rw [if_neg hg] at hr
    cases hr
end ZROWS
end
section
section ZCALLS
variable {G : ZG} {l0 : Launch} {cc : ByteArray} {Ts : List Cond} {own : String} {nL : Nat} {R0 : Room} {X : ZX} {sh : ZS} {ad : Nat → Nat} {h : HS} {k n : Nat} {lv : List (Nat × Value)} {pc : Nat} {st : List Value}
def ZMi (G : ZG) (l : Launch) (y : MethodName) (ws : List Cond) (rm : Room) (av : List Value) (sh : ZS) (ad : Nat → Nat) (h : HS) (Wr : List Nat) (z1 : Int) (h1 : HS) : Prop := ∀ sz : Nat, Met l y ws rm (va_Pc av (zP G sh ad h sz)) (va_Qi (fun (r : Int32) (_ : Unit) => r = iI z1 ∧ zfr Wr h h1) (fun _ t => zB G sh ad h1 t) (va_A (wz G sh ad h) sz)) rm.cells rm.slots (va_A (wz G sh ad h) sz)
def ZMl (G : ZG) (l : Launch) (y : MethodName) (ws : List Cond) (rm : Room) (av : List Value) (sh : ZS) (ad : Nat → Nat) (h : HS) (Wr : List Nat) (z1 : Int64) (h1 : HS) : Prop := ∀ sz : Nat, Met l y ws rm (va_Pc av (zP G sh ad h sz)) (va_Ql (fun (r : Int64) (_ : Unit) => r = z1 ∧ zfr Wr h h1) (fun _ t => zB G sh ad h1 t) (va_A (wz G sh ad h) sz)) rm.cells rm.slots (va_A (wz G sh ad h) sz)
def ZMv (G : ZG) (l : Launch) (y : MethodName) (ws : List Cond) (rm : Room) (av : List Value) (sh : ZS) (ad : Nat → Nat) (h : HS) (Wr : List Nat) (h1 : HS) : Prop := ∀ sz : Nat, Met l y ws rm (va_Pc av (zP G sh ad h sz)) (va_Qv (fun (_ : Unit) => zfr Wr h h1) (fun _ t => zB G sh ad h1 t) (va_A (wz G sh ad h) sz)) rm.cells rm.slots (va_A (wz G sh ad h) sz)
theorem ZMi.of {y : MethodName} {ws ws1 : List Cond} {rm : Room} {av : List Value} {Wr : List Nat} {z1 : Int} {h1 : HS} {maxL : Nat} {ret : Option FieldType} {lv0 : List (Nat × Value)} (hy : plainName y.cls = true) (hw : ws = Cond.code y cc maxL ret :: ws1) (hret : ret = some .int) (hc : y.cls = own) (hlen : (lg_sl av).length ≤ maxL) (hlv : lv_args 0 av = lv0)
    (body : ∀ X : ZX, ZC G l0 cc ws own maxL rm X → (∀ (lv : List (Nat × Value)) (pc : Nat), decode cc pc = .ok (.ireturn, 1) → zfr Wr h h1 → ZW G X sh ad h1 rm.cells rm.slots lv pc [.int (iI z1)]) → ZW G X sh ad h 0 0 lv0 0 []) : ZMi G l0 y ws rm av sh ad h Wr z1 h1 := by
  intro sz
  refine Met.ofW (cc := cc) (maxL := maxL) (ret := ret) hy hw ?_
  intro p e s m args below meth c s₁ B hml hv
  obtain ⟨rfl, hsz, hP, hK, hD0, hN⟩ := hv
  have hx := B.exec
  have hb := B.bytes
  have hr := B.returns
  have hts := atoms_spec (ws := ws) B.pre
  have hown : s.vm.findClass own = some m.cls := hc ▸ findClass_of_methodNamed B.named
  have hlocks := B.notSynchronized
  subst hsz
  have hD := hD0.self (sz := s.heap.size)
  have hA : ∀ q : Nat, s.heap.size ≤ q → va_A (wz G sh ad h) s.heap.size q := fun q h => Or.inr h
  rw [lg_entry_eq]
  refine body (p, l0, e, rm, s, m, av.toArray, below, meth, c, va_A (wz G sh ad h) s.heap.size, _) ⟨hx, hb, hml, hown, hts, hK, hA, hN, rfl, rfl, hlocks⟩ (fun lv pc hd hf H locs ls hP1 hD1 hS1 hl1 => ?_) s.heap [] _ hP hD va_S.rf (by rw [hml]; exact hlv ▸ lv_entry av hlen)
  exact W.iret hx hb (hr.trans hret) (fun t ht hW => ⟨⟨iI z1, (), rfl, ⟨rfl, hf⟩, by show va_P G.1 vwCl (wz G sh ad h1) t.heap; rw [ht]; exact hP1⟩, hS1.F ht⟩) hS1.2.2 hd
theorem ZMi.ofZ {y : MethodName} {ws ws1 : List Cond} {rm : Room} {av : List Value} {Wr : List Nat} {z1 : Int} {h1 : HS} {maxL : Nat} {ret : Option FieldType} {lv0 : List (Nat × Value)} (hy : plainName y.cls = true) (hw : ws = Cond.code y cc maxL ret :: ws1) (hret : ret = some .boolean) (hc : y.cls = own) (hlen : (lg_sl av).length ≤ maxL) (hlv : lv_args 0 av = lv0)
    (body : ∀ X : ZX, ZC G l0 cc ws own maxL rm X → (∀ (lv : List (Nat × Value)) (pc : Nat), decode cc pc = .ok (.ireturn, 1) → zfr Wr h h1 → (z1 = 0 ∨ z1 = 1) → ZW G X sh ad h1 rm.cells rm.slots lv pc [.int (iI z1)]) → ZW G X sh ad h 0 0 lv0 0 []) : ZMi G l0 y ws rm av sh ad h Wr z1 h1 := by
  intro sz
  refine Met.ofW (cc := cc) (maxL := maxL) (ret := ret) hy hw ?_
  intro p e s m args below meth c s₁ B hml hv
  obtain ⟨rfl, hsz, hP, hK, hD0, hN⟩ := hv
  have hx := B.exec
  have hb := B.bytes
  have hr := B.returns
  have hts := atoms_spec (ws := ws) B.pre
  have hown : s.vm.findClass own = some m.cls := hc ▸ findClass_of_methodNamed B.named
  have hlocks := B.notSynchronized
  subst hsz
  have hD := hD0.self (sz := s.heap.size)
  have hA : ∀ q : Nat, s.heap.size ≤ q → va_A (wz G sh ad h) s.heap.size q := fun q h => Or.inr h
  rw [lg_entry_eq]
  refine body (p, l0, e, rm, s, m, av.toArray, below, meth, c, va_A (wz G sh ad h) s.heap.size, _) ⟨hx, hb, hml, hown, hts, hK, hA, hN, rfl, rfl, hlocks⟩ (fun lv pc hd hf hz H locs ls hP1 hD1 hS1 hl1 => ?_) s.heap [] _ hP hD va_S.rf (by rw [hml]; exact hlv ▸ lv_entry av hlen)
  exact W.zret hx hb (hr.trans hret) (by rcases hz with e | e <;> rw [e] <;> rfl) (fun t ht hW => ⟨⟨iI z1, (), rfl, ⟨rfl, hf⟩, by show va_P G.1 vwCl (wz G sh ad h1) t.heap; rw [ht]; exact hP1⟩, hS1.F ht⟩) hS1.2.2 hd
theorem ZMl.of {y : MethodName} {ws ws1 : List Cond} {rm : Room} {av : List Value} {Wr : List Nat} {z1 : Int64} {h1 : HS} {maxL : Nat} {ret : Option FieldType} {lv0 : List (Nat × Value)} (hy : plainName y.cls = true) (hw : ws = Cond.code y cc maxL ret :: ws1) (hret : ret = some .long) (hc : y.cls = own) (hlen : (lg_sl av).length ≤ maxL) (hlv : lv_args 0 av = lv0)
    (body : ∀ X : ZX, ZC G l0 cc ws own maxL rm X → (∀ (lv : List (Nat × Value)) (pc : Nat), decode cc pc = .ok (.lreturn, 1) → zfr Wr h h1 → ZW G X sh ad h1 rm.cells rm.slots lv pc [.long z1]) → ZW G X sh ad h 0 0 lv0 0 []) : ZMl G l0 y ws rm av sh ad h Wr z1 h1 := by
  intro sz
  refine Met.ofW (cc := cc) (maxL := maxL) (ret := ret) hy hw ?_
  intro p e s m args below meth c s₁ B hml hv
  obtain ⟨rfl, hsz, hP, hK, hD0, hN⟩ := hv
  have hx := B.exec
  have hb := B.bytes
  have hr := B.returns
  have hts := atoms_spec (ws := ws) B.pre
  have hown : s.vm.findClass own = some m.cls := hc ▸ findClass_of_methodNamed B.named
  have hlocks := B.notSynchronized
  subst hsz
  have hD := hD0.self (sz := s.heap.size)
  have hA : ∀ q : Nat, s.heap.size ≤ q → va_A (wz G sh ad h) s.heap.size q := fun q h => Or.inr h
  rw [lg_entry_eq]
  refine body (p, l0, e, rm, s, m, av.toArray, below, meth, c, va_A (wz G sh ad h) s.heap.size, _) ⟨hx, hb, hml, hown, hts, hK, hA, hN, rfl, rfl, hlocks⟩ (fun lv pc hd hf H locs ls hP1 hD1 hS1 hl1 => ?_) s.heap [] _ hP hD va_S.rf (by rw [hml]; exact hlv ▸ lv_entry av hlen)
  exact W.lret hx hb (hr.trans hret) (fun t ht hW => ⟨⟨z1, (), rfl, ⟨rfl, hf⟩, by show va_P G.1 vwCl (wz G sh ad h1) t.heap; rw [ht]; exact hP1⟩, hS1.F ht⟩) hS1.2.2 hd
theorem ZMv.of {y : MethodName} {ws ws1 : List Cond} {rm : Room} {av : List Value} {Wr : List Nat} {h1 : HS} {maxL : Nat} {ret : Option FieldType} {lv0 : List (Nat × Value)} (hy : plainName y.cls = true) (hw : ws = Cond.code y cc maxL ret :: ws1) (hret : ret = none) (hc : y.cls = own) (hlen : (lg_sl av).length ≤ maxL) (hlv : lv_args 0 av = lv0)
    (body : ∀ X : ZX, ZC G l0 cc ws own maxL rm X → (∀ (lv : List (Nat × Value)) (pc : Nat), decode cc pc = .ok (.return_, 1) → zfr Wr h h1 → ZW G X sh ad h1 rm.cells rm.slots lv pc []) → ZW G X sh ad h 0 0 lv0 0 []) : ZMv G l0 y ws rm av sh ad h Wr h1 := by
  intro sz
  refine Met.ofW (cc := cc) (maxL := maxL) (ret := ret) hy hw ?_
  intro p e s m args below meth c s₁ B hml hv
  obtain ⟨rfl, hsz, hP, hK, hD0, hN⟩ := hv
  have hx := B.exec
  have hb := B.bytes
  have hr := B.returns
  have hts := atoms_spec (ws := ws) B.pre
  have hown : s.vm.findClass own = some m.cls := hc ▸ findClass_of_methodNamed B.named
  have hlocks := B.notSynchronized
  subst hsz
  have hD := hD0.self (sz := s.heap.size)
  have hA : ∀ q : Nat, s.heap.size ≤ q → va_A (wz G sh ad h) s.heap.size q := fun q h => Or.inr h
  rw [lg_entry_eq]
  refine body (p, l0, e, rm, s, m, av.toArray, below, meth, c, va_A (wz G sh ad h) s.heap.size, _) ⟨hx, hb, hml, hown, hts, hK, hA, hN, rfl, rfl, hlocks⟩ (fun lv pc hd hf H locs ls hP1 hD1 hS1 hl1 => ?_) s.heap [] _ hP hD va_S.rf (by rw [hml]; exact hlv ▸ lv_entry av hlen)
  exact W.vret hx hb (hr.trans hret) (fun t ht hW => ⟨⟨(), rfl, hf, by show va_P G.1 vwCl (wz G sh ad h1) t.heap; rw [ht]; exact hP1⟩, hS1.F ht⟩) hS1.2.2 hd
theorem z_callV_i {y : MethodName} {ws ws1 : List Cond} {rm : Room} {shc : ZS} {Wr : List Nat} {z1 : Int} {h1 : HS} {index maxL nA k1 n1 : Nat} {bytes : ByteArray} {ret : Option FieldType} {stk : List Value} {As : List Value} {b ci N : Nat} {C : String} {T : u_T} {fs : List Nat} (hX : ZC G l0 cc Ts own nL R0 X) (hM : ZMi G l0 y ws rm (.ref (ad b) :: As) shc ad h Wr z1 h1) (hd : decode cc pc = .ok (.invokevirtual index, 3)) (hg : GoodIn Ts (wsV own index C y ws)) (hw : ws = Cond.code y bytes maxL ret :: ws1) (hy : y.cls = C ∧ y.cls ≠ "java/lang/invoke/MethodHandle" ∧ y.cls ≠ "java/lang/invoke/VarHandle" ∧ (parseMethodDescriptor y.desc).map (fun d => d.parameters.length) = some nA) (hroom : rm.frames + 1 ≤ R0.frames ∧ 8 + (maxL + 11) + rm.locals ≤ R0.locals) (hcs : k + rm.cells ≤ R0.cells ∧ n + rm.slots ≤ R0.slots) (q : Nat) (hq : sh[q]? = some (b, .inr (.inr (ci, fs)))) (hcl : vwCl[ci]? = some (C, T, N)) (hn : As.length = nA) (hs : stk = As.reverse ++ .ref (ad b) :: st) (hcat : (st.map fun v => v.category).sum ≤ 8) (hsub0 : zsubB sh shc Wr = true) (hk1 : k + rm.cells = k1) (hn1 : n + rm.slots = n1) (kk : zfr Wr h h1 → ZW G X sh ad h1 k1 n1 lv (pc + 3) (.int (iI z1) :: st)) : ZW G X sh ad h k n lv pc stk := by
  obtain ⟨p, l, e, R, s, m, args, below, meth, c, A, Q⟩ := X
  obtain ⟨hx, hb, hml, hown, hts, hK, hA, hN, hl0, hR0, hlk⟩ := hX
  subst hl0
  subst hR0
  subst hs
  have hsub := zsub_of hsub0
  subst hk1
  subst hn1
  refine fun H locs ls hP hD hS hl => ?_
  have hF := z_free hsub hD hS hA
  refine va_calli (va_runV (As := As) (rest := st) ⟨hx, hb, hml, hown, hts⟩ (hM H.size) (cwV nA hts hg hw rfl rfl hy hroom) ⟨zP_blind, va_recv hK hP hcl (wz_at hq), fun U hU hW => ⟨rfl, by rw [hU], by rw [hU]; exact z_sub hsub.1 hP, va_K.moved hW.alike hK, z_subD hsub.1 hsub.2.2 (fun _ _ => trivial) hD, hN.warm hW⟩⟩ rfl hn (hl.1.trans hml) rfl (lv_room hcat) hd hcs) hS (fun q _ h => hF q h) hF (fun r u t H1 locs1 ht hvm hp hB hz1 hk1 hS1 => ?_)
  obtain ⟨rfl, hf⟩ := hp
  have hB2 : va_P G.1 vwCl (wz G shc ad h1) H1 := by rw [← ht]; exact hB
  exact kk hf H1 locs1 ls (z_join hP hD hsub hf hk1 hB2) (wzD hD) hS1 hl
theorem z_callS_i {y : MethodName} {ws ws1 : List Cond} {rm : Room} {shc : ZS} {Wr : List Nat} {z1 : Int} {h1 : HS} {index maxL nA k1 n1 : Nat} {bytes : ByteArray} {ret : Option FieldType} {stk : List Value} {As : List Value} (hX : ZC G l0 cc Ts own nL R0 X) (hM : ZMi G l0 y ws rm As shc ad h Wr z1 h1) (hd : decode cc pc = .ok (.invokestatic index, 3)) (hg : GoodIn Ts (va_wsS own index y ws)) (hw : ws = Cond.code y bytes maxL ret :: ws1) (hy : y.cls ≠ "java/lang/invoke/MethodHandle" ∧ y.cls ≠ "java/lang/invoke/VarHandle" ∧ (parseMethodDescriptor y.desc).map (fun d => d.parameters.length) = some nA) (hroom : rm.frames + 1 ≤ R0.frames ∧ 8 + (maxL + 11) + rm.locals ≤ R0.locals) (hcs : k + rm.cells ≤ R0.cells ∧ n + rm.slots ≤ R0.slots)  (hn : As.length = nA) (hs : stk = As.reverse ++ st) (hcat : (st.map fun v => v.category).sum ≤ 8) (hsub0 : zsubB sh shc Wr = true) (hk1 : k + rm.cells = k1) (hn1 : n + rm.slots = n1) (kk : zfr Wr h h1 → ZW G X sh ad h1 k1 n1 lv (pc + 3) (.int (iI z1) :: st)) : ZW G X sh ad h k n lv pc stk := by
  obtain ⟨p, l, e, R, s, m, args, below, meth, c, A, Q⟩ := X
  obtain ⟨hx, hb, hml, hown, hts, hK, hA, hN, hl0, hR0, hlk⟩ := hX
  subst hl0
  subst hR0
  subst hs
  have hsub := zsub_of hsub0
  subst hk1
  subst hn1
  refine fun H locs ls hP hD hS hl => ?_
  have hF := z_free hsub hD hS hA
  refine va_calli (va_runS (As := As) (rest := st) ⟨hx, hb, hml, hown, hts⟩ (hM H.size) (va_cwS nA hts hg hw rfl rfl hy hroom) ⟨zP_blind, fun U hU hW => ⟨rfl, by rw [hU], by rw [hU]; exact z_sub hsub.1 hP, va_K.moved hW.alike hK, z_subD hsub.1 hsub.2.2 (fun _ _ => trivial) hD, hN.warm hW⟩⟩ rfl hn (hl.1.trans hml) rfl (lv_room hcat) hd hcs) hS (fun q _ h => hF q h) hF (fun r u t H1 locs1 ht hvm hp hB hz1 hk1 hS1 => ?_)
  obtain ⟨rfl, hf⟩ := hp
  have hB2 : va_P G.1 vwCl (wz G shc ad h1) H1 := by rw [← ht]; exact hB
  exact kk hf H1 locs1 ls (z_join hP hD hsub hf hk1 hB2) (wzD hD) hS1 hl
theorem z_callSN_i {y : MethodName} {ws ws1 : List Cond} {rm : Room} {shc : ZS} {Wr : List Nat} {z1 : Int} {h1 : HS} {index maxL nA k1 n1 : Nat} {bytes : ByteArray} {ret : Option FieldType} {stk : List Value} {As : List Value} {host : String} (hX : ZC G l0 cc Ts own nL R0 X) (hM : ZMi G l0 y ws rm As shc ad h Wr z1 h1) (hd : decode cc pc = .ok (.invokestatic index, 3)) (hg : GoodIn Ts ws) (hnl : ∀ U, zN U → va_Nw (.methodLinkNest own index y host) U) (hi : (Cond.initialized y.cls) ∈ Ts) (hst : (Cond.static y) ∈ Ts) (hw : ws = Cond.code y bytes maxL ret :: ws1) (hy : y.cls ≠ "java/lang/invoke/MethodHandle" ∧ y.cls ≠ "java/lang/invoke/VarHandle" ∧ (parseMethodDescriptor y.desc).map (fun d => d.parameters.length) = some nA) (hroom : rm.frames + 1 ≤ R0.frames ∧ 8 + (maxL + 11) + rm.locals ≤ R0.locals) (hcs : k + rm.cells ≤ R0.cells ∧ n + rm.slots ≤ R0.slots)  (hn : As.length = nA) (hs : stk = As.reverse ++ st) (hcat : (st.map fun v => v.category).sum ≤ 8) (hsub0 : zsubB sh shc Wr = true) (hk1 : k + rm.cells = k1) (hn1 : n + rm.slots = n1) (kk : zfr Wr h h1 → ZW G X sh ad h1 k1 n1 lv (pc + 3) (.int (iI z1) :: st)) : ZW G X sh ad h k n lv pc stk := by
  obtain ⟨p, l, e, R, s, m, args, below, meth, c, A, Q⟩ := X
  obtain ⟨hx, hb, hml, hown, hts, hK, hA, hN, hl0, hR0, hlk⟩ := hX
  subst hl0
  subst hR0
  subst hs
  have hsub := zsub_of hsub0
  subst hk1
  subst hn1
  refine fun H locs ls hP hD hS hl => ?_
  have hF := z_free hsub hD hS hA
  refine va_calli (va_runSN (As := As) (rest := st) ⟨hx, hb, hml, hown, hts⟩ (hM H.size) ⟨va_cnB nA hts hg hw rfl rfl (hnl _ hN) (hts _ hi) hy hroom, hts _ hst, trivial⟩ ⟨zP_blind, fun U hU hW => ⟨rfl, by rw [hU], by rw [hU]; exact z_sub hsub.1 hP, va_K.moved hW.alike hK, z_subD hsub.1 hsub.2.2 (fun _ _ => trivial) hD, hN.warm hW⟩⟩ rfl hn (hl.1.trans hml) rfl (lv_room hcat) hd hcs) hS (fun q _ h => hF q h) hF (fun r u t H1 locs1 ht hvm hp hB hz1 hk1 hS1 => ?_)
  obtain ⟨rfl, hf⟩ := hp
  have hB2 : va_P G.1 vwCl (wz G shc ad h1) H1 := by rw [← ht]; exact hB
  exact kk hf H1 locs1 ls (z_join hP hD hsub hf hk1 hB2) (wzD hD) hS1 hl
theorem z_callV_l {y : MethodName} {ws ws1 : List Cond} {rm : Room} {shc : ZS} {Wr : List Nat} {z1 : Int64} {h1 : HS} {index maxL nA k1 n1 : Nat} {bytes : ByteArray} {ret : Option FieldType} {stk : List Value} {As : List Value} {b ci N : Nat} {C : String} {T : u_T} {fs : List Nat} (hX : ZC G l0 cc Ts own nL R0 X) (hM : ZMl G l0 y ws rm (.ref (ad b) :: As) shc ad h Wr z1 h1) (hd : decode cc pc = .ok (.invokevirtual index, 3)) (hg : GoodIn Ts (wsV own index C y ws)) (hw : ws = Cond.code y bytes maxL ret :: ws1) (hy : y.cls = C ∧ y.cls ≠ "java/lang/invoke/MethodHandle" ∧ y.cls ≠ "java/lang/invoke/VarHandle" ∧ (parseMethodDescriptor y.desc).map (fun d => d.parameters.length) = some nA) (hroom : rm.frames + 1 ≤ R0.frames ∧ 8 + (maxL + 11) + rm.locals ≤ R0.locals) (hcs : k + rm.cells ≤ R0.cells ∧ n + rm.slots ≤ R0.slots) (q : Nat) (hq : sh[q]? = some (b, .inr (.inr (ci, fs)))) (hcl : vwCl[ci]? = some (C, T, N)) (hn : As.length = nA) (hs : stk = As.reverse ++ .ref (ad b) :: st) (hcat : (st.map fun v => v.category).sum ≤ 8) (hsub0 : zsubB sh shc Wr = true) (hk1 : k + rm.cells = k1) (hn1 : n + rm.slots = n1) (kk : zfr Wr h h1 → ZW G X sh ad h1 k1 n1 lv (pc + 3) (.long z1 :: st)) : ZW G X sh ad h k n lv pc stk := by
  obtain ⟨p, l, e, R, s, m, args, below, meth, c, A, Q⟩ := X
  obtain ⟨hx, hb, hml, hown, hts, hK, hA, hN, hl0, hR0, hlk⟩ := hX
  subst hl0
  subst hR0
  subst hs
  have hsub := zsub_of hsub0
  subst hk1
  subst hn1
  refine fun H locs ls hP hD hS hl => ?_
  have hF := z_free hsub hD hS hA
  refine va_calll (va_runV (As := As) (rest := st) ⟨hx, hb, hml, hown, hts⟩ (hM H.size) (cwV nA hts hg hw rfl rfl hy hroom) ⟨zP_blind, va_recv hK hP hcl (wz_at hq), fun U hU hW => ⟨rfl, by rw [hU], by rw [hU]; exact z_sub hsub.1 hP, va_K.moved hW.alike hK, z_subD hsub.1 hsub.2.2 (fun _ _ => trivial) hD, hN.warm hW⟩⟩ rfl hn (hl.1.trans hml) rfl (lv_room hcat) hd hcs) hS (fun q _ h => hF q h) hF (fun r u t H1 locs1 ht hvm hp hB hz1 hk1 hS1 => ?_)
  obtain ⟨rfl, hf⟩ := hp
  have hB2 : va_P G.1 vwCl (wz G shc ad h1) H1 := by rw [← ht]; exact hB
  exact kk hf H1 locs1 ls (z_join hP hD hsub hf hk1 hB2) (wzD hD) hS1 hl
theorem z_callS_l {y : MethodName} {ws ws1 : List Cond} {rm : Room} {shc : ZS} {Wr : List Nat} {z1 : Int64} {h1 : HS} {index maxL nA k1 n1 : Nat} {bytes : ByteArray} {ret : Option FieldType} {stk : List Value} {As : List Value} (hX : ZC G l0 cc Ts own nL R0 X) (hM : ZMl G l0 y ws rm As shc ad h Wr z1 h1) (hd : decode cc pc = .ok (.invokestatic index, 3)) (hg : GoodIn Ts (va_wsS own index y ws)) (hw : ws = Cond.code y bytes maxL ret :: ws1) (hy : y.cls ≠ "java/lang/invoke/MethodHandle" ∧ y.cls ≠ "java/lang/invoke/VarHandle" ∧ (parseMethodDescriptor y.desc).map (fun d => d.parameters.length) = some nA) (hroom : rm.frames + 1 ≤ R0.frames ∧ 8 + (maxL + 11) + rm.locals ≤ R0.locals) (hcs : k + rm.cells ≤ R0.cells ∧ n + rm.slots ≤ R0.slots)  (hn : As.length = nA) (hs : stk = As.reverse ++ st) (hcat : (st.map fun v => v.category).sum ≤ 8) (hsub0 : zsubB sh shc Wr = true) (hk1 : k + rm.cells = k1) (hn1 : n + rm.slots = n1) (kk : zfr Wr h h1 → ZW G X sh ad h1 k1 n1 lv (pc + 3) (.long z1 :: st)) : ZW G X sh ad h k n lv pc stk := by
  obtain ⟨p, l, e, R, s, m, args, below, meth, c, A, Q⟩ := X
  obtain ⟨hx, hb, hml, hown, hts, hK, hA, hN, hl0, hR0, hlk⟩ := hX
  subst hl0
  subst hR0
  subst hs
  have hsub := zsub_of hsub0
  subst hk1
  subst hn1
  refine fun H locs ls hP hD hS hl => ?_
  have hF := z_free hsub hD hS hA
  refine va_calll (va_runS (As := As) (rest := st) ⟨hx, hb, hml, hown, hts⟩ (hM H.size) (va_cwS nA hts hg hw rfl rfl hy hroom) ⟨zP_blind, fun U hU hW => ⟨rfl, by rw [hU], by rw [hU]; exact z_sub hsub.1 hP, va_K.moved hW.alike hK, z_subD hsub.1 hsub.2.2 (fun _ _ => trivial) hD, hN.warm hW⟩⟩ rfl hn (hl.1.trans hml) rfl (lv_room hcat) hd hcs) hS (fun q _ h => hF q h) hF (fun r u t H1 locs1 ht hvm hp hB hz1 hk1 hS1 => ?_)
  obtain ⟨rfl, hf⟩ := hp
  have hB2 : va_P G.1 vwCl (wz G shc ad h1) H1 := by rw [← ht]; exact hB
  exact kk hf H1 locs1 ls (z_join hP hD hsub hf hk1 hB2) (wzD hD) hS1 hl
theorem z_callSN_l {y : MethodName} {ws ws1 : List Cond} {rm : Room} {shc : ZS} {Wr : List Nat} {z1 : Int64} {h1 : HS} {index maxL nA k1 n1 : Nat} {bytes : ByteArray} {ret : Option FieldType} {stk : List Value} {As : List Value} {host : String} (hX : ZC G l0 cc Ts own nL R0 X) (hM : ZMl G l0 y ws rm As shc ad h Wr z1 h1) (hd : decode cc pc = .ok (.invokestatic index, 3)) (hg : GoodIn Ts ws) (hnl : ∀ U, zN U → va_Nw (.methodLinkNest own index y host) U) (hi : (Cond.initialized y.cls) ∈ Ts) (hst : (Cond.static y) ∈ Ts) (hw : ws = Cond.code y bytes maxL ret :: ws1) (hy : y.cls ≠ "java/lang/invoke/MethodHandle" ∧ y.cls ≠ "java/lang/invoke/VarHandle" ∧ (parseMethodDescriptor y.desc).map (fun d => d.parameters.length) = some nA) (hroom : rm.frames + 1 ≤ R0.frames ∧ 8 + (maxL + 11) + rm.locals ≤ R0.locals) (hcs : k + rm.cells ≤ R0.cells ∧ n + rm.slots ≤ R0.slots)  (hn : As.length = nA) (hs : stk = As.reverse ++ st) (hcat : (st.map fun v => v.category).sum ≤ 8) (hsub0 : zsubB sh shc Wr = true) (hk1 : k + rm.cells = k1) (hn1 : n + rm.slots = n1) (kk : zfr Wr h h1 → ZW G X sh ad h1 k1 n1 lv (pc + 3) (.long z1 :: st)) : ZW G X sh ad h k n lv pc stk := by
  obtain ⟨p, l, e, R, s, m, args, below, meth, c, A, Q⟩ := X
  obtain ⟨hx, hb, hml, hown, hts, hK, hA, hN, hl0, hR0, hlk⟩ := hX
  subst hl0
  subst hR0
  subst hs
  have hsub := zsub_of hsub0
  subst hk1
  subst hn1
  refine fun H locs ls hP hD hS hl => ?_
  have hF := z_free hsub hD hS hA
  refine va_calll (va_runSN (As := As) (rest := st) ⟨hx, hb, hml, hown, hts⟩ (hM H.size) ⟨va_cnB nA hts hg hw rfl rfl (hnl _ hN) (hts _ hi) hy hroom, hts _ hst, trivial⟩ ⟨zP_blind, fun U hU hW => ⟨rfl, by rw [hU], by rw [hU]; exact z_sub hsub.1 hP, va_K.moved hW.alike hK, z_subD hsub.1 hsub.2.2 (fun _ _ => trivial) hD, hN.warm hW⟩⟩ rfl hn (hl.1.trans hml) rfl (lv_room hcat) hd hcs) hS (fun q _ h => hF q h) hF (fun r u t H1 locs1 ht hvm hp hB hz1 hk1 hS1 => ?_)
  obtain ⟨rfl, hf⟩ := hp
  have hB2 : va_P G.1 vwCl (wz G shc ad h1) H1 := by rw [← ht]; exact hB
  exact kk hf H1 locs1 ls (z_join hP hD hsub hf hk1 hB2) (wzD hD) hS1 hl
theorem z_callV_v {y : MethodName} {ws ws1 : List Cond} {rm : Room} {shc : ZS} {Wr : List Nat} {h1 : HS} {index maxL nA k1 n1 : Nat} {bytes : ByteArray} {ret : Option FieldType} {stk : List Value} {As : List Value} {b ci N : Nat} {C : String} {T : u_T} {fs : List Nat} (hX : ZC G l0 cc Ts own nL R0 X) (hM : ZMv G l0 y ws rm (.ref (ad b) :: As) shc ad h Wr h1) (hd : decode cc pc = .ok (.invokevirtual index, 3)) (hg : GoodIn Ts (wsV own index C y ws)) (hw : ws = Cond.code y bytes maxL ret :: ws1) (hy : y.cls = C ∧ y.cls ≠ "java/lang/invoke/MethodHandle" ∧ y.cls ≠ "java/lang/invoke/VarHandle" ∧ (parseMethodDescriptor y.desc).map (fun d => d.parameters.length) = some nA) (hroom : rm.frames + 1 ≤ R0.frames ∧ 8 + (maxL + 11) + rm.locals ≤ R0.locals) (hcs : k + rm.cells ≤ R0.cells ∧ n + rm.slots ≤ R0.slots) (q : Nat) (hq : sh[q]? = some (b, .inr (.inr (ci, fs)))) (hcl : vwCl[ci]? = some (C, T, N)) (hn : As.length = nA) (hs : stk = As.reverse ++ .ref (ad b) :: st) (hcat : (st.map fun v => v.category).sum ≤ 8) (hsub0 : zsubB sh shc Wr = true) (hk1 : k + rm.cells = k1) (hn1 : n + rm.slots = n1) (kk : zfr Wr h h1 → ZW G X sh ad h1 k1 n1 lv (pc + 3) (st)) : ZW G X sh ad h k n lv pc stk := by
  obtain ⟨p, l, e, R, s, m, args, below, meth, c, A, Q⟩ := X
  obtain ⟨hx, hb, hml, hown, hts, hK, hA, hN, hl0, hR0, hlk⟩ := hX
  subst hl0
  subst hR0
  subst hs
  have hsub := zsub_of hsub0
  subst hk1
  subst hn1
  refine fun H locs ls hP hD hS hl => ?_
  have hF := z_free hsub hD hS hA
  refine va_callv (va_runV (As := As) (rest := st) ⟨hx, hb, hml, hown, hts⟩ (hM H.size) (cwV nA hts hg hw rfl rfl hy hroom) ⟨zP_blind, va_recv hK hP hcl (wz_at hq), fun U hU hW => ⟨rfl, by rw [hU], by rw [hU]; exact z_sub hsub.1 hP, va_K.moved hW.alike hK, z_subD hsub.1 hsub.2.2 (fun _ _ => trivial) hD, hN.warm hW⟩⟩ rfl hn (hl.1.trans hml) rfl (lv_room hcat) hd hcs) hS (fun q _ h => hF q h) hF (fun u t H1 locs1 ht hvm hp hB hz1 hk1 hS1 => ?_)
  have hf := hp
  have hB2 : va_P G.1 vwCl (wz G shc ad h1) H1 := by rw [← ht]; exact hB
  exact kk hf H1 locs1 ls (z_join hP hD hsub hf hk1 hB2) (wzD hD) hS1 hl
theorem z_callS_v {y : MethodName} {ws ws1 : List Cond} {rm : Room} {shc : ZS} {Wr : List Nat} {h1 : HS} {index maxL nA k1 n1 : Nat} {bytes : ByteArray} {ret : Option FieldType} {stk : List Value} {As : List Value} (hX : ZC G l0 cc Ts own nL R0 X) (hM : ZMv G l0 y ws rm As shc ad h Wr h1) (hd : decode cc pc = .ok (.invokestatic index, 3)) (hg : GoodIn Ts (va_wsS own index y ws)) (hw : ws = Cond.code y bytes maxL ret :: ws1) (hy : y.cls ≠ "java/lang/invoke/MethodHandle" ∧ y.cls ≠ "java/lang/invoke/VarHandle" ∧ (parseMethodDescriptor y.desc).map (fun d => d.parameters.length) = some nA) (hroom : rm.frames + 1 ≤ R0.frames ∧ 8 + (maxL + 11) + rm.locals ≤ R0.locals) (hcs : k + rm.cells ≤ R0.cells ∧ n + rm.slots ≤ R0.slots)  (hn : As.length = nA) (hs : stk = As.reverse ++ st) (hcat : (st.map fun v => v.category).sum ≤ 8) (hsub0 : zsubB sh shc Wr = true) (hk1 : k + rm.cells = k1) (hn1 : n + rm.slots = n1) (kk : zfr Wr h h1 → ZW G X sh ad h1 k1 n1 lv (pc + 3) (st)) : ZW G X sh ad h k n lv pc stk := by
  obtain ⟨p, l, e, R, s, m, args, below, meth, c, A, Q⟩ := X
  obtain ⟨hx, hb, hml, hown, hts, hK, hA, hN, hl0, hR0, hlk⟩ := hX
  subst hl0
  subst hR0
  subst hs
  have hsub := zsub_of hsub0
  subst hk1
  subst hn1
  refine fun H locs ls hP hD hS hl => ?_
  have hF := z_free hsub hD hS hA
  refine va_callv (va_runS (As := As) (rest := st) ⟨hx, hb, hml, hown, hts⟩ (hM H.size) (va_cwS nA hts hg hw rfl rfl hy hroom) ⟨zP_blind, fun U hU hW => ⟨rfl, by rw [hU], by rw [hU]; exact z_sub hsub.1 hP, va_K.moved hW.alike hK, z_subD hsub.1 hsub.2.2 (fun _ _ => trivial) hD, hN.warm hW⟩⟩ rfl hn (hl.1.trans hml) rfl (lv_room hcat) hd hcs) hS (fun q _ h => hF q h) hF (fun u t H1 locs1 ht hvm hp hB hz1 hk1 hS1 => ?_)
  have hf := hp
  have hB2 : va_P G.1 vwCl (wz G shc ad h1) H1 := by rw [← ht]; exact hB
  exact kk hf H1 locs1 ls (z_join hP hD hsub hf hk1 hB2) (wzD hD) hS1 hl
theorem z_callSN_v {y : MethodName} {ws ws1 : List Cond} {rm : Room} {shc : ZS} {Wr : List Nat} {h1 : HS} {index maxL nA k1 n1 : Nat} {bytes : ByteArray} {ret : Option FieldType} {stk : List Value} {As : List Value} {host : String} (hX : ZC G l0 cc Ts own nL R0 X) (hM : ZMv G l0 y ws rm As shc ad h Wr h1) (hd : decode cc pc = .ok (.invokestatic index, 3)) (hg : GoodIn Ts ws) (hnl : ∀ U, zN U → va_Nw (.methodLinkNest own index y host) U) (hi : (Cond.initialized y.cls) ∈ Ts) (hst : (Cond.static y) ∈ Ts) (hw : ws = Cond.code y bytes maxL ret :: ws1) (hy : y.cls ≠ "java/lang/invoke/MethodHandle" ∧ y.cls ≠ "java/lang/invoke/VarHandle" ∧ (parseMethodDescriptor y.desc).map (fun d => d.parameters.length) = some nA) (hroom : rm.frames + 1 ≤ R0.frames ∧ 8 + (maxL + 11) + rm.locals ≤ R0.locals) (hcs : k + rm.cells ≤ R0.cells ∧ n + rm.slots ≤ R0.slots)  (hn : As.length = nA) (hs : stk = As.reverse ++ st) (hcat : (st.map fun v => v.category).sum ≤ 8) (hsub0 : zsubB sh shc Wr = true) (hk1 : k + rm.cells = k1) (hn1 : n + rm.slots = n1) (kk : zfr Wr h h1 → ZW G X sh ad h1 k1 n1 lv (pc + 3) (st)) : ZW G X sh ad h k n lv pc stk := by
  obtain ⟨p, l, e, R, s, m, args, below, meth, c, A, Q⟩ := X
  obtain ⟨hx, hb, hml, hown, hts, hK, hA, hN, hl0, hR0, hlk⟩ := hX
  subst hl0
  subst hR0
  subst hs
  have hsub := zsub_of hsub0
  subst hk1
  subst hn1
  refine fun H locs ls hP hD hS hl => ?_
  have hF := z_free hsub hD hS hA
  refine va_callv (va_runSN (As := As) (rest := st) ⟨hx, hb, hml, hown, hts⟩ (hM H.size) ⟨va_cnB nA hts hg hw rfl rfl (hnl _ hN) (hts _ hi) hy hroom, hts _ hst, trivial⟩ ⟨zP_blind, fun U hU hW => ⟨rfl, by rw [hU], by rw [hU]; exact z_sub hsub.1 hP, va_K.moved hW.alike hK, z_subD hsub.1 hsub.2.2 (fun _ _ => trivial) hD, hN.warm hW⟩⟩ rfl hn (hl.1.trans hml) rfl (lv_room hcat) hd hcs) hS (fun q _ h => hF q h) hF (fun u t H1 locs1 ht hvm hp hB hz1 hk1 hS1 => ?_)
  have hf := hp
  have hB2 : va_P G.1 vwCl (wz G shc ad h1) H1 := by rw [← ht]; exact hB
  exact kk hf H1 locs1 ls (z_join hP hD hsub hf hk1 hB2) (wzD hD) hS1 hl
def zF : Nat := 5000
end ZCALLS
end
section
def sh_0 : ZS := [(1, .inr (.inr (1, [4, 5, 6, 7, 8, 0]))), (2, .inl 6), (3, .inl 6), (4, .inl 48), (5, .inl 48), (6, .inl 48)]
def sh_1 : ZS := [(19, .inr (.inr (3, [22, 0, 0]))), (20, .inl 2000)]
def sh_2 : ZS := [(21, .inr (.inr (3, [24, 0, 0]))), (22, .inl 2000)]
def sh_3 : ZS := [(9, .inr (.inr (4, [12, 13, 14, 15, 16, 17, 18, 19, 0]))), (10, .inl 200), (11, .inl 200), (12, .inl 200), (13, .inl 200), (14, .inl 200), (15, .inl 200), (16, .inl 200), (17, .inl 200)]
def sh_4 : ZS := [(18, .inr (.inr (2, [0, 0, 0, 0, 0, 0, 0, 0])))]
def sh_5 : ZS := [(18, .inr (.inr (2, [0, 0, 0, 0, 0, 0, 0, 0]))), (19, .inr (.inr (3, [22, 0, 0]))), (20, .inl 2000)]
def sh_6 : ZS := [(1, .inr (.inr (1, [4, 5, 6, 7, 8, 0]))), (2, .inl 6), (3, .inl 6), (4, .inl 48), (5, .inl 48), (6, .inl 48), (7, .inr (.inr (0, [3, 10]))), (8, .inl 64)]
def sh_7 : ZS := [(0, .inr (.inr (5, [3, 9, 11, 20, 25, 26, 21, 23, 0, 0, 0, 0, 0, 0, 0, 0]))), (1, .inr (.inr (1, [4, 5, 6, 7, 8, 0]))), (2, .inl 6), (3, .inl 6), (4, .inl 48), (5, .inl 48), (6, .inl 48), (7, .inr (.inr (0, [3, 10]))), (8, .inl 64), (9, .inr (.inr (4, [12, 13, 14, 15, 16, 17, 18, 19, 0]))), (10, .inl 200), (11, .inl 200), (12, .inl 200), (13, .inl 200), (14, .inl 200), (15, .inl 200), (16, .inl 200), (17, .inl 200), (18, .inr (.inr (2, [0, 0, 0, 0, 0, 0, 0, 0]))), (19, .inr (.inr (3, [22, 0, 0]))), (20, .inl 2000), (21, .inr (.inr (3, [24, 0, 0]))), (22, .inl 2000), (23, .inl 200), (24, .inl 2000)]
end
section
def fX1_has (p1 : Int) (h : HS) : Option (Int) := if wr p1 < 0 then some 0 else if wr (h 1 5) ≤ wr p1 then some 0 else some 1
set_option maxRecDepth 100000 in
set_option maxHeartbeats 4000000 in
theorem mX1_has {G : ZG} {l0 : Launch} {ad : Nat → Nat} {h0 : HS} {p1 : Int} {o : Int} (hr : fX1_has p1 h0 = some o) : ZMi G l0 yX1_has wsX1_has ({ frames := 0, cells := 0, slots := 0, locals := 0 }) [.ref (ad 1), .int (iI p1)] sh_0 ad h0 [] o h0 := by
  refine ZMi.ofZ (cc := cX1_has) (maxL := 2) (ret := (some .boolean)) (own := RX1) (lv0 := [(0, .ref (ad 1)), (1, .int (iI p1))]) (by decide) rfl rfl rfl (Nat.le_of_ble_eq_true rfl) rfl ?_
  intro X hX hQ
  have hf : zfr [] h0 h0 := zfr_rf
  have fl_27 : zFld wsX1_has RX1 27 1 RX1 TX1 6 5 := ⟨by decide +kernel, by decide +kernel, by decide, rfl⟩
  unfold fX1_has at hr
  refine z_iload_n hX dX1_has_0 1 rfl ?_
  refine z_if_lt (tgt := 16) hX dX1_has_1 (by decide) rfl hr (fun hr => ?_) (fun hr => ?_)
  · refine z_iconst hX dX1_has_16 ?_
    obtain rfl := Option.some.inj hr
    exact hQ _ _ dX1_has_17 hf (Or.inl rfl)
  · refine z_iload_n hX dX1_has_4 1 rfl ?_
    refine z_aload_n hX dX1_has_5 0 rfl ?_
    refine z_getI hX dX1_has_6 fl_27 0 rfl rfl ?_
    refine z_icmp_ge (tgt := 16) hX dX1_has_9 (by decide) rfl rfl hr (fun hr => ?_) (fun hr => ?_)
    · refine z_iconst hX dX1_has_16 ?_
      obtain rfl := Option.some.inj hr
      exact hQ _ _ dX1_has_17 hf (Or.inl rfl)
    · refine z_iconst hX dX1_has_12 ?_
      refine z_goto (tgt := 17) hX dX1_has_13 (by decide) ?_
      obtain rfl := Option.some.inj hr
      exact hQ _ _ dX1_has_17 hf (Or.inr rfl)

def fX1_size (h : HS) : Option (Int) := some (h 1 5)
set_option maxRecDepth 100000 in
set_option maxHeartbeats 4000000 in
theorem mX1_size {G : ZG} {l0 : Launch} {ad : Nat → Nat} {h0 : HS} {o : Int} (hr : fX1_size h0 = some o) : ZMi G l0 yX1_size wsX1_size ({ frames := 0, cells := 0, slots := 0, locals := 0 }) [.ref (ad 1)] sh_0 ad h0 [] o h0 := by
  refine ZMi.of (cc := cX1_size) (maxL := 1) (ret := (some .int)) (own := RX1) (lv0 := [(0, .ref (ad 1))]) (by decide) rfl rfl rfl (Nat.le_of_ble_eq_true rfl) rfl ?_
  intro X hX hQ
  have hf : zfr [] h0 h0 := zfr_rf
  have fl_27 : zFld wsX1_size RX1 27 1 RX1 TX1 6 5 := ⟨by decide +kernel, by decide +kernel, by decide, rfl⟩
  unfold fX1_size at hr
  refine z_aload_n hX dX1_size_0 0 rfl ?_
  refine z_getI hX dX1_size_1 fl_27 0 rfl rfl ?_
  obtain rfl := Option.some.inj hr
  exact hQ _ _ dX1_size_4 hf

def fX1_letter (p1 : Int) (h : HS) : Option (Int) := (fX1_has p1 h).bind fun r1 => if wr r1 = 0 then some (-1) else if 0 ≤ p1 ∧ p1 < 6 then some (h 2 p1) else none
set_option maxRecDepth 100000 in
set_option maxHeartbeats 4000000 in
theorem mX1_letter {G : ZG} {l0 : Launch} {ad : Nat → Nat} {h0 : HS} {p1 : Int} {o : Int} (hr : fX1_letter p1 h0 = some o) : ZMi G l0 yX1_letter wsX1_letter ({ frames := 1, cells := 0, slots := 0, locals := 21 }) [.ref (ad 1), .int (iI p1)] sh_0 ad h0 [] o h0 := by
  refine ZMi.of (cc := cX1_letter) (maxL := 2) (ret := (some .int)) (own := RX1) (lv0 := [(0, .ref (ad 1)), (1, .int (iI p1))]) (by decide) rfl rfl rfl (Nat.le_of_ble_eq_true rfl) rfl ?_
  intro X hX hQ
  have hf : zfr [] h0 h0 := zfr_rf
  have fl_9 : zFld wsX1_letter RX1 9 1 RX1 TX1 6 0 := ⟨by decide +kernel, by decide +kernel, by decide, rfl⟩
  unfold fX1_letter at hr
  refine z_aload_n hX dX1_letter_0 0 rfl ?_
  refine z_iload_n hX dX1_letter_1 1 rfl ?_
  obtain ⟨r1, hc1, hr⟩ := z_bind hr
  refine z_callV_i (As := [.int (iI p1)]) (k1 := 0) (n1 := 0) (nA := 1) hX (mX1_has hc1) dX1_letter_2 gX1_letter_X1_has rfl ⟨rfl, by decide, by decide, by decide +kernel⟩ ⟨by decide, by decide⟩ ⟨by decide, by decide⟩ 0 rfl rfl rfl rfl (Nat.le_of_ble_eq_true rfl) (by decide +kernel) rfl rfl (fun hg1 => ?_)
  refine z_if_eq (tgt := 17) hX dX1_letter_5 (by decide) rfl hr (fun hr => ?_) (fun hr => ?_)
  · refine z_iconst hX dX1_letter_17 ?_
    obtain rfl := Option.some.inj hr
    exact hQ _ _ dX1_letter_18 hf
  · refine z_aload_n hX dX1_letter_8 0 rfl ?_
    refine z_getR (j := 2) hX dX1_letter_9 fl_9 0 rfl rfl ?_
    refine z_iload_n hX dX1_letter_12 1 rfl ?_
    refine z_iaload (b := 6) hX dX1_letter_13 1 rfl (by decide) rfl hr (fun hr => ?_)
    refine z_goto (tgt := 18) hX dX1_letter_14 (by decide) ?_
    obtain rfl := Option.some.inj hr
    exact hQ _ _ dX1_letter_18 hf

def fX1_stepCount (p1 : Int) (h : HS) : Option (Int) := (fX1_has p1 h).bind fun r1 => if wr r1 = 0 then some 0 else if 0 ≤ p1 ∧ p1 < 6 then some (h 3 p1) else none
set_option maxRecDepth 100000 in
set_option maxHeartbeats 4000000 in
theorem mX1_stepCount {G : ZG} {l0 : Launch} {ad : Nat → Nat} {h0 : HS} {p1 : Int} {o : Int} (hr : fX1_stepCount p1 h0 = some o) : ZMi G l0 yX1_stepCount wsX1_stepCount ({ frames := 1, cells := 0, slots := 0, locals := 21 }) [.ref (ad 1), .int (iI p1)] sh_0 ad h0 [] o h0 := by
  refine ZMi.of (cc := cX1_stepCount) (maxL := 2) (ret := (some .int)) (own := RX1) (lv0 := [(0, .ref (ad 1)), (1, .int (iI p1))]) (by decide) rfl rfl rfl (Nat.le_of_ble_eq_true rfl) rfl ?_
  intro X hX hQ
  have hf : zfr [] h0 h0 := zfr_rf
  have fl_15 : zFld wsX1_stepCount RX1 15 1 RX1 TX1 6 1 := ⟨by decide +kernel, by decide +kernel, by decide, rfl⟩
  unfold fX1_stepCount at hr
  refine z_aload_n hX dX1_stepCount_0 0 rfl ?_
  refine z_iload_n hX dX1_stepCount_1 1 rfl ?_
  obtain ⟨r1, hc1, hr⟩ := z_bind hr
  refine z_callV_i (As := [.int (iI p1)]) (k1 := 0) (n1 := 0) (nA := 1) hX (mX1_has hc1) dX1_stepCount_2 gX1_stepCount_X1_has rfl ⟨rfl, by decide, by decide, by decide +kernel⟩ ⟨by decide, by decide⟩ ⟨by decide, by decide⟩ 0 rfl rfl rfl rfl (Nat.le_of_ble_eq_true rfl) (by decide +kernel) rfl rfl (fun hg1 => ?_)
  refine z_if_eq (tgt := 17) hX dX1_stepCount_5 (by decide) rfl hr (fun hr => ?_) (fun hr => ?_)
  · refine z_iconst hX dX1_stepCount_17 ?_
    obtain rfl := Option.some.inj hr
    exact hQ _ _ dX1_stepCount_18 hf
  · refine z_aload_n hX dX1_stepCount_8 0 rfl ?_
    refine z_getR (j := 3) hX dX1_stepCount_9 fl_15 0 rfl rfl ?_
    refine z_iload_n hX dX1_stepCount_12 1 rfl ?_
    refine z_iaload (b := 6) hX dX1_stepCount_13 2 rfl (by decide) rfl hr (fun hr => ?_)
    refine z_goto (tgt := 18) hX dX1_stepCount_14 (by decide) ?_
    obtain rfl := Option.some.inj hr
    exact hQ _ _ dX1_stepCount_18 hf

def fX1_withLetter_L2 : Nat → Int → Int → HS → Option (Int)
  | 0, _, _, _ => none
  | nf + 1, x1, x2, h => if wr (h 1 5) ≤ wr x2 then some (-1) else if 0 ≤ x2 ∧ x2 < 6 then if wr (h 2 x2) = wr x1 then some x2 else fX1_withLetter_L2 nf x1 (x2 + 1) h else none
def fX1_withLetter (p1 : Int) (h : HS) : Option (Int) := fX1_withLetter_L2 zF p1 0 h
set_option maxRecDepth 100000 in
set_option maxHeartbeats 4000000 in
theorem mX1_withLetter {G : ZG} {l0 : Launch} {ad : Nat → Nat} {h0 : HS} {p1 : Int} {o : Int} (hr : fX1_withLetter p1 h0 = some o) : ZMi G l0 yX1_withLetter wsX1_withLetter ({ frames := 0, cells := 0, slots := 0, locals := 0 }) [.ref (ad 1), .int (iI p1)] sh_0 ad h0 [] o h0 := by
  refine ZMi.of (cc := cX1_withLetter) (maxL := 3) (ret := (some .int)) (own := RX1) (lv0 := [(0, .ref (ad 1)), (1, .int (iI p1))]) (by decide) rfl rfl rfl (Nat.le_of_ble_eq_true rfl) rfl ?_
  intro X hX hQ
  have hf : zfr [] h0 h0 := zfr_rf
  have fl_27 : zFld wsX1_withLetter RX1 27 1 RX1 TX1 6 5 := ⟨by decide +kernel, by decide +kernel, by decide, rfl⟩
  have fl_9 : zFld wsX1_withLetter RX1 9 1 RX1 TX1 6 0 := ⟨by decide +kernel, by decide +kernel, by decide, rfl⟩
  have B2 : ∀ (nf : Nat) (x1 : Int) (x2 : Int), fX1_withLetter_L2 nf x1 x2 h0 = some o → ZW G X sh_0 ad h0 0 0 [(0, .ref (ad 1)), (1, .int (iI x1)), (2, .int (iI x2))] 2 [] := by
    intro nf
    induction nf with
    | zero => intro x1 x2 hr; exact z_none hr
    | succ n2 ih2 =>
      intro x1 x2 hr
      unfold fX1_withLetter_L2 at hr
      refine z_iload_n hX dX1_withLetter_2 2 rfl ?_
      refine z_aload_n hX dX1_withLetter_3 0 rfl ?_
      refine z_getI hX dX1_withLetter_4 fl_27 0 rfl rfl ?_
      refine z_icmp_ge (tgt := 28) hX dX1_withLetter_7 (by decide) rfl rfl hr (fun hr => ?_) (fun hr => ?_)
      · refine z_iconst hX dX1_withLetter_28 ?_
        obtain rfl := Option.some.inj hr
        exact hQ _ _ dX1_withLetter_29 hf
      · refine z_aload_n hX dX1_withLetter_10 0 rfl ?_
        refine z_getR (j := 2) hX dX1_withLetter_11 fl_9 0 rfl rfl ?_
        refine z_iload_n hX dX1_withLetter_14 2 rfl ?_
        refine z_iaload (b := 6) hX dX1_withLetter_15 1 rfl (by decide) rfl hr (fun hr => ?_)
        refine z_iload_n hX dX1_withLetter_16 1 rfl ?_
        refine z_icmp_ne (tgt := 22) hX dX1_withLetter_17 (by decide) rfl rfl hr (fun hr => ?_) (fun hr => ?_)
        · refine z_iinc (lv1 := [(2, .int (iI (x2 + 1))), (0, .ref (ad 1)), (1, .int (iI x1))]) hX dX1_withLetter_22 2 rfl (by decide) rfl ?_
          refine z_goto (tgt := 2) hX dX1_withLetter_25 (by decide) ?_
          refine z_lv [1, 2, 0] rfl ?_
          exact ih2 x1 (x2 + 1) hr
        · refine z_iload_n hX dX1_withLetter_20 2 rfl ?_
          obtain rfl := Option.some.inj hr
          exact hQ _ _ dX1_withLetter_21 hf
  unfold fX1_withLetter at hr
  refine z_iconst hX dX1_withLetter_0 ?_
  refine z_istore_n (lv1 := [(2, .int (iI 0)), (0, .ref (ad 1)), (1, .int (iI p1))]) hX dX1_withLetter_1 (by decide) rfl ?_
  refine z_lv [1, 2, 0] rfl ?_
  exact B2 zF p1 0 hr

def fX1_include (p1 : Int) (h : HS) : Option (Int × HS) := if wr (h 1 5) < 6 then if 0 ≤ (h 1 5) ∧ (h 1 5) < 6 then some (((((hs (hs h 2 (h 1 5) p1) 1 5 ((((hs h 2 (h 1 5) p1)) 1 5) + 1))) 1 5) - 1), (hs (hs h 2 (h 1 5) p1) 1 5 ((((hs h 2 (h 1 5) p1)) 1 5) + 1))) else none else some ((-1), h)
set_option maxRecDepth 100000 in
set_option maxHeartbeats 4000000 in
theorem mX1_include {G : ZG} {l0 : Launch} {ad : Nat → Nat} {h0 : HS} {p1 : Int} {o : Int × HS} (hr : fX1_include p1 h0 = some o) : ZMi G l0 yX1_include wsX1_include ({ frames := 0, cells := 0, slots := 0, locals := 0 }) [.ref (ad 1), .int (iI p1)] sh_0 ad h0 [1, 2] o.1 o.2 := by
  refine ZMi.of (cc := cX1_include) (maxL := 2) (ret := (some .int)) (own := RX1) (lv0 := [(0, .ref (ad 1)), (1, .int (iI p1))]) (by decide) rfl rfl rfl (Nat.le_of_ble_eq_true rfl) rfl ?_
  intro X hX hQ
  have hf : zfr [1, 2] h0 h0 := zfr_rf
  have fl_27 : zFld wsX1_include RX1 27 1 RX1 TX1 6 5 := ⟨by decide +kernel, by decide +kernel, by decide, rfl⟩
  have fl_9 : zFld wsX1_include RX1 9 1 RX1 TX1 6 0 := ⟨by decide +kernel, by decide +kernel, by decide, rfl⟩
  have pu_X1_5 : zPut TX1 6 5 tyX1 .int := ⟨tyX1_ok, nmX1, rfl, by decide +kernel⟩
  unfold fX1_include at hr
  refine z_aload_n hX dX1_include_0 0 rfl ?_
  refine z_getI hX dX1_include_1 fl_27 0 rfl rfl ?_
  refine z_aload_n hX dX1_include_4 0 rfl ?_
  refine z_getR (j := 2) hX dX1_include_5 fl_9 0 rfl rfl ?_
  refine z_alen hX dX1_include_8 1 rfl ?_
  refine z_icmp_lt (tgt := 14) hX dX1_include_9 (by decide) rfl (wr_of (by decide) (by decide)) hr (fun hr => ?_) (fun hr => ?_)
  · refine z_aload_n hX dX1_include_14 0 rfl ?_
    refine z_getR (j := 2) hX dX1_include_15 fl_9 0 rfl rfl ?_
    refine z_aload_n hX dX1_include_18 0 rfl ?_
    refine z_getI hX dX1_include_19 fl_27 0 rfl rfl ?_
    refine z_iload_n hX dX1_include_22 1 rfl ?_
    refine z_iastore (b := 6) hX dX1_include_23 1 rfl (by decide) rfl hr (fun hr => ?_)
    have hf : zfr [1, 2] h0 (hs h0 2 (h0 1 5) p1) := zfr_hs hf (by decide)
    refine z_aload_n hX dX1_include_24 0 rfl ?_
    refine z_dup hX dX1_include_25 rfl ?_
    refine z_getI hX dX1_include_26 fl_27 0 rfl rfl ?_
    refine z_iconst hX dX1_include_29 ?_
    refine z_iadd hX dX1_include_30 ?_
    refine z_putI hX dX1_include_31 fl_27 pu_X1_5 0 rfl rfl ?_
    have hf : zfr [1, 2] h0 (hs (hs h0 2 (h0 1 5) p1) 1 5 ((((hs h0 2 (h0 1 5) p1)) 1 5) + 1)) := zfr_hs hf (by decide)
    refine z_aload_n hX dX1_include_34 0 rfl ?_
    refine z_getI hX dX1_include_35 fl_27 0 rfl rfl ?_
    refine z_iconst hX dX1_include_38 ?_
    refine z_isub hX dX1_include_39 ?_
    obtain rfl := Option.some.inj hr
    exact hQ _ _ dX1_include_40 hf
  · refine z_iconst hX dX1_include_12 ?_
    obtain rfl := Option.some.inj hr
    exact hQ _ _ dX1_include_13 hf

def fX1_includeStep (p1 : Int) (p2 : Int) (p3 : Int) (p4 : Int) (h : HS) : Option (Int × HS) := (fX1_has p1 h).bind fun r1 => if wr r1 = 0 then some ((-1), h) else if 0 ≤ p1 ∧ p1 < 6 then if wr (h 3 p1) < 8 then if 0 ≤ p1 ∧ p1 < 6 then if 0 ≤ ((p1 * 8) + (h 3 p1)) ∧ ((p1 * 8) + (h 3 p1)) < 48 then if 0 ≤ ((p1 * 8) + (h 3 p1)) ∧ ((p1 * 8) + (h 3 p1)) < 48 then if 0 ≤ ((p1 * 8) + (h 3 p1)) ∧ ((p1 * 8) + (h 3 p1)) < 48 then if 0 ≤ p1 ∧ p1 < 6 then if 0 ≤ p1 ∧ p1 < 6 then if 0 ≤ p1 ∧ p1 < 6 then some ((((hs (hs (hs (hs h 4 ((p1 * 8) + (h 3 p1)) p2) 5 ((p1 * 8) + (h 3 p1)) p3) 6 ((p1 * 8) + (h 3 p1)) p4) 3 p1 ((((hs (hs (hs h 4 ((p1 * 8) + (h 3 p1)) p2) 5 ((p1 * 8) + (h 3 p1)) p3) 6 ((p1 * 8) + (h 3 p1)) p4)) 3 p1) + 1))) 3 p1), (hs (hs (hs (hs h 4 ((p1 * 8) + (h 3 p1)) p2) 5 ((p1 * 8) + (h 3 p1)) p3) 6 ((p1 * 8) + (h 3 p1)) p4) 3 p1 ((((hs (hs (hs h 4 ((p1 * 8) + (h 3 p1)) p2) 5 ((p1 * 8) + (h 3 p1)) p3) 6 ((p1 * 8) + (h 3 p1)) p4)) 3 p1) + 1))) else none else none else none else none else none else none else none else some ((-1), h) else none
set_option maxRecDepth 100000 in
set_option maxHeartbeats 4000000 in
theorem mX1_includeStep {G : ZG} {l0 : Launch} {ad : Nat → Nat} {h0 : HS} {p1 : Int} {p2 : Int} {p3 : Int} {p4 : Int} {o : Int × HS} (hr : fX1_includeStep p1 p2 p3 p4 h0 = some o) : ZMi G l0 yX1_includeStep wsX1_includeStep ({ frames := 1, cells := 0, slots := 0, locals := 21 }) [.ref (ad 1), .int (iI p1), .int (iI p2), .int (iI p3), .int (iI p4)] sh_0 ad h0 [3, 4, 5, 6] o.1 o.2 := by
  refine ZMi.of (cc := cX1_includeStep) (maxL := 6) (ret := (some .int)) (own := RX1) (lv0 := [(0, .ref (ad 1)), (1, .int (iI p1)), (2, .int (iI p2)), (3, .int (iI p3)), (4, .int (iI p4))]) (by decide) rfl rfl rfl (Nat.le_of_ble_eq_true rfl) rfl ?_
  intro X hX hQ
  have hf : zfr [3, 4, 5, 6] h0 h0 := zfr_rf
  have fl_15 : zFld wsX1_includeStep RX1 15 1 RX1 TX1 6 1 := ⟨by decide +kernel, by decide +kernel, by decide, rfl⟩
  have fl_18 : zFld wsX1_includeStep RX1 18 1 RX1 TX1 6 2 := ⟨by decide +kernel, by decide +kernel, by decide, rfl⟩
  have fl_21 : zFld wsX1_includeStep RX1 21 1 RX1 TX1 6 3 := ⟨by decide +kernel, by decide +kernel, by decide, rfl⟩
  have fl_24 : zFld wsX1_includeStep RX1 24 1 RX1 TX1 6 4 := ⟨by decide +kernel, by decide +kernel, by decide, rfl⟩
  unfold fX1_includeStep at hr
  refine z_aload_n hX dX1_includeStep_0 0 rfl ?_
  refine z_iload_n hX dX1_includeStep_1 1 rfl ?_
  obtain ⟨r1, hc1, hr⟩ := z_bind hr
  refine z_callV_i (As := [.int (iI p1)]) (k1 := 0) (n1 := 0) (nA := 1) hX (mX1_has hc1) dX1_includeStep_2 gX1_includeStep_X1_has rfl ⟨rfl, by decide, by decide, by decide +kernel⟩ ⟨by decide, by decide⟩ ⟨by decide, by decide⟩ 0 rfl rfl rfl rfl (Nat.le_of_ble_eq_true rfl) (by decide +kernel) rfl rfl (fun hg1 => ?_)
  refine z_if_eq (tgt := 19) hX dX1_includeStep_5 (by decide) rfl hr (fun hr => ?_) (fun hr => ?_)
  · refine z_iconst hX dX1_includeStep_19 ?_
    obtain rfl := Option.some.inj hr
    exact hQ _ _ dX1_includeStep_20 hf
  · refine z_aload_n hX dX1_includeStep_8 0 rfl ?_
    refine z_getR (j := 3) hX dX1_includeStep_9 fl_15 0 rfl rfl ?_
    refine z_iload_n hX dX1_includeStep_12 1 rfl ?_
    refine z_iaload (b := 6) hX dX1_includeStep_13 2 rfl (by decide) rfl hr (fun hr => ?_)
    refine z_bipush hX dX1_includeStep_14 (by decide +kernel) ?_
    refine z_icmp_lt (tgt := 21) hX dX1_includeStep_16 (by decide) rfl (wr_of (by decide) (by decide)) hr (fun hr => ?_) (fun hr => ?_)
    · refine z_iload_n hX dX1_includeStep_21 1 rfl ?_
      refine z_bipush hX dX1_includeStep_22 (by decide +kernel) ?_
      refine z_imul hX dX1_includeStep_24 ?_
      refine z_aload_n hX dX1_includeStep_25 0 rfl ?_
      refine z_getR (j := 3) hX dX1_includeStep_26 fl_15 0 rfl rfl ?_
      refine z_iload_n hX dX1_includeStep_29 1 rfl ?_
      refine z_iaload (b := 6) hX dX1_includeStep_30 2 rfl (by decide) rfl hr (fun hr => ?_)
      refine z_iadd hX dX1_includeStep_31 ?_
      refine z_istore (lv1 := [(5, .int (iI ((p1 * 8) + (h0 3 p1)))), (0, .ref (ad 1)), (1, .int (iI p1)), (2, .int (iI p2)), (3, .int (iI p3)), (4, .int (iI p4))]) hX dX1_includeStep_32 (by decide) rfl ?_
      refine z_aload_n hX dX1_includeStep_34 1 rfl ?_
      refine z_getR (j := 4) hX dX1_includeStep_35 fl_18 0 rfl rfl ?_
      refine z_iload hX dX1_includeStep_38 0 rfl ?_
      refine z_iload_n hX dX1_includeStep_40 3 rfl ?_
      refine z_iastore (b := 48) hX dX1_includeStep_41 3 rfl (by decide) rfl hr (fun hr => ?_)
      have hf : zfr [3, 4, 5, 6] h0 (hs h0 4 ((p1 * 8) + (h0 3 p1)) p2) := zfr_hs hf (by decide)
      refine z_aload_n hX dX1_includeStep_42 1 rfl ?_
      refine z_getR (j := 5) hX dX1_includeStep_43 fl_21 0 rfl rfl ?_
      refine z_iload hX dX1_includeStep_46 0 rfl ?_
      refine z_iload_n hX dX1_includeStep_48 4 rfl ?_
      refine z_iastore (b := 48) hX dX1_includeStep_49 4 rfl (by decide) rfl hr (fun hr => ?_)
      have hf : zfr [3, 4, 5, 6] h0 (hs (hs h0 4 ((p1 * 8) + (h0 3 p1)) p2) 5 ((p1 * 8) + (h0 3 p1)) p3) := zfr_hs hf (by decide)
      refine z_aload_n hX dX1_includeStep_50 1 rfl ?_
      refine z_getR (j := 6) hX dX1_includeStep_51 fl_24 0 rfl rfl ?_
      refine z_iload hX dX1_includeStep_54 0 rfl ?_
      refine z_iload hX dX1_includeStep_56 5 rfl ?_
      refine z_iastore (b := 48) hX dX1_includeStep_58 5 rfl (by decide) rfl hr (fun hr => ?_)
      have hf : zfr [3, 4, 5, 6] h0 (hs (hs (hs h0 4 ((p1 * 8) + (h0 3 p1)) p2) 5 ((p1 * 8) + (h0 3 p1)) p3) 6 ((p1 * 8) + (h0 3 p1)) p4) := zfr_hs hf (by decide)
      refine z_aload_n hX dX1_includeStep_59 1 rfl ?_
      refine z_getR (j := 3) hX dX1_includeStep_60 fl_15 0 rfl rfl ?_
      refine z_iload_n hX dX1_includeStep_63 2 rfl ?_
      refine z_dup2 hX dX1_includeStep_64 rfl rfl ?_
      refine z_iaload (b := 6) hX dX1_includeStep_65 2 rfl (by decide) rfl hr (fun hr => ?_)
      refine z_iconst hX dX1_includeStep_66 ?_
      refine z_iadd hX dX1_includeStep_67 ?_
      refine z_iastore (b := 6) hX dX1_includeStep_68 2 rfl (by decide) rfl hr (fun hr => ?_)
      have hf : zfr [3, 4, 5, 6] h0 (hs (hs (hs (hs h0 4 ((p1 * 8) + (h0 3 p1)) p2) 5 ((p1 * 8) + (h0 3 p1)) p3) 6 ((p1 * 8) + (h0 3 p1)) p4) 3 p1 ((((hs (hs (hs h0 4 ((p1 * 8) + (h0 3 p1)) p2) 5 ((p1 * 8) + (h0 3 p1)) p3) 6 ((p1 * 8) + (h0 3 p1)) p4)) 3 p1) + 1)) := zfr_hs hf (by decide)
      refine z_aload_n hX dX1_includeStep_69 1 rfl ?_
      refine z_getR (j := 3) hX dX1_includeStep_70 fl_15 0 rfl rfl ?_
      refine z_iload_n hX dX1_includeStep_73 2 rfl ?_
      refine z_iaload (b := 6) hX dX1_includeStep_74 2 rfl (by decide) rfl hr (fun hr => ?_)
      obtain rfl := Option.some.inj hr
      exact hQ _ _ dX1_includeStep_75 hf
    · refine z_iconst hX dX1_includeStep_19 ?_
      obtain rfl := Option.some.inj hr
      exact hQ _ _ dX1_includeStep_20 hf
end
