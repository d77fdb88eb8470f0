-- ===== PART A: goes FIRST, ahead of the names: the tables' words, and 'selects' of the private methods out of them =====
/-- a private method of a class that the tables say can be made, by its rows of tables_1 -/
def lw_okq (q : MethodName × Nat) : Prop := (q.1.cls ≠ "java/lang/invoke/MethodHandle" ∧ q.1.cls ≠ "java/lang/invoke/VarHandle") ∧ Cond.instantiable q.1.cls q.2 ∈ tables_1 ∧ Cond.privateMethod q.1 ∈ tables_1 ∧ Cond.instanceMethod q.1 ∈ tables_1
theorem lw_p0 : lw_okq (⟨"DoubleLedger$Journals", "isLine", "(II)Z"⟩, 7) := ⟨⟨by decide +kernel, by decide +kernel⟩, List.mem_of_getElem? (i := 79) (by decide +kernel), List.mem_of_getElem? (i := 354) (by decide +kernel), List.mem_of_getElem? (i := 355) (by decide +kernel)⟩
theorem lw_p1 : lw_okq (⟨"DoubleLedger$Journals", "sumIn", "(II)J"⟩, 7) := ⟨⟨by decide +kernel, by decide +kernel⟩, List.mem_of_getElem? (i := 79) (by decide +kernel), List.mem_of_getElem? (i := 370) (by decide +kernel), List.mem_of_getElem? (i := 371) (by decide +kernel)⟩
theorem lw_p2 : lw_okq (⟨"DoubleLedger$Book", "canBePosted", "(LDoubleLedger$Slip;)Z"⟩, 9) := ⟨⟨by decide +kernel, by decide +kernel⟩, List.mem_of_getElem? (i := 30) (by decide +kernel), List.mem_of_getElem? (i := 412) (by decide +kernel), List.mem_of_getElem? (i := 413) (by decide +kernel)⟩
theorem lw_p3 : lw_okq (⟨"DoubleLedger$Book", "findUnbalanced", "(LDoubleLedger$Slip;)I"⟩, 9) := ⟨⟨by decide +kernel, by decide +kernel⟩, List.mem_of_getElem? (i := 30) (by decide +kernel), List.mem_of_getElem? (i := 416) (by decide +kernel), List.mem_of_getElem? (i := 417) (by decide +kernel)⟩
theorem lw_p4 : lw_okq (⟨"DoubleLedger$Book", "keepsLimits", "(LDoubleLedger$Slip;)Z"⟩, 9) := ⟨⟨by decide +kernel, by decide +kernel⟩, List.mem_of_getElem? (i := 30) (by decide +kernel), List.mem_of_getElem? (i := 424) (by decide +kernel), List.mem_of_getElem? (i := 425) (by decide +kernel)⟩
theorem lw_p5 : lw_okq (⟨"DoubleLedger$Journals", "sealWith", "(JI)J"⟩, 7) := ⟨⟨by decide +kernel, by decide +kernel⟩, List.mem_of_getElem? (i := 79) (by decide +kernel), List.mem_of_getElem? (i := 510) (by decide +kernel), List.mem_of_getElem? (i := 511) (by decide +kernel)⟩
theorem lw_p6 : lw_okq (⟨"DoubleLedger$Journals", "lineOf", "(IJI)J"⟩, 7) := ⟨⟨by decide +kernel, by decide +kernel⟩, List.mem_of_getElem? (i := 79) (by decide +kernel), List.mem_of_getElem? (i := 619) (by decide +kernel), List.mem_of_getElem? (i := 620) (by decide +kernel)⟩
theorem lw_p7 : lw_okq (⟨"DoubleLedger$Tape", "takePart", "(LDoubleLedger$Chart;LDoubleLedger$Slip;)I"⟩, 5) := ⟨⟨by decide +kernel, by decide +kernel⟩, List.mem_of_getElem? (i := 221) (by decide +kernel), List.mem_of_getElem? (i := 678) (by decide +kernel), List.mem_of_getElem? (i := 679) (by decide +kernel)⟩
theorem lw_p8 : lw_okq (⟨"DoubleLedger$Tape", "takeFigures", "(I)I"⟩, 5) := ⟨⟨by decide +kernel, by decide +kernel⟩, List.mem_of_getElem? (i := 221) (by decide +kernel), List.mem_of_getElem? (i := 682) (by decide +kernel), List.mem_of_getElem? (i := 683) (by decide +kernel)⟩
theorem lw_p9 : lw_okq (⟨"DoubleLedger$Tape", "here", "()I"⟩, 5) := ⟨⟨by decide +kernel, by decide +kernel⟩, List.mem_of_getElem? (i := 221) (by decide +kernel), List.mem_of_getElem? (i := 686) (by decide +kernel), List.mem_of_getElem? (i := 687) (by decide +kernel)⟩
theorem lw_p10 : lw_okq (⟨"DoubleLedger$Tape", "takeReversed", "()I"⟩, 5) := ⟨⟨by decide +kernel, by decide +kernel⟩, List.mem_of_getElem? (i := 221) (by decide +kernel), List.mem_of_getElem? (i := 693) (by decide +kernel), List.mem_of_getElem? (i := 694) (by decide +kernel)⟩
theorem lw_p11 : lw_okq (⟨"DoubleLedger$Sheet", "add", "(I)V"⟩, 2) := ⟨⟨by decide +kernel, by decide +kernel⟩, List.mem_of_getElem? (i := 247) (by decide +kernel), List.mem_of_getElem? (i := 759) (by decide +kernel), List.mem_of_getElem? (i := 760) (by decide +kernel)⟩
theorem lw_p12 : lw_okq (⟨"DoubleLedger$Sheet", "addNumber", "(I)V"⟩, 2) := ⟨⟨by decide +kernel, by decide +kernel⟩, List.mem_of_getElem? (i := 247) (by decide +kernel), List.mem_of_getElem? (i := 763) (by decide +kernel), List.mem_of_getElem? (i := 764) (by decide +kernel)⟩
theorem lw_p13 : lw_okq (⟨"DoubleLedgerModel", "addAccount", "(III)I"⟩, 21) := ⟨⟨by decide +kernel, by decide +kernel⟩, List.mem_of_getElem? (i := 865) (by decide +kernel), List.mem_of_getElem? (i := 871) (by decide +kernel), List.mem_of_getElem? (i := 872) (by decide +kernel)⟩
theorem lw_p14 : lw_okq (⟨"DoubleLedgerModel", "isAccount", "(I)Z"⟩, 21) := ⟨⟨by decide +kernel, by decide +kernel⟩, List.mem_of_getElem? (i := 865) (by decide +kernel), List.mem_of_getElem? (i := 945) (by decide +kernel), List.mem_of_getElem? (i := 946) (by decide +kernel)⟩
theorem lw_p15 : lw_okq (⟨"DoubleLedgerModel", "isOf", "(II)Z"⟩, 21) := ⟨⟨by decide +kernel, by decide +kernel⟩, List.mem_of_getElem? (i := 865) (by decide +kernel), List.mem_of_getElem? (i := 959) (by decide +kernel), List.mem_of_getElem? (i := 960) (by decide +kernel)⟩
def lw_privs_1 : List (MethodName × Nat) := [(⟨"DoubleLedger$Journals", "isLine", "(II)Z"⟩, 7), (⟨"DoubleLedger$Journals", "sumIn", "(II)J"⟩, 7), (⟨"DoubleLedger$Book", "canBePosted", "(LDoubleLedger$Slip;)Z"⟩, 9), (⟨"DoubleLedger$Book", "findUnbalanced", "(LDoubleLedger$Slip;)I"⟩, 9), (⟨"DoubleLedger$Book", "keepsLimits", "(LDoubleLedger$Slip;)Z"⟩, 9), (⟨"DoubleLedger$Journals", "sealWith", "(JI)J"⟩, 7), (⟨"DoubleLedger$Journals", "lineOf", "(IJI)J"⟩, 7), (⟨"DoubleLedger$Tape", "takePart", "(LDoubleLedger$Chart;LDoubleLedger$Slip;)I"⟩, 5), (⟨"DoubleLedger$Tape", "takeFigures", "(I)I"⟩, 5), (⟨"DoubleLedger$Tape", "here", "()I"⟩, 5), (⟨"DoubleLedger$Tape", "takeReversed", "()I"⟩, 5), (⟨"DoubleLedger$Sheet", "add", "(I)V"⟩, 2), (⟨"DoubleLedger$Sheet", "addNumber", "(I)V"⟩, 2), (⟨"DoubleLedgerModel", "addAccount", "(III)I"⟩, 21), (⟨"DoubleLedgerModel", "isAccount", "(I)Z"⟩, 21), (⟨"DoubleLedgerModel", "isOf", "(II)Z"⟩, 21)]
theorem lw_r1 : ∀ q ∈ lw_privs_1, lw_okq q := List.forall_mem_cons.mpr ⟨lw_p0, List.forall_mem_cons.mpr ⟨lw_p1, List.forall_mem_cons.mpr ⟨lw_p2, List.forall_mem_cons.mpr ⟨lw_p3, List.forall_mem_cons.mpr ⟨lw_p4, List.forall_mem_cons.mpr ⟨lw_p5, List.forall_mem_cons.mpr ⟨lw_p6, List.forall_mem_cons.mpr ⟨lw_p7, List.forall_mem_cons.mpr ⟨lw_p8, List.forall_mem_cons.mpr ⟨lw_p9, List.forall_mem_cons.mpr ⟨lw_p10, List.forall_mem_cons.mpr ⟨lw_p11, List.forall_mem_cons.mpr ⟨lw_p12, List.forall_mem_cons.mpr ⟨lw_p13, List.forall_mem_cons.mpr ⟨lw_p14, List.forall_mem_cons.mpr ⟨lw_p15, fun _ h => absurd h List.not_mem_nil⟩⟩⟩⟩⟩⟩⟩⟩⟩⟩⟩⟩⟩⟩⟩⟩
theorem lw_p16 : lw_okq (⟨"DoubleLedgerModel", "above", "(I)I"⟩, 21) := ⟨⟨by decide +kernel, by decide +kernel⟩, List.mem_of_getElem? (i := 865) (by decide +kernel), List.mem_of_getElem? (i := 963) (by decide +kernel), List.mem_of_getElem? (i := 964) (by decide +kernel)⟩
theorem lw_p17 : lw_okq (⟨"DoubleLedgerModel", "linesOf", "(I)I"⟩, 21) := ⟨⟨by decide +kernel, by decide +kernel⟩, List.mem_of_getElem? (i := 865) (by decide +kernel), List.mem_of_getElem? (i := 967) (by decide +kernel), List.mem_of_getElem? (i := 968) (by decide +kernel)⟩
theorem lw_p18 : lw_okq (⟨"DoubleLedgerModel", "postings", "()I"⟩, 21) := ⟨⟨by decide +kernel, by decide +kernel⟩, List.mem_of_getElem? (i := 865) (by decide +kernel), List.mem_of_getElem? (i := 971) (by decide +kernel), List.mem_of_getElem? (i := 972) (by decide +kernel)⟩
theorem lw_p19 : lw_okq (⟨"DoubleLedgerModel", "balanceBy", "(II)J"⟩, 21) := ⟨⟨by decide +kernel, by decide +kernel⟩, List.mem_of_getElem? (i := 865) (by decide +kernel), List.mem_of_getElem? (i := 982) (by decide +kernel), List.mem_of_getElem? (i := 983) (by decide +kernel)⟩
theorem lw_p20 : lw_okq (⟨"DoubleLedgerModel", "branchBy", "(III)J"⟩, 21) := ⟨⟨by decide +kernel, by decide +kernel⟩, List.mem_of_getElem? (i := 865) (by decide +kernel), List.mem_of_getElem? (i := 990) (by decide +kernel), List.mem_of_getElem? (i := 991) (by decide +kernel)⟩
theorem lw_p21 : lw_okq (⟨"DoubleLedgerModel", "layPosting", "(IJ)V"⟩, 21) := ⟨⟨by decide +kernel, by decide +kernel⟩, List.mem_of_getElem? (i := 865) (by decide +kernel), List.mem_of_getElem? (i := 1012) (by decide +kernel), List.mem_of_getElem? (i := 1013) (by decide +kernel)⟩
theorem lw_p22 : lw_okq (⟨"DoubleLedgerModel", "isHindered", "()Z"⟩, 21) := ⟨⟨by decide +kernel, by decide +kernel⟩, List.mem_of_getElem? (i := 865) (by decide +kernel), List.mem_of_getElem? (i := 1024) (by decide +kernel), List.mem_of_getElem? (i := 1025) (by decide +kernel)⟩
theorem lw_p23 : lw_okq (⟨"DoubleLedgerModel", "causedAs", "(II)Z"⟩, 21) := ⟨⟨by decide +kernel, by decide +kernel⟩, List.mem_of_getElem? (i := 865) (by decide +kernel), List.mem_of_getElem? (i := 1028) (by decide +kernel), List.mem_of_getElem? (i := 1029) (by decide +kernel)⟩
theorem lw_p24 : lw_okq (⟨"DoubleLedgerModel", "addCause", "(II)V"⟩, 21) := ⟨⟨by decide +kernel, by decide +kernel⟩, List.mem_of_getElem? (i := 865) (by decide +kernel), List.mem_of_getElem? (i := 1032) (by decide +kernel), List.mem_of_getElem? (i := 1033) (by decide +kernel)⟩
theorem lw_p25 : lw_okq (⟨"DoubleLedgerModel", "isUnbalanced", "()Z"⟩, 21) := ⟨⟨by decide +kernel, by decide +kernel⟩, List.mem_of_getElem? (i := 865) (by decide +kernel), List.mem_of_getElem? (i := 1036) (by decide +kernel), List.mem_of_getElem? (i := 1037) (by decide +kernel)⟩
theorem lw_p26 : lw_okq (⟨"DoubleLedgerModel", "isBeyond", "()Z"⟩, 21) := ⟨⟨by decide +kernel, by decide +kernel⟩, List.mem_of_getElem? (i := 865) (by decide +kernel), List.mem_of_getElem? (i := 1040) (by decide +kernel), List.mem_of_getElem? (i := 1041) (by decide +kernel)⟩
theorem lw_p27 : lw_okq (⟨"DoubleLedgerModel", "behind", "(I)J"⟩, 21) := ⟨⟨by decide +kernel, by decide +kernel⟩, List.mem_of_getElem? (i := 865) (by decide +kernel), List.mem_of_getElem? (i := 1044) (by decide +kernel), List.mem_of_getElem? (i := 1045) (by decide +kernel)⟩
theorem lw_p28 : lw_okq (⟨"DoubleLedgerModel", "posted", "(I)I"⟩, 21) := ⟨⟨by decide +kernel, by decide +kernel⟩, List.mem_of_getElem? (i := 865) (by decide +kernel), List.mem_of_getElem? (i := 1048) (by decide +kernel), List.mem_of_getElem? (i := 1049) (by decide +kernel)⟩
theorem lw_p29 : lw_okq (⟨"DoubleLedgerModel", "isJournal", "(I)Z"⟩, 21) := ⟨⟨by decide +kernel, by decide +kernel⟩, List.mem_of_getElem? (i := 865) (by decide +kernel), List.mem_of_getElem? (i := 1056) (by decide +kernel), List.mem_of_getElem? (i := 1057) (by decide +kernel)⟩
theorem lw_p30 : lw_okq (⟨"DoubleLedgerModel", "mayBeReversed", "(I)Z"⟩, 21) := ⟨⟨by decide +kernel, by decide +kernel⟩, List.mem_of_getElem? (i := 865) (by decide +kernel), List.mem_of_getElem? (i := 1060) (by decide +kernel), List.mem_of_getElem? (i := 1061) (by decide +kernel)⟩
theorem lw_p31 : lw_okq (⟨"DoubleLedgerModel", "reversed", "(I)I"⟩, 21) := ⟨⟨by decide +kernel, by decide +kernel⟩, List.mem_of_getElem? (i := 865) (by decide +kernel), List.mem_of_getElem? (i := 1064) (by decide +kernel), List.mem_of_getElem? (i := 1065) (by decide +kernel)⟩
def lw_privs_2 : List (MethodName × Nat) := [(⟨"DoubleLedgerModel", "above", "(I)I"⟩, 21), (⟨"DoubleLedgerModel", "linesOf", "(I)I"⟩, 21), (⟨"DoubleLedgerModel", "postings", "()I"⟩, 21), (⟨"DoubleLedgerModel", "balanceBy", "(II)J"⟩, 21), (⟨"DoubleLedgerModel", "branchBy", "(III)J"⟩, 21), (⟨"DoubleLedgerModel", "layPosting", "(IJ)V"⟩, 21), (⟨"DoubleLedgerModel", "isHindered", "()Z"⟩, 21), (⟨"DoubleLedgerModel", "causedAs", "(II)Z"⟩, 21), (⟨"DoubleLedgerModel", "addCause", "(II)V"⟩, 21), (⟨"DoubleLedgerModel", "isUnbalanced", "()Z"⟩, 21), (⟨"DoubleLedgerModel", "isBeyond", "()Z"⟩, 21), (⟨"DoubleLedgerModel", "behind", "(I)J"⟩, 21), (⟨"DoubleLedgerModel", "posted", "(I)I"⟩, 21), (⟨"DoubleLedgerModel", "isJournal", "(I)Z"⟩, 21), (⟨"DoubleLedgerModel", "mayBeReversed", "(I)Z"⟩, 21), (⟨"DoubleLedgerModel", "reversed", "(I)I"⟩, 21)]
theorem lw_r2 : ∀ q ∈ lw_privs_2, lw_okq q := List.forall_mem_cons.mpr ⟨lw_p16, List.forall_mem_cons.mpr ⟨lw_p17, List.forall_mem_cons.mpr ⟨lw_p18, List.forall_mem_cons.mpr ⟨lw_p19, List.forall_mem_cons.mpr ⟨lw_p20, List.forall_mem_cons.mpr ⟨lw_p21, List.forall_mem_cons.mpr ⟨lw_p22, List.forall_mem_cons.mpr ⟨lw_p23, List.forall_mem_cons.mpr ⟨lw_p24, List.forall_mem_cons.mpr ⟨lw_p25, List.forall_mem_cons.mpr ⟨lw_p26, List.forall_mem_cons.mpr ⟨lw_p27, List.forall_mem_cons.mpr ⟨lw_p28, List.forall_mem_cons.mpr ⟨lw_p29, List.forall_mem_cons.mpr ⟨lw_p30, List.forall_mem_cons.mpr ⟨lw_p31, fun _ h => absurd h List.not_mem_nil⟩⟩⟩⟩⟩⟩⟩⟩⟩⟩⟩⟩⟩⟩⟩⟩
theorem lw_p32 : lw_okq (⟨"DoubleLedgerModel", "sealOf", "(I)J"⟩, 21) := ⟨⟨by decide +kernel, by decide +kernel⟩, List.mem_of_getElem? (i := 865) (by decide +kernel), List.mem_of_getElem? (i := 1084) (by decide +kernel), List.mem_of_getElem? (i := 1085) (by decide +kernel)⟩
theorem lw_p33 : lw_okq (⟨"DoubleLedgerModel", "rateBy", "(II)V"⟩, 21) := ⟨⟨by decide +kernel, by decide +kernel⟩, List.mem_of_getElem? (i := 865) (by decide +kernel), List.mem_of_getElem? (i := 1109) (by decide +kernel), List.mem_of_getElem? (i := 1110) (by decide +kernel)⟩
theorem lw_p34 : lw_okq (⟨"DoubleLedgerModel", "fraction", "(JJ)V"⟩, 21) := ⟨⟨by decide +kernel, by decide +kernel⟩, List.mem_of_getElem? (i := 865) (by decide +kernel), List.mem_of_getElem? (i := 1113) (by decide +kernel), List.mem_of_getElem? (i := 1114) (by decide +kernel)⟩
theorem lw_p35 : lw_okq (⟨"DoubleLedgerModel", "valueBy", "(II)V"⟩, 21) := ⟨⟨by decide +kernel, by decide +kernel⟩, List.mem_of_getElem? (i := 865) (by decide +kernel), List.mem_of_getElem? (i := 1121) (by decide +kernel), List.mem_of_getElem? (i := 1122) (by decide +kernel)⟩
theorem lw_p36 : lw_okq (⟨"DoubleLedgerModel", "journalOf", "(I)I"⟩, 21) := ⟨⟨by decide +kernel, by decide +kernel⟩, List.mem_of_getElem? (i := 865) (by decide +kernel), List.mem_of_getElem? (i := 1157) (by decide +kernel), List.mem_of_getElem? (i := 1158) (by decide +kernel)⟩
theorem lw_p37 : lw_okq (⟨"DoubleLedgerModel", "readText", "()V"⟩, 21) := ⟨⟨by decide +kernel, by decide +kernel⟩, List.mem_of_getElem? (i := 865) (by decide +kernel), List.mem_of_getElem? (i := 1197) (by decide +kernel), List.mem_of_getElem? (i := 1198) (by decide +kernel)⟩
theorem lw_p38 : lw_okq (⟨"DoubleLedgerModel", "readPart", "()V"⟩, 21) := ⟨⟨by decide +kernel, by decide +kernel⟩, List.mem_of_getElem? (i := 865) (by decide +kernel), List.mem_of_getElem? (i := 1201) (by decide +kernel), List.mem_of_getElem? (i := 1202) (by decide +kernel)⟩
theorem lw_p39 : lw_okq (⟨"DoubleLedgerModel", "figures", "(I)I"⟩, 21) := ⟨⟨by decide +kernel, by decide +kernel⟩, List.mem_of_getElem? (i := 865) (by decide +kernel), List.mem_of_getElem? (i := 1205) (by decide +kernel), List.mem_of_getElem? (i := 1206) (by decide +kernel)⟩
theorem lw_p40 : lw_okq (⟨"DoubleLedgerModel", "here", "()I"⟩, 21) := ⟨⟨by decide +kernel, by decide +kernel⟩, List.mem_of_getElem? (i := 865) (by decide +kernel), List.mem_of_getElem? (i := 1209) (by decide +kernel), List.mem_of_getElem? (i := 1210) (by decide +kernel)⟩
theorem lw_p41 : lw_okq (⟨"DoubleLedgerModel", "wrong", "(I)V"⟩, 21) := ⟨⟨by decide +kernel, by decide +kernel⟩, List.mem_of_getElem? (i := 865) (by decide +kernel), List.mem_of_getElem? (i := 1213) (by decide +kernel), List.mem_of_getElem? (i := 1214) (by decide +kernel)⟩
theorem lw_p42 : lw_okq (⟨"DoubleLedgerModel", "expect", "(I)V"⟩, 21) := ⟨⟨by decide +kernel, by decide +kernel⟩, List.mem_of_getElem? (i := 865) (by decide +kernel), List.mem_of_getElem? (i := 1217) (by decide +kernel), List.mem_of_getElem? (i := 1218) (by decide +kernel)⟩
theorem lw_p43 : lw_okq (⟨"DoubleLedgerModel", "doReverse", "(I)Z"⟩, 21) := ⟨⟨by decide +kernel, by decide +kernel⟩, List.mem_of_getElem? (i := 865) (by decide +kernel), List.mem_of_getElem? (i := 1222) (by decide +kernel), List.mem_of_getElem? (i := 1223) (by decide +kernel)⟩
theorem lw_p44 : lw_okq (⟨"DoubleLedgerModel", "put", "(I)V"⟩, 21) := ⟨⟨by decide +kernel, by decide +kernel⟩, List.mem_of_getElem? (i := 865) (by decide +kernel), List.mem_of_getElem? (i := 1231) (by decide +kernel), List.mem_of_getElem? (i := 1232) (by decide +kernel)⟩
theorem lw_p45 : lw_okq (⟨"DoubleLedgerModel", "putNumber", "(J)V"⟩, 21) := ⟨⟨by decide +kernel, by decide +kernel⟩, List.mem_of_getElem? (i := 865) (by decide +kernel), List.mem_of_getElem? (i := 1235) (by decide +kernel), List.mem_of_getElem? (i := 1236) (by decide +kernel)⟩
theorem lw_p46 : lw_okq (⟨"DoubleLedgerModel", "copy", "(Z)V"⟩, 21) := ⟨⟨by decide +kernel, by decide +kernel⟩, List.mem_of_getElem? (i := 865) (by decide +kernel), List.mem_of_getElem? (i := 1275) (by decide +kernel), List.mem_of_getElem? (i := 1276) (by decide +kernel)⟩
def lw_privs_3 : List (MethodName × Nat) := [(⟨"DoubleLedgerModel", "sealOf", "(I)J"⟩, 21), (⟨"DoubleLedgerModel", "rateBy", "(II)V"⟩, 21), (⟨"DoubleLedgerModel", "fraction", "(JJ)V"⟩, 21), (⟨"DoubleLedgerModel", "valueBy", "(II)V"⟩, 21), (⟨"DoubleLedgerModel", "journalOf", "(I)I"⟩, 21), (⟨"DoubleLedgerModel", "readText", "()V"⟩, 21), (⟨"DoubleLedgerModel", "readPart", "()V"⟩, 21), (⟨"DoubleLedgerModel", "figures", "(I)I"⟩, 21), (⟨"DoubleLedgerModel", "here", "()I"⟩, 21), (⟨"DoubleLedgerModel", "wrong", "(I)V"⟩, 21), (⟨"DoubleLedgerModel", "expect", "(I)V"⟩, 21), (⟨"DoubleLedgerModel", "doReverse", "(I)Z"⟩, 21), (⟨"DoubleLedgerModel", "put", "(I)V"⟩, 21), (⟨"DoubleLedgerModel", "putNumber", "(J)V"⟩, 21), (⟨"DoubleLedgerModel", "copy", "(Z)V"⟩, 21)]
theorem lw_r3 : ∀ q ∈ lw_privs_3, lw_okq q := List.forall_mem_cons.mpr ⟨lw_p32, List.forall_mem_cons.mpr ⟨lw_p33, List.forall_mem_cons.mpr ⟨lw_p34, List.forall_mem_cons.mpr ⟨lw_p35, List.forall_mem_cons.mpr ⟨lw_p36, List.forall_mem_cons.mpr ⟨lw_p37, List.forall_mem_cons.mpr ⟨lw_p38, List.forall_mem_cons.mpr ⟨lw_p39, List.forall_mem_cons.mpr ⟨lw_p40, List.forall_mem_cons.mpr ⟨lw_p41, List.forall_mem_cons.mpr ⟨lw_p42, List.forall_mem_cons.mpr ⟨lw_p43, List.forall_mem_cons.mpr ⟨lw_p44, List.forall_mem_cons.mpr ⟨lw_p45, List.forall_mem_cons.mpr ⟨lw_p46, fun _ h => absurd h List.not_mem_nil⟩⟩⟩⟩⟩⟩⟩⟩⟩⟩⟩⟩⟩⟩⟩
def lw_privs : List (MethodName × Nat) := lw_privs_1 ++ (lw_privs_2 ++ (lw_privs_3))
def lw_tbl : List Cond := k2_sels lw_privs ++ tables_1
theorem lw_privs_ok : ∀ q ∈ lw_privs, lw_okq q := by
  show ∀ q ∈ lw_privs_1 ++ (lw_privs_2 ++ (lw_privs_3)), lw_okq q
  exact List.forall_mem_append.mpr ⟨lw_r1, List.forall_mem_append.mpr ⟨lw_r2, lw_r3⟩⟩
/-- the streams that the claim lets the run draw from -/
abbrev lw_cs : List Choice := [Jvm.Choice.named "NaN.bits"]
theorem lw_bits : nanBits ∈ lw_cs := by first | decide | exact List.mem_cons_self | simp [lw_cs, nanBits]

/-! names: classes, fields in the order of the slots, methods (out of claim/NAMES.whole.lean.txt) -/
def RX0 : String := "DoubleLedger$Book"
def TX0 : u_T := fun k => match k with
  | 0 => ("DoubleLedger$Book", "chart", "LDoubleLedger$Chart;", true)
  | 1 => ("DoubleLedger$Book", "journals", "LDoubleLedger$Journals;", true)
  | 2 => ("DoubleLedger$Book", "rates", "LDoubleLedger$Rates;", true)
  | 3 => ("DoubleLedger$Book", "causes", "LDoubleLedger$Causes;", true)
  | 4 => ("DoubleLedger$Book", "open", "LDoubleLedger$Slip;", true)
  | 5 => ("DoubleLedger$Book", "isOpen", "Z", false)
  | 6 => ("DoubleLedger$Book", "day", "I", false)
  | 7 => ("DoubleLedger$Book", "closed", "I", false)
  | _ => ("DoubleLedger$Book", "seals", "[J", true)
def tyX0 : Nat → FieldType := fun k => match k with
  | 0 => .object "DoubleLedger$Chart"
  | 1 => .object "DoubleLedger$Journals"
  | 2 => .object "DoubleLedger$Rates"
  | 3 => .object "DoubleLedger$Causes"
  | 4 => .object "DoubleLedger$Slip"
  | 5 => .boolean
  | 6 => .int
  | 7 => .int
  | _ => .array .long
abbrev wsX00 : List Cond := u_ws RX0 TX0 9
theorem nmX0 : ∀ a, a < 9 → ∀ b, b < 9 → a ≠ b → (TX0 a).2.1 ≠ (TX0 b).2.1 := by decide +kernel
theorem tyX0_ok : ∀ k, k < 9 → parseFieldDescriptor (TX0 k).2.2.1 = some (tyX0 k) := by decide +kernel
def RX1 : String := "DoubleLedger$Causes"
def TX1 : u_T := fun k => match k with
  | 0 => ("DoubleLedger$Causes", "count", "I", false)
  | 1 => ("DoubleLedger$Causes", "which", "[I", true)
  | _ => ("DoubleLedger$Causes", "with", "[I", true)
def tyX1 : Nat → FieldType := fun k => match k with
  | 0 => .int
  | 1 => .array .int
  | _ => .array .int
abbrev wsX10 : List Cond := u_ws RX1 TX1 3
theorem nmX1 : ∀ a, a < 3 → ∀ b, b < 3 → a ≠ b → (TX1 a).2.1 ≠ (TX1 b).2.1 := by decide +kernel
theorem tyX1_ok : ∀ k, k < 3 → parseFieldDescriptor (TX1 k).2.2.1 = some (tyX1 k) := by decide +kernel
def RX2 : String := "DoubleLedger$Chart"
def TX2 : u_T := fun k => match k with
  | 0 => ("DoubleLedger$Chart", "count", "I", false)
  | 1 => ("DoubleLedger$Chart", "parent", "[I", true)
  | 2 => ("DoubleLedger$Chart", "currency", "[I", true)
  | 3 => ("DoubleLedger$Chart", "sort", "[I", true)
  | 4 => ("DoubleLedger$Chart", "floor", "[J", true)
  | 5 => ("DoubleLedger$Chart", "ceiling", "[J", true)
  | _ => ("DoubleLedger$Chart", "budget", "[J", true)
def tyX2 : Nat → FieldType := fun k => match k with
  | 0 => .int
  | 1 => .array .int
  | 2 => .array .int
  | 3 => .array .int
  | 4 => .array .long
  | 5 => .array .long
  | _ => .array .long
abbrev wsX20 : List Cond := u_ws RX2 TX2 7
theorem nmX2 : ∀ a, a < 7 → ∀ b, b < 7 → a ≠ b → (TX2 a).2.1 ≠ (TX2 b).2.1 := by decide +kernel
theorem tyX2_ok : ∀ k, k < 7 → parseFieldDescriptor (TX2 k).2.2.1 = some (tyX2 k) := by decide +kernel
def RX3 : String := "DoubleLedger$Fraction"
def TX3 : u_T := fun k => match k with
  | 0 => ("DoubleLedger$Fraction", "above", "J", false)
  | _ => ("DoubleLedger$Fraction", "below", "J", false)
def tyX3 : Nat → FieldType := fun k => match k with
  | 0 => .long
  | _ => .long
abbrev wsX30 : List Cond := u_ws RX3 TX3 2
theorem nmX3 : ∀ a, a < 2 → ∀ b, b < 2 → a ≠ b → (TX3 a).2.1 ≠ (TX3 b).2.1 := by decide +kernel
theorem tyX3_ok : ∀ k, k < 2 → parseFieldDescriptor (TX3 k).2.2.1 = some (tyX3 k) := by decide +kernel
def RX4 : String := "DoubleLedger$Journals"
def TX4 : u_T := fun k => match k with
  | 0 => ("DoubleLedger$Journals", "count", "I", false)
  | 1 => ("DoubleLedger$Journals", "day", "[I", true)
  | 2 => ("DoubleLedger$Journals", "size", "[I", true)
  | 3 => ("DoubleLedger$Journals", "reverses", "[I", true)
  | 4 => ("DoubleLedger$Journals", "reversedBy", "[I", true)
  | 5 => ("DoubleLedger$Journals", "account", "[I", true)
  | _ => ("DoubleLedger$Journals", "amount", "[I", true)
def tyX4 : Nat → FieldType := fun k => match k with
  | 0 => .int
  | 1 => .array .int
  | 2 => .array .int
  | 3 => .array .int
  | 4 => .array .int
  | 5 => .array .int
  | _ => .array .int
abbrev wsX40 : List Cond := u_ws RX4 TX4 7
theorem nmX4 : ∀ a, a < 7 → ∀ b, b < 7 → a ≠ b → (TX4 a).2.1 ≠ (TX4 b).2.1 := by decide +kernel
theorem tyX4_ok : ∀ k, k < 7 → parseFieldDescriptor (TX4 k).2.2.1 = some (tyX4 k) := by decide +kernel
def RX5 : String := "DoubleLedger$Rates"
def TX5 : u_T := fun k => match k with
  | 0 => ("DoubleLedger$Rates", "count", "[I", true)
  | 1 => ("DoubleLedger$Rates", "day", "[I", true)
  | 2 => ("DoubleLedger$Rates", "above", "[I", true)
  | _ => ("DoubleLedger$Rates", "below", "[I", true)
def tyX5 : Nat → FieldType := fun k => match k with
  | 0 => .array .int
  | 1 => .array .int
  | 2 => .array .int
  | _ => .array .int
abbrev wsX50 : List Cond := u_ws RX5 TX5 4
theorem nmX5 : ∀ a, a < 4 → ∀ b, b < 4 → a ≠ b → (TX5 a).2.1 ≠ (TX5 b).2.1 := by decide +kernel
theorem tyX5_ok : ∀ k, k < 4 → parseFieldDescriptor (TX5 k).2.2.1 = some (tyX5 k) := by decide +kernel
def RX6 : String := "DoubleLedger$Rows"
def TX6 : u_T := fun k => match k with
  | 0 => ("DoubleLedger$Rows", "size", "[I", true)
  | _ => ("DoubleLedger$Rows", "places", "[J", true)
def tyX6 : Nat → FieldType := fun k => match k with
  | 0 => .array .int
  | _ => .array .long
abbrev wsX60 : List Cond := u_ws RX6 TX6 2
theorem nmX6 : ∀ a, a < 2 → ∀ b, b < 2 → a ≠ b → (TX6 a).2.1 ≠ (TX6 b).2.1 := by decide +kernel
theorem tyX6_ok : ∀ k, k < 2 → parseFieldDescriptor (TX6 k).2.2.1 = some (tyX6 k) := by decide +kernel
def RX7 : String := "DoubleLedger$Sheet"
def TX7 : u_T := fun k => match k with
  | 0 => ("DoubleLedger$Sheet", "length", "I", false)
  | _ => ("DoubleLedger$Sheet", "bytes", "[B", true)
def tyX7 : Nat → FieldType := fun k => match k with
  | 0 => .int
  | _ => .array .byte
abbrev wsX70 : List Cond := u_ws RX7 TX7 2
theorem nmX7 : ∀ a, a < 2 → ∀ b, b < 2 → a ≠ b → (TX7 a).2.1 ≠ (TX7 b).2.1 := by decide +kernel
theorem tyX7_ok : ∀ k, k < 2 → parseFieldDescriptor (TX7 k).2.2.1 = some (tyX7 k) := by decide +kernel
def RX8 : String := "DoubleLedger$Slip"
def TX8 : u_T := fun k => match k with
  | 0 => ("DoubleLedger$Slip", "size", "I", false)
  | 1 => ("DoubleLedger$Slip", "account", "[I", true)
  | _ => ("DoubleLedger$Slip", "amount", "[I", true)
def tyX8 : Nat → FieldType := fun k => match k with
  | 0 => .int
  | 1 => .array .int
  | _ => .array .int
abbrev wsX80 : List Cond := u_ws RX8 TX8 3
theorem nmX8 : ∀ a, a < 3 → ∀ b, b < 3 → a ≠ b → (TX8 a).2.1 ≠ (TX8 b).2.1 := by decide +kernel
theorem tyX8_ok : ∀ k, k < 3 → parseFieldDescriptor (TX8 k).2.2.1 = some (tyX8 k) := by decide +kernel
def RX9 : String := "DoubleLedger$Tape"
def TX9 : u_T := fun k => match k with
  | 0 => ("DoubleLedger$Tape", "length", "I", false)
  | 1 => ("DoubleLedger$Tape", "parts", "I", false)
  | 2 => ("DoubleLedger$Tape", "reversed", "I", false)
  | 3 => ("DoubleLedger$Tape", "place", "I", false)
  | _ => ("DoubleLedger$Tape", "bytes", "[B", true)
def tyX9 : Nat → FieldType := fun k => match k with
  | 0 => .int
  | 1 => .int
  | 2 => .int
  | 3 => .int
  | _ => .array .byte
abbrev wsX90 : List Cond := u_ws RX9 TX9 5
theorem nmX9 : ∀ a, a < 5 → ∀ b, b < 5 → a ≠ b → (TX9 a).2.1 ≠ (TX9 b).2.1 := by decide +kernel
theorem tyX9_ok : ∀ k, k < 5 → parseFieldDescriptor (TX9 k).2.2.1 = some (tyX9 k) := by decide +kernel
def RX10 : String := "DoubleLedger"
def TX10 : u_T := fun k => match k with
  | 0 => ("DoubleLedger", "book", "LDoubleLedger$Book;", true)
  | 1 => ("DoubleLedger", "imaged", "LDoubleLedger$Book;", false)
  | 2 => ("DoubleLedger", "draft", "LDoubleLedger$Slip;", true)
  | 3 => ("DoubleLedger", "tape", "LDoubleLedger$Tape;", true)
  | 4 => ("DoubleLedger", "sheet", "LDoubleLedger$Sheet;", true)
  | 5 => ("DoubleLedger", "rows", "LDoubleLedger$Rows;", true)
  | _ => ("DoubleLedger", "fraction", "LDoubleLedger$Fraction;", true)
def tyX10 : Nat → FieldType := fun k => match k with
  | 0 => .object "DoubleLedger$Book"
  | 1 => .object "DoubleLedger$Book"
  | 2 => .object "DoubleLedger$Slip"
  | 3 => .object "DoubleLedger$Tape"
  | 4 => .object "DoubleLedger$Sheet"
  | 5 => .object "DoubleLedger$Rows"
  | _ => .object "DoubleLedger$Fraction"
abbrev wsX100 : List Cond := u_ws RX10 TX10 7
theorem nmX10 : ∀ a, a < 7 → ∀ b, b < 7 → a ≠ b → (TX10 a).2.1 ≠ (TX10 b).2.1 := by decide +kernel
theorem tyX10_ok : ∀ k, k < 7 → parseFieldDescriptor (TX10 k).2.2.1 = some (tyX10 k) := by decide +kernel
def RX11 : String := "DoubleLedgerModel"
def TX11 : u_T := fun k => match k with
  | 0 => ("DoubleLedgerModel", "code", "I", false)
  | 1 => ("DoubleLedgerModel", "n", "[I", true)
  | 2 => ("DoubleLedgerModel", "l", "[J", true)
  | 3 => ("DoubleLedgerModel", "hasImage", "Z", false)
  | 4 => ("DoubleLedgerModel", "keptN", "[I", true)
  | 5 => ("DoubleLedgerModel", "keptL", "[J", true)
  | 6 => ("DoubleLedgerModel", "top", "J", false)
  | 7 => ("DoubleLedgerModel", "bottom", "J", false)
  | 8 => ("DoubleLedgerModel", "tape", "[I", true)
  | 9 => ("DoubleLedgerModel", "taped", "I", false)
  | 10 => ("DoubleLedgerModel", "at", "I", false)
  | 11 => ("DoubleLedgerModel", "fault", "I", false)
  | 12 => ("DoubleLedgerModel", "parts", "I", false)
  | 13 => ("DoubleLedgerModel", "partOf", "[I", true)
  | 14 => ("DoubleLedgerModel", "partAmount", "[J", true)
  | 15 => ("DoubleLedgerModel", "reverts", "I", false)
  | 16 => ("DoubleLedgerModel", "paper", "[I", true)
  | 17 => ("DoubleLedgerModel", "papered", "I", false)
  | 18 => ("DoubleLedgerModel", "holds", "[Z", true)
  | 19 => ("DoubleLedgerModel", "size", "[I", true)
  | _ => ("DoubleLedgerModel", "element", "[J", true)
def tyX11 : Nat → FieldType := fun k => match k with
  | 0 => .int
  | 1 => .array .int
  | 2 => .array .long
  | 3 => .boolean
  | 4 => .array .int
  | 5 => .array .long
  | 6 => .long
  | 7 => .long
  | 8 => .array .int
  | 9 => .int
  | 10 => .int
  | 11 => .int
  | 12 => .int
  | 13 => .array .int
  | 14 => .array .long
  | 15 => .int
  | 16 => .array .int
  | 17 => .int
  | 18 => .array .boolean
  | 19 => .array .int
  | _ => .array .long
abbrev wsX110 : List Cond := u_ws RX11 TX11 21
theorem nmX11 : ∀ a, a < 21 → ∀ b, b < 21 → a ≠ b → (TX11 a).2.1 ≠ (TX11 b).2.1 := by decide +kernel
theorem tyX11_ok : ∀ k, k < 21 → parseFieldDescriptor (TX11 k).2.2.1 = some (tyX11 k) := by decide +kernel
def RX12 : String := "DoubleLedgerLaw"
def RX13 : String := "java/lang/Double"
def RX14 : String := "java/lang/Float"
def RX15 : String := "java/lang/Math"
abbrev cX0_init : ByteArray := prog_2_method_1_code
def yX0_init : MethodName := ⟨RX0, "<init>", "()V"⟩
abbrev cX0_copyFrom : ByteArray := prog_2_method_2_code
def yX0_copyFrom : MethodName := ⟨RX0, "copyFrom", "(LDoubleLedger$Book;)V"⟩
abbrev cX0_isClosedOn : ByteArray := prog_2_method_3_code
def yX0_isClosedOn : MethodName := ⟨RX0, "isClosedOn", "(I)Z"⟩
abbrev cX0_sumByNow : ByteArray := prog_2_method_4_code
def yX0_sumByNow : MethodName := ⟨RX0, "sumByNow", "(I)J"⟩
abbrev cX0_sumOfBranch : ByteArray := prog_2_method_5_code
def yX0_sumOfBranch : MethodName := ⟨RX0, "sumOfBranch", "(IIII)J"⟩
abbrev cX0_writeValue : ByteArray := prog_2_method_6_code
def yX0_writeValue : MethodName := ⟨RX0, "writeValue", "(IILDoubleLedger$Fraction;)V"⟩
abbrev cX0_writeGain : ByteArray := prog_2_method_7_code
def yX0_writeGain : MethodName := ⟨RX0, "writeGain", "(IIIILDoubleLedger$Fraction;)V"⟩
abbrev cX0_tryToPost : ByteArray := prog_2_method_8_code
def yX0_tryToPost : MethodName := ⟨RX0, "tryToPost", "(LDoubleLedger$Slip;I)I"⟩
abbrev cX0_canBePosted : ByteArray := prog_2_method_9_code
def yX0_canBePosted : MethodName := ⟨RX0, "canBePosted", "(LDoubleLedger$Slip;)Z"⟩
abbrev cX0_findUnbalanced : ByteArray := prog_2_method_10_code
def yX0_findUnbalanced : MethodName := ⟨RX0, "findUnbalanced", "(LDoubleLedger$Slip;)I"⟩
abbrev cX0_keepsLimits : ByteArray := prog_2_method_11_code
def yX0_keepsLimits : MethodName := ⟨RX0, "keepsLimits", "(LDoubleLedger$Slip;)Z"⟩
abbrev cX1_init : ByteArray := prog_3_method_1_code
def yX1_init : MethodName := ⟨RX1, "<init>", "()V"⟩
abbrev cX1_copyFrom : ByteArray := prog_3_method_2_code
def yX1_copyFrom : MethodName := ⟨RX1, "copyFrom", "(LDoubleLedger$Causes;)V"⟩
abbrev cX1_add : ByteArray := prog_3_method_3_code
def yX1_add : MethodName := ⟨RX1, "add", "(II)V"⟩
abbrev cX2_init : ByteArray := prog_4_method_1_code
def yX2_init : MethodName := ⟨RX2, "<init>", "()V"⟩
abbrev cX2_copyFrom : ByteArray := prog_4_method_2_code
def yX2_copyFrom : MethodName := ⟨RX2, "copyFrom", "(LDoubleLedger$Chart;)V"⟩
abbrev cX2_has : ByteArray := prog_4_method_3_code
def yX2_has : MethodName := ⟨RX2, "has", "(I)Z"⟩
abbrev cX2_add : ByteArray := prog_4_method_4_code
def yX2_add : MethodName := ⟨RX2, "add", "(III)I"⟩
abbrev cX2_isInBranch : ByteArray := prog_4_method_5_code
def yX2_isInBranch : MethodName := ⟨RX2, "isInBranch", "(II)Z"⟩
abbrev cX2_countStraightBelow : ByteArray := prog_4_method_6_code
def yX2_countStraightBelow : MethodName := ⟨RX2, "countStraightBelow", "(I)I"⟩
abbrev cX2_countBranch : ByteArray := prog_4_method_7_code
def yX2_countBranch : MethodName := ⟨RX2, "countBranch", "(I)I"⟩
abbrev cX2_countAbove : ByteArray := prog_4_method_8_code
def yX2_countAbove : MethodName := ⟨RX2, "countAbove", "(I)I"⟩
abbrev cX2_findMeeting : ByteArray := prog_4_method_9_code
def yX2_findMeeting : MethodName := ⟨RX2, "findMeeting", "(II)I"⟩
abbrev cX3_init : ByteArray := prog_5_method_1_code
def yX3_init : MethodName := ⟨RX3, "<init>", "()V"⟩
abbrev cX3_become : ByteArray := prog_5_method_2_code
def yX3_become : MethodName := ⟨RX3, "become", "(JJ)V"⟩
abbrev cX3_add : ByteArray := prog_5_method_3_code
def yX3_add : MethodName := ⟨RX3, "add", "(JJ)V"⟩
abbrev cX3_half : ByteArray := prog_5_method_4_code
def yX3_half : MethodName := ⟨RX3, "half", "(I)J"⟩
abbrev cX3_quotient : ByteArray := prog_5_method_5_code
def yX3_quotient : MethodName := ⟨RX3, "quotient", "()D"⟩
abbrev cX3_commonDivisor : ByteArray := prog_5_method_6_code
def yX3_commonDivisor : MethodName := ⟨RX3, "commonDivisor", "(JJ)J"⟩
abbrev cX4_init : ByteArray := prog_6_method_1_code
def yX4_init : MethodName := ⟨RX4, "<init>", "()V"⟩
abbrev cX4_copyFrom : ByteArray := prog_6_method_2_code
def yX4_copyFrom : MethodName := ⟨RX4, "copyFrom", "(LDoubleLedger$Journals;)V"⟩
abbrev cX4_has : ByteArray := prog_6_method_3_code
def yX4_has : MethodName := ⟨RX4, "has", "(I)Z"⟩
abbrev cX4_isFull : ByteArray := prog_6_method_4_code
def yX4_isFull : MethodName := ⟨RX4, "isFull", "()Z"⟩
abbrev cX4_add : ByteArray := prog_6_method_5_code
def yX4_add : MethodName := ⟨RX4, "add", "(LDoubleLedger$Slip;II)I"⟩
abbrev cX4_isReversible : ByteArray := prog_6_method_6_code
def yX4_isReversible : MethodName := ⟨RX4, "isReversible", "(I)Z"⟩
abbrev cX4_writeReversal : ByteArray := prog_6_method_7_code
def yX4_writeReversal : MethodName := ⟨RX4, "writeReversal", "(ILDoubleLedger$Slip;)V"⟩
abbrev cX4_isReversal : ByteArray := prog_6_method_8_code
def yX4_isReversal : MethodName := ⟨RX4, "isReversal", "(ILDoubleLedger$Slip;I)Z"⟩
abbrev cX4_countReversals : ByteArray := prog_6_method_9_code
def yX4_countReversals : MethodName := ⟨RX4, "countReversals", "()I"⟩
abbrev cX4_sum : ByteArray := prog_6_method_10_code
def yX4_sum : MethodName := ⟨RX4, "sum", "(III)J"⟩
abbrev cX4_sumIn : ByteArray := prog_6_method_11_code
def yX4_sumIn : MethodName := ⟨RX4, "sumIn", "(II)J"⟩
abbrev cX4_sealOver : ByteArray := prog_6_method_12_code
def yX4_sealOver : MethodName := ⟨RX4, "sealOver", "(II)J"⟩
abbrev cX4_sealWith : ByteArray := prog_6_method_13_code
def yX4_sealWith : MethodName := ⟨RX4, "sealWith", "(JI)J"⟩
abbrev cX4_countLines : ByteArray := prog_6_method_14_code
def yX4_countLines : MethodName := ⟨RX4, "countLines", "(I)I"⟩
abbrev cX4_lineAt : ByteArray := prog_6_method_15_code
def yX4_lineAt : MethodName := ⟨RX4, "lineAt", "(III)J"⟩
abbrev cX4_isLine : ByteArray := prog_6_method_16_code
def yX4_isLine : MethodName := ⟨RX4, "isLine", "(II)Z"⟩
abbrev cX4_lineOf : ByteArray := prog_6_method_17_code
def yX4_lineOf : MethodName := ⟨RX4, "lineOf", "(IJI)J"⟩
abbrev cX5_init : ByteArray := prog_7_method_1_code
def yX5_init : MethodName := ⟨RX5, "<init>", "()V"⟩
abbrev cX5_copyFrom : ByteArray := prog_7_method_2_code
def yX5_copyFrom : MethodName := ⟨RX5, "copyFrom", "(LDoubleLedger$Rates;)V"⟩
abbrev cX5_tell : ByteArray := prog_7_method_3_code
def yX5_tell : MethodName := ⟨RX5, "tell", "(IIII)I"⟩
abbrev cX5_findHeld : ByteArray := prog_7_method_4_code
def yX5_findHeld : MethodName := ⟨RX5, "findHeld", "(II)I"⟩
abbrev cX5_aboveAt : ByteArray := prog_7_method_5_code
def yX5_aboveAt : MethodName := ⟨RX5, "aboveAt", "(I)J"⟩
abbrev cX5_belowAt : ByteArray := prog_7_method_6_code
def yX5_belowAt : MethodName := ⟨RX5, "belowAt", "(I)J"⟩
abbrev cX6_init : ByteArray := prog_8_method_1_code
def yX6_init : MethodName := ⟨RX6, "<init>", "()V"⟩
abbrev cX6_make : ByteArray := prog_8_method_2_code
def yX6_make : MethodName := ⟨RX6, "make", "(II)V"⟩
abbrev cX6_isHeld : ByteArray := prog_8_method_3_code
def yX6_isHeld : MethodName := ⟨RX6, "isHeld", "(I)Z"⟩
abbrev cX6_hasPlace : ByteArray := prog_8_method_4_code
def yX6_hasPlace : MethodName := ⟨RX6, "hasPlace", "(II)Z"⟩
abbrev cX6_put : ByteArray := prog_8_method_5_code
def yX6_put : MethodName := ⟨RX6, "put", "(IIJ)V"⟩
abbrev cX6_at : ByteArray := prog_8_method_6_code
def yX6_at : MethodName := ⟨RX6, "at", "(II)J"⟩
abbrev cX7_init : ByteArray := prog_9_method_1_code
def yX7_init : MethodName := ⟨RX7, "<init>", "()V"⟩
abbrev cX7_write : ByteArray := prog_9_method_2_code
def yX7_write : MethodName := ⟨RX7, "write", "(LDoubleLedger$Journals;I)V"⟩
abbrev cX7_addNumber : ByteArray := prog_9_method_3_code
def yX7_addNumber : MethodName := ⟨RX7, "addNumber", "(I)V"⟩
abbrev cX7_add : ByteArray := prog_9_method_4_code
def yX7_add : MethodName := ⟨RX7, "add", "(I)V"⟩
abbrev cX8_init : ByteArray := prog_10_method_1_code
def yX8_init : MethodName := ⟨RX8, "<init>", "()V"⟩
abbrev cX8_copyFrom : ByteArray := prog_10_method_2_code
def yX8_copyFrom : MethodName := ⟨RX8, "copyFrom", "(LDoubleLedger$Slip;)V"⟩
abbrev cX8_add : ByteArray := prog_10_method_3_code
def yX8_add : MethodName := ⟨RX8, "add", "(II)V"⟩
abbrev cX8_sum : ByteArray := prog_10_method_4_code
def yX8_sum : MethodName := ⟨RX8, "sum", "(I)J"⟩
abbrev cX9_init : ByteArray := prog_11_method_1_code
def yX9_init : MethodName := ⟨RX9, "<init>", "()V"⟩
abbrev cX9_add : ByteArray := prog_11_method_2_code
def yX9_add : MethodName := ⟨RX9, "add", "(I)V"⟩
abbrev cX9_parse : ByteArray := prog_11_method_3_code
def yX9_parse : MethodName := ⟨RX9, "parse", "(LDoubleLedger$Chart;LDoubleLedger$Slip;)I"⟩
abbrev cX9_takePart : ByteArray := prog_11_method_4_code
def yX9_takePart : MethodName := ⟨RX9, "takePart", "(LDoubleLedger$Chart;LDoubleLedger$Slip;)I"⟩
abbrev cX9_takeReversed : ByteArray := prog_11_method_5_code
def yX9_takeReversed : MethodName := ⟨RX9, "takeReversed", "()I"⟩
abbrev cX9_takeFigures : ByteArray := prog_11_method_6_code
def yX9_takeFigures : MethodName := ⟨RX9, "takeFigures", "(I)I"⟩
abbrev cX9_here : ByteArray := prog_11_method_7_code
def yX9_here : MethodName := ⟨RX9, "here", "()I"⟩
abbrev cX10_init : ByteArray := prog_1_method_1_code
def yX10_init : MethodName := ⟨RX10, "<init>", "()V"⟩
abbrev cX10_account : ByteArray := prog_1_method_2_code
def yX10_account : MethodName := ⟨RX10, "account", "(III)I"⟩
abbrev cX10_of : ByteArray := prog_1_method_3_code
def yX10_of : MethodName := ⟨RX10, "of", "(II)I"⟩
abbrev cX10_limits : ByteArray := prog_1_method_4_code
def yX10_limits : MethodName := ⟨RX10, "limits", "(IJJ)I"⟩
abbrev cX10_days : ByteArray := prog_1_method_5_code
def yX10_days : MethodName := ⟨RX10, "days", "(I)I"⟩
abbrev cX10_begin : ByteArray := prog_1_method_6_code
def yX10_begin : MethodName := ⟨RX10, "begin", "()I"⟩
abbrev cX10_posting : ByteArray := prog_1_method_7_code
def yX10_posting : MethodName := ⟨RX10, "posting", "(IJ)I"⟩
abbrev cX10_cancel : ByteArray := prog_1_method_8_code
def yX10_cancel : MethodName := ⟨RX10, "cancel", "()I"⟩
abbrev cX10_post : ByteArray := prog_1_method_9_code
def yX10_post : MethodName := ⟨RX10, "post", "()I"⟩
abbrev cX10_reverse : ByteArray := prog_1_method_10_code
def yX10_reverse : MethodName := ⟨RX10, "reverse", "(I)I"⟩
abbrev cX10_journal : ByteArray := prog_1_method_11_code
def yX10_journal : MethodName := ⟨RX10, "journal", "(II)I"⟩
abbrev cX10_part : ByteArray := prog_1_method_12_code
def yX10_part : MethodName := ⟨RX10, "part", "(III)J"⟩
abbrev cX10_cause : ByteArray := prog_1_method_13_code
def yX10_cause : MethodName := ⟨RX10, "cause", "(II)I"⟩
abbrev cX10_balance : ByteArray := prog_1_method_14_code
def yX10_balance : MethodName := ⟨RX10, "balance", "(II)J"⟩
abbrev cX10_branch : ByteArray := prog_1_method_15_code
def yX10_branch : MethodName := ⟨RX10, "branch", "(III)J"⟩
abbrev cX10_close : ByteArray := prog_1_method_16_code
def yX10_close : MethodName := ⟨RX10, "close", "(I)I"⟩
abbrev cX10_seal : ByteArray := prog_1_method_17_code
def yX10_seal : MethodName := ⟨RX10, "seal", "(I)J"⟩
abbrev cX10_audit : ByteArray := prog_1_method_18_code
def yX10_audit : MethodName := ⟨RX10, "audit", "()I"⟩
abbrev cX10_rate : ByteArray := prog_1_method_19_code
def yX10_rate : MethodName := ⟨RX10, "rate", "(IIII)I"⟩
abbrev cX10_rateOf : ByteArray := prog_1_method_20_code
def yX10_rateOf : MethodName := ⟨RX10, "rateOf", "(III)I"⟩
abbrev cX10_value : ByteArray := prog_1_method_21_code
def yX10_value : MethodName := ⟨RX10, "value", "(III)J"⟩
abbrev cX10_real : ByteArray := prog_1_method_22_code
def yX10_real : MethodName := ⟨RX10, "real", "(III)I"⟩
abbrev cX10_gain : ByteArray := prog_1_method_23_code
def yX10_gain : MethodName := ⟨RX10, "gain", "(IIIII)J"⟩
abbrev cX10_line : ByteArray := prog_1_method_24_code
def yX10_line : MethodName := ⟨RX10, "line", "(III)J"⟩
abbrev cX10_trial : ByteArray := prog_1_method_25_code
def yX10_trial : MethodName := ⟨RX10, "trial", "(III)J"⟩
abbrev cX10_sorts : ByteArray := prog_1_method_26_code
def yX10_sorts : MethodName := ⟨RX10, "sorts", "(II)J"⟩
abbrev cX10_budget : ByteArray := prog_1_method_27_code
def yX10_budget : MethodName := ⟨RX10, "budget", "(IIJ)I"⟩
abbrev cX10_left : ByteArray := prog_1_method_28_code
def yX10_left : MethodName := ⟨RX10, "left", "(II)J"⟩
abbrev cX10_extreme : ByteArray := prog_1_method_29_code
def yX10_extreme : MethodName := ⟨RX10, "extreme", "(II)I"⟩
abbrev cX10_meet : ByteArray := prog_1_method_30_code
def yX10_meet : MethodName := ⟨RX10, "meet", "(II)I"⟩
abbrev cX10_feed : ByteArray := prog_1_method_31_code
def yX10_feed : MethodName := ⟨RX10, "feed", "(I)I"⟩
abbrev cX10_clear : ByteArray := prog_1_method_32_code
def yX10_clear : MethodName := ⟨RX10, "clear", "()I"⟩
abbrev cX10_read : ByteArray := prog_1_method_33_code
def yX10_read : MethodName := ⟨RX10, "read", "()I"⟩
abbrev cX10_spell : ByteArray := prog_1_method_34_code
def yX10_spell : MethodName := ⟨RX10, "spell", "(I)I"⟩
abbrev cX10_paper : ByteArray := prog_1_method_35_code
def yX10_paper : MethodName := ⟨RX10, "paper", "(I)I"⟩
abbrev cX10_told : ByteArray := prog_1_method_36_code
def yX10_told : MethodName := ⟨RX10, "told", "(I)I"⟩
abbrev cX10_list : ByteArray := prog_1_method_37_code
def yX10_list : MethodName := ⟨RX10, "list", "(II)I"⟩
abbrev cX10_set : ByteArray := prog_1_method_38_code
def yX10_set : MethodName := ⟨RX10, "set", "(IIJ)I"⟩
abbrev cX10_get : ByteArray := prog_1_method_39_code
def yX10_get : MethodName := ⟨RX10, "get", "(II)J"⟩
abbrev cX10_lay : ByteArray := prog_1_method_40_code
def yX10_lay : MethodName := ⟨RX10, "lay", "(II)I"⟩
abbrev cX10_judge : ByteArray := prog_1_method_41_code
def yX10_judge : MethodName := ⟨RX10, "judge", "(II)I"⟩
abbrev cX10_image : ByteArray := prog_1_method_42_code
def yX10_image : MethodName := ⟨RX10, "image", "()I"⟩
abbrev cX10_undo : ByteArray := prog_1_method_43_code
def yX10_undo : MethodName := ⟨RX10, "undo", "()I"⟩
abbrev cX10_isCurrency : ByteArray := prog_1_method_44_code
def yX10_isCurrency : MethodName := ⟨RX10, "isCurrency", "(I)Z"⟩
abbrev cX10_isSort : ByteArray := prog_1_method_45_code
def yX10_isSort : MethodName := ⟨RX10, "isSort", "(I)Z"⟩
abbrev cX10_isDay : ByteArray := prog_1_method_46_code
def yX10_isDay : MethodName := ⟨RX10, "isDay", "(I)Z"⟩
abbrev cX10_isPeriod : ByteArray := prog_1_method_47_code
def yX10_isPeriod : MethodName := ⟨RX10, "isPeriod", "(I)Z"⟩
abbrev cX10_isRatePart : ByteArray := prog_1_method_48_code
def yX10_isRatePart : MethodName := ⟨RX10, "isRatePart", "(I)Z"⟩
abbrev cX10_isList : ByteArray := prog_1_method_49_code
def yX10_isList : MethodName := ⟨RX10, "isList", "(I)Z"⟩
abbrev cX10_isOneOfTwo : ByteArray := prog_1_method_50_code
def yX10_isOneOfTwo : MethodName := ⟨RX10, "isOneOfTwo", "(I)Z"⟩
abbrev cX10_firstDay : ByteArray := prog_1_method_51_code
def yX10_firstDay : MethodName := ⟨RX10, "firstDay", "(I)I"⟩
abbrev cX10_lastDay : ByteArray := prog_1_method_52_code
def yX10_lastDay : MethodName := ⟨RX10, "lastDay", "(I)I"⟩
abbrev cX10_bitsOfDouble : ByteArray := prog_1_method_53_code
def yX10_bitsOfDouble : MethodName := ⟨RX10, "bitsOfDouble", "(D)J"⟩
abbrev cX10_bitsOfFloat : ByteArray := prog_1_method_54_code
def yX10_bitsOfFloat : MethodName := ⟨RX10, "bitsOfFloat", "(F)I"⟩
abbrev cX10_bitsInForm : ByteArray := prog_1_method_55_code
def yX10_bitsInForm : MethodName := ⟨RX10, "bitsInForm", "(DII)J"⟩
abbrev cX11_in : ByteArray := prog_13_method_2_code
def yX11_in : MethodName := ⟨RX11, "in", "(III)Z"⟩
abbrev cX11_init : ByteArray := prog_13_method_3_code
def yX11_init : MethodName := ⟨RX11, "<init>", "()V"⟩
abbrev cX11_isAccount : ByteArray := prog_13_method_4_code
def yX11_isAccount : MethodName := ⟨RX11, "isAccount", "(I)Z"⟩
abbrev cX11_isCurrency : ByteArray := prog_13_method_5_code
def yX11_isCurrency : MethodName := ⟨RX11, "isCurrency", "(I)Z"⟩
abbrev cX11_isDay : ByteArray := prog_13_method_6_code
def yX11_isDay : MethodName := ⟨RX11, "isDay", "(I)Z"⟩
abbrev cX11_isJournal : ByteArray := prog_13_method_7_code
def yX11_isJournal : MethodName := ⟨RX11, "isJournal", "(I)Z"⟩
abbrev cX11_addAccount : ByteArray := prog_13_method_8_code
def yX11_addAccount : MethodName := ⟨RX11, "addAccount", "(III)I"⟩
abbrev cX11_account : ByteArray := prog_13_method_9_code
def yX11_account : MethodName := ⟨RX11, "account", "(III)I"⟩
abbrev cX11_isOf : ByteArray := prog_13_method_10_code
def yX11_isOf : MethodName := ⟨RX11, "isOf", "(II)Z"⟩
abbrev cX11_above : ByteArray := prog_13_method_11_code
def yX11_above : MethodName := ⟨RX11, "above", "(I)I"⟩
abbrev cX11_of : ByteArray := prog_13_method_12_code
def yX11_of : MethodName := ⟨RX11, "of", "(II)I"⟩
abbrev cX11_balanceBy : ByteArray := prog_13_method_13_code
def yX11_balanceBy : MethodName := ⟨RX11, "balanceBy", "(II)J"⟩
abbrev cX11_branchBy : ByteArray := prog_13_method_14_code
def yX11_branchBy : MethodName := ⟨RX11, "branchBy", "(III)J"⟩
abbrev cX11_balance : ByteArray := prog_13_method_15_code
def yX11_balance : MethodName := ⟨RX11, "balance", "(II)J"⟩
abbrev cX11_branch : ByteArray := prog_13_method_16_code
def yX11_branch : MethodName := ⟨RX11, "branch", "(III)J"⟩
abbrev cX11_limits : ByteArray := prog_13_method_17_code
def yX11_limits : MethodName := ⟨RX11, "limits", "(IJJ)I"⟩
abbrev cX11_days : ByteArray := prog_13_method_18_code
def yX11_days : MethodName := ⟨RX11, "days", "(I)I"⟩
abbrev cX11_postings : ByteArray := prog_13_method_19_code
def yX11_postings : MethodName := ⟨RX11, "postings", "()I"⟩
abbrev cX11_begin : ByteArray := prog_13_method_20_code
def yX11_begin : MethodName := ⟨RX11, "begin", "()I"⟩
abbrev cX11_layPosting : ByteArray := prog_13_method_21_code
def yX11_layPosting : MethodName := ⟨RX11, "layPosting", "(IJ)V"⟩
abbrev cX11_posting : ByteArray := prog_13_method_22_code
def yX11_posting : MethodName := ⟨RX11, "posting", "(IJ)I"⟩
abbrev cX11_cancel : ByteArray := prog_13_method_23_code
def yX11_cancel : MethodName := ⟨RX11, "cancel", "()I"⟩
abbrev cX11_addCause : ByteArray := prog_13_method_24_code
def yX11_addCause : MethodName := ⟨RX11, "addCause", "(II)V"⟩
abbrev cX11_causedAs : ByteArray := prog_13_method_25_code
def yX11_causedAs : MethodName := ⟨RX11, "causedAs", "(II)Z"⟩
abbrev cX11_isUnbalanced : ByteArray := prog_13_method_26_code
def yX11_isUnbalanced : MethodName := ⟨RX11, "isUnbalanced", "()Z"⟩
abbrev cX11_behind : ByteArray := prog_13_method_27_code
def yX11_behind : MethodName := ⟨RX11, "behind", "(I)J"⟩
abbrev cX11_isBeyond : ByteArray := prog_13_method_28_code
def yX11_isBeyond : MethodName := ⟨RX11, "isBeyond", "()Z"⟩
abbrev cX11_isHindered : ByteArray := prog_13_method_29_code
def yX11_isHindered : MethodName := ⟨RX11, "isHindered", "()Z"⟩
abbrev cX11_posted : ByteArray := prog_13_method_30_code
def yX11_posted : MethodName := ⟨RX11, "posted", "(I)I"⟩
abbrev cX11_post : ByteArray := prog_13_method_31_code
def yX11_post : MethodName := ⟨RX11, "post", "()I"⟩
abbrev cX11_mayBeReversed : ByteArray := prog_13_method_32_code
def yX11_mayBeReversed : MethodName := ⟨RX11, "mayBeReversed", "(I)Z"⟩
abbrev cX11_reversed : ByteArray := prog_13_method_33_code
def yX11_reversed : MethodName := ⟨RX11, "reversed", "(I)I"⟩
abbrev cX11_reverse : ByteArray := prog_13_method_34_code
def yX11_reverse : MethodName := ⟨RX11, "reverse", "(I)I"⟩
abbrev cX11_journal : ByteArray := prog_13_method_35_code
def yX11_journal : MethodName := ⟨RX11, "journal", "(II)I"⟩
abbrev cX11_part : ByteArray := prog_13_method_36_code
def yX11_part : MethodName := ⟨RX11, "part", "(III)J"⟩
abbrev cX11_cause : ByteArray := prog_13_method_37_code
def yX11_cause : MethodName := ⟨RX11, "cause", "(II)I"⟩
abbrev cX11_sealOf : ByteArray := prog_13_method_38_code
def yX11_sealOf : MethodName := ⟨RX11, "sealOf", "(I)J"⟩
abbrev cX11_close : ByteArray := prog_13_method_39_code
def yX11_close : MethodName := ⟨RX11, "close", "(I)I"⟩
abbrev cX11_seal : ByteArray := prog_13_method_40_code
def yX11_seal : MethodName := ⟨RX11, "seal", "(I)J"⟩
abbrev cX11_audit : ByteArray := prog_13_method_41_code
def yX11_audit : MethodName := ⟨RX11, "audit", "()I"⟩
abbrev cX11_rateAt : ByteArray := prog_13_method_42_code
def yX11_rateAt : MethodName := ⟨RX11, "rateAt", "(II)I"⟩
abbrev cX11_rate : ByteArray := prog_13_method_43_code
def yX11_rate : MethodName := ⟨RX11, "rate", "(IIII)I"⟩
abbrev cX11_fraction : ByteArray := prog_13_method_44_code
def yX11_fraction : MethodName := ⟨RX11, "fraction", "(JJ)V"⟩
abbrev cX11_rateBy : ByteArray := prog_13_method_45_code
def yX11_rateBy : MethodName := ⟨RX11, "rateBy", "(II)V"⟩
abbrev cX11_rateOf : ByteArray := prog_13_method_46_code
def yX11_rateOf : MethodName := ⟨RX11, "rateOf", "(III)I"⟩
abbrev cX11_valueBy : ByteArray := prog_13_method_47_code
def yX11_valueBy : MethodName := ⟨RX11, "valueBy", "(II)V"⟩
abbrev cX11_value : ByteArray := prog_13_method_48_code
def yX11_value : MethodName := ⟨RX11, "value", "(III)J"⟩
abbrev cX11_real : ByteArray := prog_13_method_49_code
def yX11_real : MethodName := ⟨RX11, "real", "(III)I"⟩
abbrev cX11_gain : ByteArray := prog_13_method_50_code
def yX11_gain : MethodName := ⟨RX11, "gain", "(IIIII)J"⟩
abbrev cX11_linesOf : ByteArray := prog_13_method_51_code
def yX11_linesOf : MethodName := ⟨RX11, "linesOf", "(I)I"⟩
abbrev cX11_journalOf : ByteArray := prog_13_method_52_code
def yX11_journalOf : MethodName := ⟨RX11, "journalOf", "(I)I"⟩
abbrev cX11_line : ByteArray := prog_13_method_53_code
def yX11_line : MethodName := ⟨RX11, "line", "(III)J"⟩
abbrev cX11_trial : ByteArray := prog_13_method_54_code
def yX11_trial : MethodName := ⟨RX11, "trial", "(III)J"⟩
abbrev cX11_sorts : ByteArray := prog_13_method_55_code
def yX11_sorts : MethodName := ⟨RX11, "sorts", "(II)J"⟩
abbrev cX11_budget : ByteArray := prog_13_method_56_code
def yX11_budget : MethodName := ⟨RX11, "budget", "(IIJ)I"⟩
abbrev cX11_left : ByteArray := prog_13_method_57_code
def yX11_left : MethodName := ⟨RX11, "left", "(II)J"⟩
abbrev cX11_extreme : ByteArray := prog_13_method_58_code
def yX11_extreme : MethodName := ⟨RX11, "extreme", "(II)I"⟩
abbrev cX11_meet : ByteArray := prog_13_method_59_code
def yX11_meet : MethodName := ⟨RX11, "meet", "(II)I"⟩
abbrev cX11_feed : ByteArray := prog_13_method_60_code
def yX11_feed : MethodName := ⟨RX11, "feed", "(I)I"⟩
abbrev cX11_clear : ByteArray := prog_13_method_61_code
def yX11_clear : MethodName := ⟨RX11, "clear", "()I"⟩
abbrev cX11_here : ByteArray := prog_13_method_62_code
def yX11_here : MethodName := ⟨RX11, "here", "()I"⟩
abbrev cX11_wrong : ByteArray := prog_13_method_63_code
def yX11_wrong : MethodName := ⟨RX11, "wrong", "(I)V"⟩
abbrev cX11_expect : ByteArray := prog_13_method_64_code
def yX11_expect : MethodName := ⟨RX11, "expect", "(I)V"⟩
abbrev cX11_figures : ByteArray := prog_13_method_65_code
def yX11_figures : MethodName := ⟨RX11, "figures", "(I)I"⟩
abbrev cX11_readPart : ByteArray := prog_13_method_66_code
def yX11_readPart : MethodName := ⟨RX11, "readPart", "()V"⟩
abbrev cX11_readText : ByteArray := prog_13_method_67_code
def yX11_readText : MethodName := ⟨RX11, "readText", "()V"⟩
abbrev cX11_doReverse : ByteArray := prog_13_method_68_code
def yX11_doReverse : MethodName := ⟨RX11, "doReverse", "(I)Z"⟩
abbrev cX11_read : ByteArray := prog_13_method_69_code
def yX11_read : MethodName := ⟨RX11, "read", "()I"⟩
abbrev cX11_put : ByteArray := prog_13_method_70_code
def yX11_put : MethodName := ⟨RX11, "put", "(I)V"⟩
abbrev cX11_putNumber : ByteArray := prog_13_method_71_code
def yX11_putNumber : MethodName := ⟨RX11, "putNumber", "(J)V"⟩
abbrev cX11_spell : ByteArray := prog_13_method_72_code
def yX11_spell : MethodName := ⟨RX11, "spell", "(I)I"⟩
abbrev cX11_paper : ByteArray := prog_13_method_73_code
def yX11_paper : MethodName := ⟨RX11, "paper", "(I)I"⟩
abbrev cX11_told : ByteArray := prog_13_method_74_code
def yX11_told : MethodName := ⟨RX11, "told", "(I)I"⟩
abbrev cX11_isList : ByteArray := prog_13_method_75_code
def yX11_isList : MethodName := ⟨RX11, "isList", "(I)Z"⟩
abbrev cX11_list : ByteArray := prog_13_method_76_code
def yX11_list : MethodName := ⟨RX11, "list", "(II)I"⟩
abbrev cX11_set : ByteArray := prog_13_method_77_code
def yX11_set : MethodName := ⟨RX11, "set", "(IIJ)I"⟩
abbrev cX11_get : ByteArray := prog_13_method_78_code
def yX11_get : MethodName := ⟨RX11, "get", "(II)J"⟩
abbrev cX11_lay : ByteArray := prog_13_method_79_code
def yX11_lay : MethodName := ⟨RX11, "lay", "(II)I"⟩
abbrev cX11_judge : ByteArray := prog_13_method_80_code
def yX11_judge : MethodName := ⟨RX11, "judge", "(II)I"⟩
abbrev cX11_copy : ByteArray := prog_13_method_81_code
def yX11_copy : MethodName := ⟨RX11, "copy", "(Z)V"⟩
abbrev cX11_image : ByteArray := prog_13_method_82_code
def yX11_image : MethodName := ⟨RX11, "image", "()I"⟩
abbrev cX11_undo : ByteArray := prog_13_method_83_code
def yX11_undo : MethodName := ⟨RX11, "undo", "()I"⟩
abbrev cJxe99ae_isNaN_b9ae7 : ByteArray := prog_14_method_6_code
def yJxe99ae_isNaN_b9ae7 : MethodName := ⟨RX13, "isNaN", "(D)Z"⟩
abbrev cJxe99ae_doubleToLongBits_ccdee : ByteArray := prog_14_method_23_code
def yJxe99ae_doubleToLongBits_ccdee : MethodName := ⟨RX13, "doubleToLongBits", "(D)J"⟩
abbrev cJxf58ca_isNaN_12338 : ByteArray := prog_15_method_6_code
def yJxf58ca_isNaN_12338 : MethodName := ⟨RX14, "isNaN", "(F)Z"⟩
abbrev cJxf58ca_floatToIntBits_5c35a : ByteArray := prog_15_method_24_code
def yJxf58ca_floatToIntBits_5c35a : MethodName := ⟨RX14, "floatToIntBits", "(F)I"⟩
abbrev cJ9_abs_0f7a4 : ByteArray := prog_16_method_59_code
def yJ9_abs_0f7a4 : MethodName := ⟨RX15, "abs", "(I)I"⟩
abbrev cJ9_abs_067f4 : ByteArray := prog_16_method_61_code
def yJ9_abs_067f4 : MethodName := ⟨RX15, "abs", "(J)J"⟩
abbrev cJ9_max_f86c9 : ByteArray := prog_16_method_66_code
def yJ9_max_f86c9 : MethodName := ⟨RX15, "max", "(JJ)J"⟩
abbrev cJ9_min_f86c9 : ByteArray := prog_16_method_70_code
def yJ9_min_f86c9 : MethodName := ⟨RX15, "min", "(JJ)J"⟩
abbrev cL_law : ByteArray := code
def yL_law : MethodName := ⟨RX12, "law", "([I)Z"⟩
abbrev vwCl : List vw_C := [(RX0, TX0, 9), (RX1, TX1, 3), (RX2, TX2, 7), (RX3, TX3, 2), (RX4, TX4, 7), (RX5, TX5, 4), (RX6, TX6, 2), (RX7, TX7, 2), (RX8, TX8, 3), (RX9, TX9, 5), (RX10, TX10, 7), (RX11, TX11, 21)]
